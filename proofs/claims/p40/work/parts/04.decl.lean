theorem dL_cell_0 : decode cL_cell 0 = .ok (.iload_n 1, 1) := by decide +kernel
theorem dL_cell_1 : decode cL_cell 1 = .ok (.aload_n 0, 1) := by decide +kernel
theorem dL_cell_2 : decode cL_cell 2 = .ok (.arraylength, 1) := by decide +kernel
theorem dL_cell_3 : decode cL_cell 3 = .ok (.if_icmp .ge 9, 3) := by decide +kernel
theorem dL_cell_6 : decode cL_cell 6 = .ok (.aload_n 0, 1) := by decide +kernel
theorem dL_cell_7 : decode cL_cell 7 = .ok (.iload_n 1, 1) := by decide +kernel
theorem dL_cell_8 : decode cL_cell 8 = .ok (.iaload, 1) := by decide +kernel
theorem dL_cell_9 : decode cL_cell 9 = .ok (.goto 10, 3) := by decide +kernel
theorem dL_cell_12 : decode cL_cell 12 = .ok (.ldc 7, 2) := by decide +kernel
theorem dL_cell_14 : decode cL_cell 14 = .ok (.iload_n 1, 1) := by decide +kernel
theorem dL_cell_15 : decode cL_cell 15 = .ok (.imul, 1) := by decide +kernel
theorem dL_cell_16 : decode cL_cell 16 = .ok (.ldc 8, 2) := by decide +kernel
theorem dL_cell_18 : decode cL_cell 18 = .ok (.iadd, 1) := by decide +kernel
theorem dL_cell_19 : decode cL_cell 19 = .ok (.ireturn, 1) := by decide +kernel
theorem dL_low_0 : decode cL_low 0 = .ok (.iload_n 0, 1) := by decide +kernel
theorem dL_low_1 : decode cL_low 1 = .ok (.ldc 9, 2) := by decide +kernel
theorem dL_low_3 : decode cL_low 3 = .ok (.iand, 1) := by decide +kernel
theorem dL_low_4 : decode cL_low 4 = .ok (.iload_n 1, 1) := by decide +kernel
theorem dL_low_5 : decode cL_low 5 = .ok (.irem, 1) := by decide +kernel
theorem dL_low_6 : decode cL_low 6 = .ok (.ireturn, 1) := by decide +kernel
theorem dL_land_0 : decode cL_land 0 = .ok (.aload_n 0, 1) := by decide +kernel
theorem dL_land_1 : decode cL_land 1 = .ok (.iload_n 1, 1) := by decide +kernel
theorem dL_land_2 : decode cL_land 2 = .ok (.iconst 1, 1) := by decide +kernel
theorem dL_land_3 : decode cL_land 3 = .ok (.iadd, 1) := by decide +kernel
theorem dL_land_4 : decode cL_land 4 = .ok (.iaload, 1) := by decide +kernel
theorem dL_land_5 : decode cL_land 5 = .ok (.iload_n 2, 1) := by decide +kernel
theorem dL_land_6 : decode cL_land 6 = .ok (.iconst 1, 1) := by decide +kernel
theorem dL_land_7 : decode cL_land 7 = .ok (.iadd, 1) := by decide +kernel
theorem dL_land_8 : decode cL_land 8 = .ok (.ishr, 1) := by decide +kernel
theorem dL_land_9 : decode cL_land 9 = .ok (.iconst 1, 1) := by decide +kernel
theorem dL_land_10 : decode cL_land 10 = .ok (.iand, 1) := by decide +kernel
theorem dL_land_11 : decode cL_land 11 = .ok (.ireturn, 1) := by decide +kernel
theorem dL_frame_0 : decode cL_frame 0 = .ok (.aload_n 1, 1) := by decide +kernel
theorem dL_frame_1 : decode cL_frame 1 = .ok (.iconst 2, 1) := by decide +kernel
theorem dL_frame_2 : decode cL_frame 2 = .ok (.iaload, 1) := by decide +kernel
theorem dL_frame_3 : decode cL_frame 3 = .ok (.iconst 1, 1) := by decide +kernel
theorem dL_frame_4 : decode cL_frame 4 = .ok (.if_icmp .ne 15, 3) := by decide +kernel
theorem dL_frame_7 : decode cL_frame 7 = .ok (.iconst 1, 1) := by decide +kernel
theorem dL_frame_8 : decode cL_frame 8 = .ok (.aload_n 1, 1) := by decide +kernel
theorem dL_frame_9 : decode cL_frame 9 = .ok (.iconst 1, 1) := by decide +kernel
theorem dL_frame_10 : decode cL_frame 10 = .ok (.iaload, 1) := by decide +kernel
theorem dL_frame_11 : decode cL_frame 11 = .ok (.iconst 2, 1) := by decide +kernel
theorem dL_frame_12 : decode cL_frame 12 = .ok (.iadd, 1) := by decide +kernel
theorem dL_frame_13 : decode cL_frame 13 = .ok (.ishl, 1) := by decide +kernel
theorem dL_frame_14 : decode cL_frame 14 = .ok (.iconst 1, 1) := by decide +kernel
theorem dL_frame_15 : decode cL_frame 15 = .ok (.isub, 1) := by decide +kernel
theorem dL_frame_16 : decode cL_frame 16 = .ok (.goto 4, 3) := by decide +kernel
theorem dL_frame_19 : decode cL_frame 19 = .ok (.iconst 0, 1) := by decide +kernel
theorem dL_frame_20 : decode cL_frame 20 = .ok (.istore_n 2, 1) := by decide +kernel
theorem dL_frame_21 : decode cL_frame 21 = .ok (.iconst 0, 1) := by decide +kernel
theorem dL_frame_22 : decode cL_frame 22 = .ok (.istore_n 3, 1) := by decide +kernel
theorem dL_frame_23 : decode cL_frame 23 = .ok (.iload_n 3, 1) := by decide +kernel
theorem dL_frame_24 : decode cL_frame 24 = .ok (.bipush 14, 2) := by decide +kernel
theorem dL_frame_26 : decode cL_frame 26 = .ok (.if_icmp .ge 73, 3) := by decide +kernel
theorem dL_frame_29 : decode cL_frame 29 = .ok (.iload_n 3, 1) := by decide +kernel
theorem dL_frame_30 : decode cL_frame 30 = .ok (.ifCond .le 14, 3) := by decide +kernel
theorem dL_frame_33 : decode cL_frame 33 = .ok (.iload_n 3, 1) := by decide +kernel
theorem dL_frame_34 : decode cL_frame 34 = .ok (.aload_n 1, 1) := by decide +kernel
theorem dL_frame_35 : decode cL_frame 35 = .ok (.iconst 0, 1) := by decide +kernel
theorem dL_frame_36 : decode cL_frame 36 = .ok (.iaload, 1) := by decide +kernel
theorem dL_frame_37 : decode cL_frame 37 = .ok (.if_icmp .gt 7, 3) := by decide +kernel
theorem dL_frame_40 : decode cL_frame 40 = .ok (.iconst 1, 1) := by decide +kernel
theorem dL_frame_41 : decode cL_frame 41 = .ok (.goto 4, 3) := by decide +kernel
theorem dL_frame_44 : decode cL_frame 44 = .ok (.iconst 0, 1) := by decide +kernel
theorem dL_frame_45 : decode cL_frame 45 = .ok (.istore 4, 2) := by decide +kernel
theorem dL_frame_47 : decode cL_frame 47 = .ok (.iconst 1, 1) := by decide +kernel
theorem dL_frame_48 : decode cL_frame 48 = .ok (.iconst 1, 1) := by decide +kernel
theorem dL_frame_49 : decode cL_frame 49 = .ok (.aload_n 1, 1) := by decide +kernel
theorem dL_frame_50 : decode cL_frame 50 = .ok (.iconst 1, 1) := by decide +kernel
theorem dL_frame_51 : decode cL_frame 51 = .ok (.iaload, 1) := by decide +kernel
theorem dL_frame_52 : decode cL_frame 52 = .ok (.iconst 1, 1) := by decide +kernel
theorem dL_frame_53 : decode cL_frame 53 = .ok (.iadd, 1) := by decide +kernel
theorem dL_frame_54 : decode cL_frame 54 = .ok (.ishl, 1) := by decide +kernel
theorem dL_frame_55 : decode cL_frame 55 = .ok (.ior, 1) := by decide +kernel
theorem dL_frame_56 : decode cL_frame 56 = .ok (.istore 5, 2) := by decide +kernel
theorem dL_frame_58 : decode cL_frame 58 = .ok (.aload_n 0, 1) := by decide +kernel
theorem dL_frame_59 : decode cL_frame 59 = .ok (.iload_n 3, 1) := by decide +kernel
theorem dL_frame_60 : decode cL_frame 60 = .ok (.iload 4, 2) := by decide +kernel
theorem dL_frame_62 : decode cL_frame 62 = .ok (.ifCond .ne 7, 3) := by decide +kernel
theorem dL_frame_65 : decode cL_frame 65 = .ok (.iload_n 2, 1) := by decide +kernel
theorem dL_frame_66 : decode cL_frame 66 = .ok (.goto 26, 3) := by decide +kernel
theorem dL_frame_69 : decode cL_frame 69 = .ok (.aload_n 0, 1) := by decide +kernel
theorem dL_frame_70 : decode cL_frame 70 = .ok (.iload_n 3, 1) := by decide +kernel
theorem dL_frame_71 : decode cL_frame 71 = .ok (.iaload, 1) := by decide +kernel
theorem dL_frame_72 : decode cL_frame 72 = .ok (.iload 5, 2) := by decide +kernel
theorem dL_frame_74 : decode cL_frame 74 = .ok (.iconst (-1), 1) := by decide +kernel
theorem dL_frame_75 : decode cL_frame 75 = .ok (.ixor, 1) := by decide +kernel
theorem dL_frame_76 : decode cL_frame 76 = .ok (.iand, 1) := by decide +kernel
theorem dL_frame_77 : decode cL_frame 77 = .ok (.iconst 1, 1) := by decide +kernel
theorem dL_frame_78 : decode cL_frame 78 = .ok (.aload_n 1, 1) := by decide +kernel
theorem dL_frame_79 : decode cL_frame 79 = .ok (.iconst 1, 1) := by decide +kernel
theorem dL_frame_80 : decode cL_frame 80 = .ok (.iaload, 1) := by decide +kernel
theorem dL_frame_81 : decode cL_frame 81 = .ok (.iconst 2, 1) := by decide +kernel
theorem dL_frame_82 : decode cL_frame 82 = .ok (.iadd, 1) := by decide +kernel
theorem dL_frame_83 : decode cL_frame 83 = .ok (.ishl, 1) := by decide +kernel
theorem dL_frame_84 : decode cL_frame 84 = .ok (.iconst 1, 1) := by decide +kernel
theorem dL_frame_85 : decode cL_frame 85 = .ok (.isub, 1) := by decide +kernel
theorem dL_frame_86 : decode cL_frame 86 = .ok (.iand, 1) := by decide +kernel
theorem dL_frame_87 : decode cL_frame 87 = .ok (.iload_n 2, 1) := by decide +kernel
theorem dL_frame_88 : decode cL_frame 88 = .ok (.iload 5, 2) := by decide +kernel
theorem dL_frame_90 : decode cL_frame 90 = .ok (.iand, 1) := by decide +kernel
theorem dL_frame_91 : decode cL_frame 91 = .ok (.ior, 1) := by decide +kernel
theorem dL_frame_92 : decode cL_frame 92 = .ok (.iastore, 1) := by decide +kernel
theorem dL_frame_93 : decode cL_frame 93 = .ok (.iinc 3 1, 3) := by decide +kernel
theorem dL_frame_96 : decode cL_frame 96 = .ok (.goto (-73), 3) := by decide +kernel
theorem dL_frame_99 : decode cL_frame 99 = .ok (.return_, 1) := by decide +kernel
theorem dL_lay_0 : decode cL_lay 0 = .ok (.aload_n 0, 1) := by decide +kernel
theorem dL_lay_1 : decode cL_lay 1 = .ok (.iload_n 1, 1) := by decide +kernel
theorem dL_lay_2 : decode cL_lay 2 = .ok (.iconst 1, 1) := by decide +kernel
theorem dL_lay_3 : decode cL_lay 3 = .ok (.iadd, 1) := by decide +kernel
theorem dL_lay_4 : decode cL_lay 4 = .ok (.aload_n 0, 1) := by decide +kernel
theorem dL_lay_5 : decode cL_lay 5 = .ok (.iload_n 1, 1) := by decide +kernel
theorem dL_lay_6 : decode cL_lay 6 = .ok (.iconst 1, 1) := by decide +kernel
theorem dL_lay_7 : decode cL_lay 7 = .ok (.iadd, 1) := by decide +kernel
theorem dL_lay_8 : decode cL_lay 8 = .ok (.iaload, 1) := by decide +kernel
theorem dL_lay_9 : decode cL_lay 9 = .ok (.iconst 1, 1) := by decide +kernel
theorem dL_lay_10 : decode cL_lay 10 = .ok (.iload_n 2, 1) := by decide +kernel
theorem dL_lay_11 : decode cL_lay 11 = .ok (.iconst 1, 1) := by decide +kernel
theorem dL_lay_12 : decode cL_lay 12 = .ok (.iadd, 1) := by decide +kernel
theorem dL_lay_13 : decode cL_lay 13 = .ok (.ishl, 1) := by decide +kernel
theorem dL_lay_14 : decode cL_lay 14 = .ok (.iconst (-1), 1) := by decide +kernel
theorem dL_lay_15 : decode cL_lay 15 = .ok (.ixor, 1) := by decide +kernel
theorem dL_lay_16 : decode cL_lay 16 = .ok (.iand, 1) := by decide +kernel
theorem dL_lay_17 : decode cL_lay 17 = .ok (.iload_n 3, 1) := by decide +kernel
theorem dL_lay_18 : decode cL_lay 18 = .ok (.iload_n 2, 1) := by decide +kernel
theorem dL_lay_19 : decode cL_lay 19 = .ok (.iconst 1, 1) := by decide +kernel
theorem dL_lay_20 : decode cL_lay 20 = .ok (.iadd, 1) := by decide +kernel
theorem dL_lay_21 : decode cL_lay 21 = .ok (.ishl, 1) := by decide +kernel
theorem dL_lay_22 : decode cL_lay 22 = .ok (.ior, 1) := by decide +kernel
theorem dL_lay_23 : decode cL_lay 23 = .ok (.iastore, 1) := by decide +kernel
theorem dL_lay_24 : decode cL_lay 24 = .ok (.return_, 1) := by decide +kernel
theorem dL_pin_0 : decode cL_pin 0 = .ok (.aload_n 0, 1) := by decide +kernel
theorem dL_pin_1 : decode cL_pin 1 = .ok (.iconst 3, 1) := by decide +kernel
theorem dL_pin_2 : decode cL_pin 2 = .ok (.iload_n 1, 1) := by decide +kernel
theorem dL_pin_3 : decode cL_pin 3 = .ok (.imul, 1) := by decide +kernel
theorem dL_pin_4 : decode cL_pin 4 = .ok (.iload_n 2, 1) := by decide +kernel
theorem dL_pin_5 : decode cL_pin 5 = .ok (.iconst 4, 1) := by decide +kernel
theorem dL_pin_6 : decode cL_pin 6 = .ok (.idiv, 1) := by decide +kernel
theorem dL_pin_7 : decode cL_pin 7 = .ok (.iadd, 1) := by decide +kernel
theorem dL_pin_8 : decode cL_pin 8 = .ok (.iaload, 1) := by decide +kernel
theorem dL_pin_9 : decode cL_pin 9 = .ok (.bipush 6, 2) := by decide +kernel
theorem dL_pin_11 : decode cL_pin 11 = .ok (.iload_n 2, 1) := by decide +kernel
theorem dL_pin_12 : decode cL_pin 12 = .ok (.iconst 4, 1) := by decide +kernel
theorem dL_pin_13 : decode cL_pin 13 = .ok (.irem, 1) := by decide +kernel
theorem dL_pin_14 : decode cL_pin 14 = .ok (.imul, 1) := by decide +kernel
theorem dL_pin_15 : decode cL_pin 15 = .ok (.ishr, 1) := by decide +kernel
theorem dL_pin_16 : decode cL_pin 16 = .ok (.bipush 63, 2) := by decide +kernel
theorem dL_pin_18 : decode cL_pin 18 = .ok (.iand, 1) := by decide +kernel
theorem dL_pin_19 : decode cL_pin 19 = .ok (.ireturn, 1) := by decide +kernel
theorem dL_layPin_0 : decode cL_layPin 0 = .ok (.aload_n 0, 1) := by decide +kernel
theorem dL_layPin_1 : decode cL_layPin 1 = .ok (.iconst 3, 1) := by decide +kernel
theorem dL_layPin_2 : decode cL_layPin 2 = .ok (.iload_n 1, 1) := by decide +kernel
theorem dL_layPin_3 : decode cL_layPin 3 = .ok (.imul, 1) := by decide +kernel
theorem dL_layPin_4 : decode cL_layPin 4 = .ok (.iload_n 2, 1) := by decide +kernel
theorem dL_layPin_5 : decode cL_layPin 5 = .ok (.iconst 4, 1) := by decide +kernel
theorem dL_layPin_6 : decode cL_layPin 6 = .ok (.idiv, 1) := by decide +kernel
theorem dL_layPin_7 : decode cL_layPin 7 = .ok (.iadd, 1) := by decide +kernel
theorem dL_layPin_8 : decode cL_layPin 8 = .ok (.aload_n 0, 1) := by decide +kernel
theorem dL_layPin_9 : decode cL_layPin 9 = .ok (.iconst 3, 1) := by decide +kernel
theorem dL_layPin_10 : decode cL_layPin 10 = .ok (.iload_n 1, 1) := by decide +kernel
theorem dL_layPin_11 : decode cL_layPin 11 = .ok (.imul, 1) := by decide +kernel
theorem dL_layPin_12 : decode cL_layPin 12 = .ok (.iload_n 2, 1) := by decide +kernel
theorem dL_layPin_13 : decode cL_layPin 13 = .ok (.iconst 4, 1) := by decide +kernel
theorem dL_layPin_14 : decode cL_layPin 14 = .ok (.idiv, 1) := by decide +kernel
theorem dL_layPin_15 : decode cL_layPin 15 = .ok (.iadd, 1) := by decide +kernel
theorem dL_layPin_16 : decode cL_layPin 16 = .ok (.iaload, 1) := by decide +kernel
theorem dL_layPin_17 : decode cL_layPin 17 = .ok (.bipush 63, 2) := by decide +kernel
theorem dL_layPin_19 : decode cL_layPin 19 = .ok (.bipush 6, 2) := by decide +kernel
theorem dL_layPin_21 : decode cL_layPin 21 = .ok (.iload_n 2, 1) := by decide +kernel
theorem dL_layPin_22 : decode cL_layPin 22 = .ok (.iconst 4, 1) := by decide +kernel
theorem dL_layPin_23 : decode cL_layPin 23 = .ok (.irem, 1) := by decide +kernel
theorem dL_layPin_24 : decode cL_layPin 24 = .ok (.imul, 1) := by decide +kernel
theorem dL_layPin_25 : decode cL_layPin 25 = .ok (.ishl, 1) := by decide +kernel
theorem dL_layPin_26 : decode cL_layPin 26 = .ok (.iconst (-1), 1) := by decide +kernel
theorem dL_layPin_27 : decode cL_layPin 27 = .ok (.ixor, 1) := by decide +kernel
theorem dL_layPin_28 : decode cL_layPin 28 = .ok (.iand, 1) := by decide +kernel
theorem dL_layPin_29 : decode cL_layPin 29 = .ok (.iload_n 3, 1) := by decide +kernel
theorem dL_layPin_30 : decode cL_layPin 30 = .ok (.bipush 6, 2) := by decide +kernel
theorem dL_layPin_32 : decode cL_layPin 32 = .ok (.iload_n 2, 1) := by decide +kernel
theorem dL_layPin_33 : decode cL_layPin 33 = .ok (.iconst 4, 1) := by decide +kernel
theorem dL_layPin_34 : decode cL_layPin 34 = .ok (.irem, 1) := by decide +kernel
theorem dL_layPin_35 : decode cL_layPin 35 = .ok (.imul, 1) := by decide +kernel
theorem dL_layPin_36 : decode cL_layPin 36 = .ok (.ishl, 1) := by decide +kernel
theorem dL_layPin_37 : decode cL_layPin 37 = .ok (.ior, 1) := by decide +kernel
theorem dL_layPin_38 : decode cL_layPin 38 = .ok (.iastore, 1) := by decide +kernel
theorem dL_layPin_39 : decode cL_layPin 39 = .ok (.return_, 1) := by decide +kernel
theorem dL_side_0 : decode cL_side 0 = .ok (.iload_n 0, 1) := by decide +kernel
theorem dL_side_1 : decode cL_side 1 = .ok (.ifCond .ne 7, 3) := by decide +kernel
theorem dL_side_4 : decode cL_side 4 = .ok (.iconst (-1), 1) := by decide +kernel
theorem dL_side_5 : decode cL_side 5 = .ok (.goto 42, 3) := by decide +kernel
theorem dL_side_8 : decode cL_side 8 = .ok (.iload_n 0, 1) := by decide +kernel
theorem dL_side_9 : decode cL_side 9 = .ok (.iconst 4, 1) := by decide +kernel
theorem dL_side_10 : decode cL_side 10 = .ok (.if_icmp .ne 7, 3) := by decide +kernel
theorem dL_side_13 : decode cL_side 13 = .ok (.iconst 1, 1) := by decide +kernel
theorem dL_side_14 : decode cL_side 14 = .ok (.goto 33, 3) := by decide +kernel
theorem dL_side_17 : decode cL_side 17 = .ok (.iload_n 0, 1) := by decide +kernel
theorem dL_side_18 : decode cL_side 18 = .ok (.iconst 1, 1) := by decide +kernel
theorem dL_side_19 : decode cL_side 19 = .ok (.if_icmp .eq 9, 3) := by decide +kernel
theorem dL_side_22 : decode cL_side 22 = .ok (.iload_n 0, 1) := by decide +kernel
theorem dL_side_23 : decode cL_side 23 = .ok (.bipush 7, 2) := by decide +kernel
theorem dL_side_25 : decode cL_side 25 = .ok (.if_icmp .ne 7, 3) := by decide +kernel
theorem dL_side_28 : decode cL_side 28 = .ok (.iconst (-1), 1) := by decide +kernel
theorem dL_side_29 : decode cL_side 29 = .ok (.goto 18, 3) := by decide +kernel
theorem dL_side_32 : decode cL_side 32 = .ok (.iload_n 0, 1) := by decide +kernel
theorem dL_side_33 : decode cL_side 33 = .ok (.iconst 3, 1) := by decide +kernel
theorem dL_side_34 : decode cL_side 34 = .ok (.if_icmp .eq 8, 3) := by decide +kernel
theorem dL_side_37 : decode cL_side 37 = .ok (.iload_n 0, 1) := by decide +kernel
theorem dL_side_38 : decode cL_side 38 = .ok (.iconst 5, 1) := by decide +kernel
theorem dL_side_39 : decode cL_side 39 = .ok (.if_icmp .ne 7, 3) := by decide +kernel
theorem dL_side_42 : decode cL_side 42 = .ok (.iconst 1, 1) := by decide +kernel
theorem dL_side_43 : decode cL_side 43 = .ok (.goto 4, 3) := by decide +kernel
theorem dL_side_46 : decode cL_side 46 = .ok (.iconst 0, 1) := by decide +kernel
theorem dL_side_47 : decode cL_side 47 = .ok (.ireturn, 1) := by decide +kernel
theorem dL_across_0 : decode cL_across 0 = .ok (.iload_n 0, 1) := by decide +kernel
theorem dL_across_1 : decode cL_across 1 = .ok (.iconst 2, 1) := by decide +kernel
theorem dL_across_2 : decode cL_across 2 = .ok (.if_icmp .eq 13, 3) := by decide +kernel
theorem dL_across_5 : decode cL_across 5 = .ok (.iload_n 0, 1) := by decide +kernel
theorem dL_across_6 : decode cL_across 6 = .ok (.iconst 1, 1) := by decide +kernel
theorem dL_across_7 : decode cL_across 7 = .ok (.if_icmp .eq 8, 3) := by decide +kernel
theorem dL_across_10 : decode cL_across 10 = .ok (.iload_n 0, 1) := by decide +kernel
theorem dL_across_11 : decode cL_across 11 = .ok (.iconst 3, 1) := by decide +kernel
theorem dL_across_12 : decode cL_across 12 = .ok (.if_icmp .ne 7, 3) := by decide +kernel
theorem dL_across_15 : decode cL_across 15 = .ok (.iconst 1, 1) := by decide +kernel
theorem dL_across_16 : decode cL_across 16 = .ok (.goto 25, 3) := by decide +kernel
theorem dL_across_19 : decode cL_across 19 = .ok (.iload_n 0, 1) := by decide +kernel
theorem dL_across_20 : decode cL_across 20 = .ok (.bipush 6, 2) := by decide +kernel
theorem dL_across_22 : decode cL_across 22 = .ok (.if_icmp .eq 14, 3) := by decide +kernel
theorem dL_across_25 : decode cL_across 25 = .ok (.iload_n 0, 1) := by decide +kernel
theorem dL_across_26 : decode cL_across 26 = .ok (.iconst 5, 1) := by decide +kernel
theorem dL_across_27 : decode cL_across 27 = .ok (.if_icmp .eq 9, 3) := by decide +kernel
theorem dL_across_30 : decode cL_across 30 = .ok (.iload_n 0, 1) := by decide +kernel
theorem dL_across_31 : decode cL_across 31 = .ok (.bipush 7, 2) := by decide +kernel
theorem dL_across_33 : decode cL_across 33 = .ok (.if_icmp .ne 7, 3) := by decide +kernel
theorem dL_across_36 : decode cL_across 36 = .ok (.iconst (-1), 1) := by decide +kernel
theorem dL_across_37 : decode cL_across 37 = .ok (.goto 4, 3) := by decide +kernel
theorem dL_across_40 : decode cL_across 40 = .ok (.iconst 0, 1) := by decide +kernel
theorem dL_across_41 : decode cL_across 41 = .ok (.ireturn, 1) := by decide +kernel
theorem dL_around_0 : decode cL_around 0 = .ok (.iconst 0, 1) := by decide +kernel
theorem dL_around_1 : decode cL_around 1 = .ok (.istore_n 3, 1) := by decide +kernel
theorem dL_around_2 : decode cL_around 2 = .ok (.iconst 0, 1) := by decide +kernel
theorem dL_around_3 : decode cL_around 3 = .ok (.istore 4, 2) := by decide +kernel
theorem dL_around_5 : decode cL_around 5 = .ok (.iload 4, 2) := by decide +kernel
theorem dL_around_7 : decode cL_around 7 = .ok (.bipush 8, 2) := by decide +kernel
theorem dL_around_9 : decode cL_around 9 = .ok (.if_icmp .ge 33, 3) := by decide +kernel
theorem dL_around_12 : decode cL_around 12 = .ok (.iload_n 3, 1) := by decide +kernel
theorem dL_around_13 : decode cL_around 13 = .ok (.aload_n 0, 1) := by decide +kernel
theorem dL_around_14 : decode cL_around 14 = .ok (.iload_n 1, 1) := by decide +kernel
theorem dL_around_15 : decode cL_around 15 = .ok (.iload 4, 2) := by decide +kernel
theorem dL_around_17 : decode cL_around 17 = .ok (.invokestatic 10, 3) := by decide +kernel
theorem dL_around_20 : decode cL_around 20 = .ok (.iadd, 1) := by decide +kernel
theorem dL_around_21 : decode cL_around 21 = .ok (.iload_n 2, 1) := by decide +kernel
theorem dL_around_22 : decode cL_around 22 = .ok (.iload 4, 2) := by decide +kernel
theorem dL_around_24 : decode cL_around 24 = .ok (.invokestatic 16, 3) := by decide +kernel
theorem dL_around_27 : decode cL_around 27 = .ok (.iadd, 1) := by decide +kernel
theorem dL_around_28 : decode cL_around 28 = .ok (.invokestatic 19, 3) := by decide +kernel
theorem dL_around_31 : decode cL_around 31 = .ok (.iload 4, 2) := by decide +kernel
theorem dL_around_33 : decode cL_around 33 = .ok (.ishl, 1) := by decide +kernel
theorem dL_around_34 : decode cL_around 34 = .ok (.iadd, 1) := by decide +kernel
theorem dL_around_35 : decode cL_around 35 = .ok (.istore_n 3, 1) := by decide +kernel
theorem dL_around_36 : decode cL_around 36 = .ok (.iinc 4 1, 3) := by decide +kernel
theorem dL_around_39 : decode cL_around 39 = .ok (.goto (-34), 3) := by decide +kernel
theorem dL_around_42 : decode cL_around 42 = .ok (.iload_n 3, 1) := by decide +kernel
theorem dL_around_43 : decode cL_around 43 = .ok (.ireturn, 1) := by decide +kernel
theorem dL_regular_0 : decode cL_regular 0 = .ok (.iload_n 0, 1) := by decide +kernel
theorem dL_regular_1 : decode cL_regular 1 = .ok (.iconst 1, 1) := by decide +kernel
theorem dL_regular_2 : decode cL_regular 2 = .ok (.iand, 1) := by decide +kernel
theorem dL_regular_3 : decode cL_regular 3 = .ok (.istore_n 1, 1) := by decide +kernel
theorem dL_regular_4 : decode cL_regular 4 = .ok (.iload_n 0, 1) := by decide +kernel
theorem dL_regular_5 : decode cL_regular 5 = .ok (.iconst 2, 1) := by decide +kernel
theorem dL_regular_6 : decode cL_regular 6 = .ok (.ishr, 1) := by decide +kernel
theorem dL_regular_7 : decode cL_regular 7 = .ok (.iconst 1, 1) := by decide +kernel
theorem dL_regular_8 : decode cL_regular 8 = .ok (.iand, 1) := by decide +kernel
theorem dL_regular_9 : decode cL_regular 9 = .ok (.istore_n 2, 1) := by decide +kernel
theorem dL_regular_10 : decode cL_regular 10 = .ok (.iload_n 0, 1) := by decide +kernel
theorem dL_regular_11 : decode cL_regular 11 = .ok (.iconst 4, 1) := by decide +kernel
theorem dL_regular_12 : decode cL_regular 12 = .ok (.ishr, 1) := by decide +kernel
theorem dL_regular_13 : decode cL_regular 13 = .ok (.iconst 1, 1) := by decide +kernel
theorem dL_regular_14 : decode cL_regular 14 = .ok (.iand, 1) := by decide +kernel
theorem dL_regular_15 : decode cL_regular 15 = .ok (.istore_n 3, 1) := by decide +kernel
theorem dL_regular_16 : decode cL_regular 16 = .ok (.iload_n 0, 1) := by decide +kernel
theorem dL_regular_17 : decode cL_regular 17 = .ok (.bipush 6, 2) := by decide +kernel
theorem dL_regular_19 : decode cL_regular 19 = .ok (.ishr, 1) := by decide +kernel
theorem dL_regular_20 : decode cL_regular 20 = .ok (.iconst 1, 1) := by decide +kernel
theorem dL_regular_21 : decode cL_regular 21 = .ok (.iand, 1) := by decide +kernel
theorem dL_regular_22 : decode cL_regular 22 = .ok (.istore 4, 2) := by decide +kernel
theorem dL_regular_24 : decode cL_regular 24 = .ok (.iload_n 1, 1) := by decide +kernel
theorem dL_regular_25 : decode cL_regular 25 = .ok (.iload_n 2, 1) := by decide +kernel
theorem dL_regular_26 : decode cL_regular 26 = .ok (.iconst 2, 1) := by decide +kernel
theorem dL_regular_27 : decode cL_regular 27 = .ok (.ishl, 1) := by decide +kernel
theorem dL_regular_28 : decode cL_regular 28 = .ok (.ior, 1) := by decide +kernel
theorem dL_regular_29 : decode cL_regular 29 = .ok (.iload_n 3, 1) := by decide +kernel
theorem dL_regular_30 : decode cL_regular 30 = .ok (.iconst 4, 1) := by decide +kernel
theorem dL_regular_31 : decode cL_regular 31 = .ok (.ishl, 1) := by decide +kernel
theorem dL_regular_32 : decode cL_regular 32 = .ok (.ior, 1) := by decide +kernel
theorem dL_regular_33 : decode cL_regular 33 = .ok (.iload 4, 2) := by decide +kernel
theorem dL_regular_35 : decode cL_regular 35 = .ok (.bipush 6, 2) := by decide +kernel
theorem dL_regular_37 : decode cL_regular 37 = .ok (.ishl, 1) := by decide +kernel
theorem dL_regular_38 : decode cL_regular 38 = .ok (.ior, 1) := by decide +kernel
theorem dL_regular_39 : decode cL_regular 39 = .ok (.istore 5, 2) := by decide +kernel
theorem dL_regular_41 : decode cL_regular 41 = .ok (.iload 5, 2) := by decide +kernel
theorem dL_regular_43 : decode cL_regular 43 = .ok (.iload_n 0, 1) := by decide +kernel
theorem dL_regular_44 : decode cL_regular 44 = .ok (.iconst 2, 1) := by decide +kernel
theorem dL_regular_45 : decode cL_regular 45 = .ok (.iand, 1) := by decide +kernel
theorem dL_regular_46 : decode cL_regular 46 = .ok (.iload_n 1, 1) := by decide +kernel
theorem dL_regular_47 : decode cL_regular 47 = .ok (.imul, 1) := by decide +kernel
theorem dL_regular_48 : decode cL_regular 48 = .ok (.iload_n 2, 1) := by decide +kernel
theorem dL_regular_49 : decode cL_regular 49 = .ok (.imul, 1) := by decide +kernel
theorem dL_regular_50 : decode cL_regular 50 = .ok (.ior, 1) := by decide +kernel
theorem dL_regular_51 : decode cL_regular 51 = .ok (.iload_n 0, 1) := by decide +kernel
theorem dL_regular_52 : decode cL_regular 52 = .ok (.bipush 8, 2) := by decide +kernel
theorem dL_regular_54 : decode cL_regular 54 = .ok (.iand, 1) := by decide +kernel
theorem dL_regular_55 : decode cL_regular 55 = .ok (.iload_n 2, 1) := by decide +kernel
theorem dL_regular_56 : decode cL_regular 56 = .ok (.imul, 1) := by decide +kernel
theorem dL_regular_57 : decode cL_regular 57 = .ok (.iload_n 3, 1) := by decide +kernel
theorem dL_regular_58 : decode cL_regular 58 = .ok (.imul, 1) := by decide +kernel
theorem dL_regular_59 : decode cL_regular 59 = .ok (.ior, 1) := by decide +kernel
theorem dL_regular_60 : decode cL_regular 60 = .ok (.iload_n 0, 1) := by decide +kernel
theorem dL_regular_61 : decode cL_regular 61 = .ok (.bipush 32, 2) := by decide +kernel
theorem dL_regular_63 : decode cL_regular 63 = .ok (.iand, 1) := by decide +kernel
theorem dL_regular_64 : decode cL_regular 64 = .ok (.iload_n 3, 1) := by decide +kernel
theorem dL_regular_65 : decode cL_regular 65 = .ok (.imul, 1) := by decide +kernel
theorem dL_regular_66 : decode cL_regular 66 = .ok (.iload 4, 2) := by decide +kernel
theorem dL_regular_68 : decode cL_regular 68 = .ok (.imul, 1) := by decide +kernel
theorem dL_regular_69 : decode cL_regular 69 = .ok (.ior, 1) := by decide +kernel
theorem dL_regular_70 : decode cL_regular 70 = .ok (.iload_n 0, 1) := by decide +kernel
theorem dL_regular_71 : decode cL_regular 71 = .ok (.sipush 128, 3) := by decide +kernel
theorem dL_regular_74 : decode cL_regular 74 = .ok (.iand, 1) := by decide +kernel
theorem dL_regular_75 : decode cL_regular 75 = .ok (.iload 4, 2) := by decide +kernel
theorem dL_regular_77 : decode cL_regular 77 = .ok (.imul, 1) := by decide +kernel
theorem dL_regular_78 : decode cL_regular 78 = .ok (.iload_n 1, 1) := by decide +kernel
theorem dL_regular_79 : decode cL_regular 79 = .ok (.imul, 1) := by decide +kernel
theorem dL_regular_80 : decode cL_regular 80 = .ok (.ior, 1) := by decide +kernel
theorem dL_regular_81 : decode cL_regular 81 = .ok (.ireturn, 1) := by decide +kernel
theorem dL_shape_0 : decode cL_shape 0 = .ok (.iconst 0, 1) := by decide +kernel
theorem dL_shape_1 : decode cL_shape 1 = .ok (.istore_n 1, 1) := by decide +kernel
theorem dL_shape_2 : decode cL_shape 2 = .ok (.iconst 0, 1) := by decide +kernel
theorem dL_shape_3 : decode cL_shape 3 = .ok (.istore_n 2, 1) := by decide +kernel
theorem dL_shape_4 : decode cL_shape 4 = .ok (.iload_n 2, 1) := by decide +kernel
theorem dL_shape_5 : decode cL_shape 5 = .ok (.iload_n 0, 1) := by decide +kernel
theorem dL_shape_6 : decode cL_shape 6 = .ok (.if_icmp .ge 25, 3) := by decide +kernel
theorem dL_shape_9 : decode cL_shape 9 = .ok (.iload_n 1, 1) := by decide +kernel
theorem dL_shape_10 : decode cL_shape 10 = .ok (.iload_n 2, 1) := by decide +kernel
theorem dL_shape_11 : decode cL_shape 11 = .ok (.invokestatic 23, 3) := by decide +kernel
theorem dL_shape_14 : decode cL_shape 14 = .ok (.iload_n 2, 1) := by decide +kernel
theorem dL_shape_15 : decode cL_shape 15 = .ok (.if_icmp .ne 7, 3) := by decide +kernel
theorem dL_shape_18 : decode cL_shape 18 = .ok (.iconst 1, 1) := by decide +kernel
theorem dL_shape_19 : decode cL_shape 19 = .ok (.goto 4, 3) := by decide +kernel
theorem dL_shape_22 : decode cL_shape 22 = .ok (.iconst 0, 1) := by decide +kernel
theorem dL_shape_23 : decode cL_shape 23 = .ok (.iadd, 1) := by decide +kernel
theorem dL_shape_24 : decode cL_shape 24 = .ok (.istore_n 1, 1) := by decide +kernel
theorem dL_shape_25 : decode cL_shape 25 = .ok (.iinc 2 1, 3) := by decide +kernel
theorem dL_shape_28 : decode cL_shape 28 = .ok (.goto (-24), 3) := by decide +kernel
theorem dL_shape_31 : decode cL_shape 31 = .ok (.iload_n 1, 1) := by decide +kernel
theorem dL_shape_32 : decode cL_shape 32 = .ok (.ireturn, 1) := by decide +kernel
theorem dL_mask_0 : decode cL_mask 0 = .ok (.iload_n 0, 1) := by decide +kernel
theorem dL_mask_1 : decode cL_mask 1 = .ok (.istore_n 1, 1) := by decide +kernel
theorem dL_mask_2 : decode cL_mask 2 = .ok (.iconst 0, 1) := by decide +kernel
theorem dL_mask_3 : decode cL_mask 3 = .ok (.istore_n 2, 1) := by decide +kernel
theorem dL_mask_4 : decode cL_mask 4 = .ok (.iload_n 1, 1) := by decide +kernel
theorem dL_mask_5 : decode cL_mask 5 = .ok (.ifCond .gt 11, 3) := by decide +kernel
theorem dL_mask_8 : decode cL_mask 8 = .ok (.iload_n 2, 1) := by decide +kernel
theorem dL_mask_9 : decode cL_mask 9 = .ok (.invokestatic 23, 3) := by decide +kernel
theorem dL_mask_12 : decode cL_mask 12 = .ok (.iload_n 2, 1) := by decide +kernel
theorem dL_mask_13 : decode cL_mask 13 = .ok (.if_icmp .eq 25, 3) := by decide +kernel
theorem dL_mask_16 : decode cL_mask 16 = .ok (.iload_n 1, 1) := by decide +kernel
theorem dL_mask_17 : decode cL_mask 17 = .ok (.iload_n 2, 1) := by decide +kernel
theorem dL_mask_18 : decode cL_mask 18 = .ok (.invokestatic 23, 3) := by decide +kernel
theorem dL_mask_21 : decode cL_mask 21 = .ok (.iload_n 2, 1) := by decide +kernel
theorem dL_mask_22 : decode cL_mask 22 = .ok (.if_icmp .ne 7, 3) := by decide +kernel
theorem dL_mask_25 : decode cL_mask 25 = .ok (.iconst 1, 1) := by decide +kernel
theorem dL_mask_26 : decode cL_mask 26 = .ok (.goto 4, 3) := by decide +kernel
theorem dL_mask_29 : decode cL_mask 29 = .ok (.iconst 0, 1) := by decide +kernel
theorem dL_mask_30 : decode cL_mask 30 = .ok (.isub, 1) := by decide +kernel
theorem dL_mask_31 : decode cL_mask 31 = .ok (.istore_n 1, 1) := by decide +kernel
theorem dL_mask_32 : decode cL_mask 32 = .ok (.iinc 2 1, 3) := by decide +kernel
theorem dL_mask_35 : decode cL_mask 35 = .ok (.goto (-31), 3) := by decide +kernel
theorem dL_mask_38 : decode cL_mask 38 = .ok (.iload_n 2, 1) := by decide +kernel
theorem dL_mask_39 : decode cL_mask 39 = .ok (.ireturn, 1) := by decide +kernel
theorem dL_bits_0 : decode cL_bits 0 = .ok (.iload_n 0, 1) := by decide +kernel
theorem dL_bits_1 : decode cL_bits 1 = .ok (.iconst 1, 1) := by decide +kernel
theorem dL_bits_2 : decode cL_bits 2 = .ok (.iand, 1) := by decide +kernel
theorem dL_bits_3 : decode cL_bits 3 = .ok (.iload_n 0, 1) := by decide +kernel
theorem dL_bits_4 : decode cL_bits 4 = .ok (.iconst 1, 1) := by decide +kernel
theorem dL_bits_5 : decode cL_bits 5 = .ok (.ishr, 1) := by decide +kernel
theorem dL_bits_6 : decode cL_bits 6 = .ok (.iconst 1, 1) := by decide +kernel
theorem dL_bits_7 : decode cL_bits 7 = .ok (.iand, 1) := by decide +kernel
theorem dL_bits_8 : decode cL_bits 8 = .ok (.iadd, 1) := by decide +kernel
theorem dL_bits_9 : decode cL_bits 9 = .ok (.iload_n 0, 1) := by decide +kernel
theorem dL_bits_10 : decode cL_bits 10 = .ok (.iconst 2, 1) := by decide +kernel
theorem dL_bits_11 : decode cL_bits 11 = .ok (.ishr, 1) := by decide +kernel
theorem dL_bits_12 : decode cL_bits 12 = .ok (.iconst 1, 1) := by decide +kernel
theorem dL_bits_13 : decode cL_bits 13 = .ok (.iand, 1) := by decide +kernel
theorem dL_bits_14 : decode cL_bits 14 = .ok (.iadd, 1) := by decide +kernel
theorem dL_bits_15 : decode cL_bits 15 = .ok (.iload_n 0, 1) := by decide +kernel
theorem dL_bits_16 : decode cL_bits 16 = .ok (.iconst 3, 1) := by decide +kernel
theorem dL_bits_17 : decode cL_bits 17 = .ok (.ishr, 1) := by decide +kernel
theorem dL_bits_18 : decode cL_bits 18 = .ok (.iconst 1, 1) := by decide +kernel
theorem dL_bits_19 : decode cL_bits 19 = .ok (.iand, 1) := by decide +kernel
theorem dL_bits_20 : decode cL_bits 20 = .ok (.iadd, 1) := by decide +kernel
theorem dL_bits_21 : decode cL_bits 21 = .ok (.iload_n 0, 1) := by decide +kernel
theorem dL_bits_22 : decode cL_bits 22 = .ok (.iconst 4, 1) := by decide +kernel
theorem dL_bits_23 : decode cL_bits 23 = .ok (.ishr, 1) := by decide +kernel
theorem dL_bits_24 : decode cL_bits 24 = .ok (.iconst 1, 1) := by decide +kernel
theorem dL_bits_25 : decode cL_bits 25 = .ok (.iand, 1) := by decide +kernel
theorem dL_bits_26 : decode cL_bits 26 = .ok (.iadd, 1) := by decide +kernel
theorem dL_bits_27 : decode cL_bits 27 = .ok (.iload_n 0, 1) := by decide +kernel
theorem dL_bits_28 : decode cL_bits 28 = .ok (.iconst 5, 1) := by decide +kernel
theorem dL_bits_29 : decode cL_bits 29 = .ok (.ishr, 1) := by decide +kernel
theorem dL_bits_30 : decode cL_bits 30 = .ok (.iconst 1, 1) := by decide +kernel
theorem dL_bits_31 : decode cL_bits 31 = .ok (.iand, 1) := by decide +kernel
theorem dL_bits_32 : decode cL_bits 32 = .ok (.iadd, 1) := by decide +kernel
theorem dL_bits_33 : decode cL_bits 33 = .ok (.iload_n 0, 1) := by decide +kernel
theorem dL_bits_34 : decode cL_bits 34 = .ok (.bipush 6, 2) := by decide +kernel
theorem dL_bits_36 : decode cL_bits 36 = .ok (.ishr, 1) := by decide +kernel
theorem dL_bits_37 : decode cL_bits 37 = .ok (.iconst 1, 1) := by decide +kernel
theorem dL_bits_38 : decode cL_bits 38 = .ok (.iand, 1) := by decide +kernel
theorem dL_bits_39 : decode cL_bits 39 = .ok (.iadd, 1) := by decide +kernel
theorem dL_bits_40 : decode cL_bits 40 = .ok (.iload_n 0, 1) := by decide +kernel
theorem dL_bits_41 : decode cL_bits 41 = .ok (.bipush 7, 2) := by decide +kernel
theorem dL_bits_43 : decode cL_bits 43 = .ok (.ishr, 1) := by decide +kernel
theorem dL_bits_44 : decode cL_bits 44 = .ok (.iconst 1, 1) := by decide +kernel
theorem dL_bits_45 : decode cL_bits 45 = .ok (.iand, 1) := by decide +kernel
theorem dL_bits_46 : decode cL_bits 46 = .ok (.iadd, 1) := by decide +kernel
theorem dL_bits_47 : decode cL_bits 47 = .ok (.ireturn, 1) := by decide +kernel
theorem dL_has_0 : decode cL_has 0 = .ok (.aload_n 1, 1) := by decide +kernel
theorem dL_has_1 : decode cL_has 1 = .ok (.iload_n 2, 1) := by decide +kernel
theorem dL_has_2 : decode cL_has 2 = .ok (.iload_n 3, 1) := by decide +kernel
theorem dL_has_3 : decode cL_has 3 = .ok (.invokestatic 26, 3) := by decide +kernel
theorem dL_has_6 : decode cL_has 6 = .ok (.bipush 63, 2) := by decide +kernel
theorem dL_has_8 : decode cL_has 8 = .ok (.if_icmp .ge 15, 3) := by decide +kernel
theorem dL_has_11 : decode cL_has 11 = .ok (.aload_n 1, 1) := by decide +kernel
theorem dL_has_12 : decode cL_has 12 = .ok (.iload_n 2, 1) := by decide +kernel
theorem dL_has_13 : decode cL_has 13 = .ok (.iload_n 3, 1) := by decide +kernel
theorem dL_has_14 : decode cL_has 14 = .ok (.invokestatic 26, 3) := by decide +kernel
theorem dL_has_17 : decode cL_has 17 = .ok (.invokestatic 29, 3) := by decide +kernel
theorem dL_has_20 : decode cL_has 20 = .ok (.goto 12, 3) := by decide +kernel
theorem dL_has_23 : decode cL_has 23 = .ok (.aload_n 0, 1) := by decide +kernel
theorem dL_has_24 : decode cL_has 24 = .ok (.iload_n 2, 1) := by decide +kernel
theorem dL_has_25 : decode cL_has 25 = .ok (.iload_n 3, 1) := by decide +kernel
theorem dL_has_26 : decode cL_has 26 = .ok (.invokestatic 32, 3) := by decide +kernel
theorem dL_has_29 : decode cL_has 29 = .ok (.invokestatic 23, 3) := by decide +kernel
theorem dL_has_32 : decode cL_has 32 = .ok (.ireturn, 1) := by decide +kernel
theorem dL_tiles_0 : decode cL_tiles 0 = .ok (.iconst 0, 1) := by decide +kernel
theorem dL_tiles_1 : decode cL_tiles 1 = .ok (.istore 5, 2) := by decide +kernel
theorem dL_tiles_3 : decode cL_tiles 3 = .ok (.bipush (-6), 2) := by decide +kernel
theorem dL_tiles_5 : decode cL_tiles 5 = .ok (.istore 6, 2) := by decide +kernel
theorem dL_tiles_7 : decode cL_tiles 7 = .ok (.iconst 0, 1) := by decide +kernel
theorem dL_tiles_8 : decode cL_tiles 8 = .ok (.istore 7, 2) := by decide +kernel
theorem dL_tiles_10 : decode cL_tiles 10 = .ok (.iconst 0, 1) := by decide +kernel
theorem dL_tiles_11 : decode cL_tiles 11 = .ok (.istore 8, 2) := by decide +kernel
theorem dL_tiles_13 : decode cL_tiles 13 = .ok (.aload_n 3, 1) := by decide +kernel
theorem dL_tiles_14 : decode cL_tiles 14 = .ok (.iconst 0, 1) := by decide +kernel
theorem dL_tiles_15 : decode cL_tiles 15 = .ok (.iaload, 1) := by decide +kernel
theorem dL_tiles_16 : decode cL_tiles 16 = .ok (.aload_n 3, 1) := by decide +kernel
theorem dL_tiles_17 : decode cL_tiles 17 = .ok (.iconst 1, 1) := by decide +kernel
theorem dL_tiles_18 : decode cL_tiles 18 = .ok (.iaload, 1) := by decide +kernel
theorem dL_tiles_19 : decode cL_tiles 19 = .ok (.imul, 1) := by decide +kernel
theorem dL_tiles_20 : decode cL_tiles 20 = .ok (.iconst 1, 1) := by decide +kernel
theorem dL_tiles_21 : decode cL_tiles 21 = .ok (.isub, 1) := by decide +kernel
theorem dL_tiles_22 : decode cL_tiles 22 = .ok (.istore 9, 2) := by decide +kernel
theorem dL_tiles_24 : decode cL_tiles 24 = .ok (.iload 9, 2) := by decide +kernel
theorem dL_tiles_26 : decode cL_tiles 26 = .ok (.ifCond .lt 268, 3) := by decide +kernel
theorem dL_tiles_29 : decode cL_tiles 29 = .ok (.iload 9, 2) := by decide +kernel
theorem dL_tiles_31 : decode cL_tiles 31 = .ok (.aload_n 3, 1) := by decide +kernel
theorem dL_tiles_32 : decode cL_tiles 32 = .ok (.iconst 1, 1) := by decide +kernel
theorem dL_tiles_33 : decode cL_tiles 33 = .ok (.iaload, 1) := by decide +kernel
theorem dL_tiles_34 : decode cL_tiles 34 = .ok (.idiv, 1) := by decide +kernel
theorem dL_tiles_35 : decode cL_tiles 35 = .ok (.istore 10, 2) := by decide +kernel
theorem dL_tiles_37 : decode cL_tiles 37 = .ok (.iload 9, 2) := by decide +kernel
theorem dL_tiles_39 : decode cL_tiles 39 = .ok (.aload_n 3, 1) := by decide +kernel
theorem dL_tiles_40 : decode cL_tiles 40 = .ok (.iconst 1, 1) := by decide +kernel
theorem dL_tiles_41 : decode cL_tiles 41 = .ok (.iaload, 1) := by decide +kernel
theorem dL_tiles_42 : decode cL_tiles 42 = .ok (.irem, 1) := by decide +kernel
theorem dL_tiles_43 : decode cL_tiles 43 = .ok (.istore 11, 2) := by decide +kernel
theorem dL_tiles_45 : decode cL_tiles 45 = .ok (.aload_n 1, 1) := by decide +kernel
theorem dL_tiles_46 : decode cL_tiles 46 = .ok (.iload 10, 2) := by decide +kernel
theorem dL_tiles_48 : decode cL_tiles 48 = .ok (.iload 11, 2) := by decide +kernel
theorem dL_tiles_50 : decode cL_tiles 50 = .ok (.invokestatic 19, 3) := by decide +kernel
theorem dL_tiles_53 : decode cL_tiles 53 = .ok (.istore 12, 2) := by decide +kernel
theorem dL_tiles_55 : decode cL_tiles 55 = .ok (.aload_n 1, 1) := by decide +kernel
theorem dL_tiles_56 : decode cL_tiles 56 = .ok (.iload 10, 2) := by decide +kernel
theorem dL_tiles_58 : decode cL_tiles 58 = .ok (.iload 11, 2) := by decide +kernel
theorem dL_tiles_60 : decode cL_tiles 60 = .ok (.invokestatic 32, 3) := by decide +kernel
theorem dL_tiles_63 : decode cL_tiles 63 = .ok (.istore 13, 2) := by decide +kernel
theorem dL_tiles_65 : decode cL_tiles 65 = .ok (.iload 13, 2) := by decide +kernel
theorem dL_tiles_67 : decode cL_tiles 67 = .ok (.invokestatic 23, 3) := by decide +kernel
theorem dL_tiles_70 : decode cL_tiles 70 = .ok (.istore 14, 2) := by decide +kernel
theorem dL_tiles_72 : decode cL_tiles 72 = .ok (.iload 12, 2) := by decide +kernel
theorem dL_tiles_74 : decode cL_tiles 74 = .ok (.iconst 1, 1) := by decide +kernel
theorem dL_tiles_75 : decode cL_tiles 75 = .ok (.if_icmp .ne 15, 3) := by decide +kernel
theorem dL_tiles_78 : decode cL_tiles 78 = .ok (.aload_n 1, 1) := by decide +kernel
theorem dL_tiles_79 : decode cL_tiles 79 = .ok (.aload_n 2, 1) := by decide +kernel
theorem dL_tiles_80 : decode cL_tiles 80 = .ok (.iload 10, 2) := by decide +kernel
theorem dL_tiles_82 : decode cL_tiles 82 = .ok (.iload 11, 2) := by decide +kernel
theorem dL_tiles_84 : decode cL_tiles 84 = .ok (.invokestatic 37, 3) := by decide +kernel
theorem dL_tiles_87 : decode cL_tiles 87 = .ok (.goto 5, 3) := by decide +kernel
theorem dL_tiles_90 : decode cL_tiles 90 = .ok (.iload 14, 2) := by decide +kernel
theorem dL_tiles_92 : decode cL_tiles 92 = .ok (.istore 15, 2) := by decide +kernel
theorem dL_tiles_94 : decode cL_tiles 94 = .ok (.iload 15, 2) := by decide +kernel
theorem dL_tiles_96 : decode cL_tiles 96 = .ok (.iload 14, 2) := by decide +kernel
theorem dL_tiles_98 : decode cL_tiles 98 = .ok (.ixor, 1) := by decide +kernel
theorem dL_tiles_99 : decode cL_tiles 99 = .ok (.invokestatic 41, 3) := by decide +kernel
theorem dL_tiles_102 : decode cL_tiles 102 = .ok (.istore 16, 2) := by decide +kernel
theorem dL_tiles_104 : decode cL_tiles 104 = .ok (.iload 5, 2) := by decide +kernel
theorem dL_tiles_106 : decode cL_tiles 106 = .ok (.iload 16, 2) := by decide +kernel
theorem dL_tiles_108 : decode cL_tiles 108 = .ok (.iadd, 1) := by decide +kernel
theorem dL_tiles_109 : decode cL_tiles 109 = .ok (.istore 5, 2) := by decide +kernel
theorem dL_tiles_111 : decode cL_tiles 111 = .ok (.iload 16, 2) := by decide +kernel
theorem dL_tiles_113 : decode cL_tiles 113 = .ok (.ifCond .le 14, 3) := by decide +kernel
theorem dL_tiles_116 : decode cL_tiles 116 = .ok (.bipush 100, 2) := by decide +kernel
theorem dL_tiles_118 : decode cL_tiles 118 = .ok (.iload 10, 2) := by decide +kernel
theorem dL_tiles_120 : decode cL_tiles 120 = .ok (.imul, 1) := by decide +kernel
theorem dL_tiles_121 : decode cL_tiles 121 = .ok (.iload 11, 2) := by decide +kernel
theorem dL_tiles_123 : decode cL_tiles 123 = .ok (.iadd, 1) := by decide +kernel
theorem dL_tiles_124 : decode cL_tiles 124 = .ok (.goto 5, 3) := by decide +kernel
theorem dL_tiles_127 : decode cL_tiles 127 = .ok (.iload 6, 2) := by decide +kernel
theorem dL_tiles_129 : decode cL_tiles 129 = .ok (.istore 6, 2) := by decide +kernel
theorem dL_tiles_131 : decode cL_tiles 131 = .ok (.iload 7, 2) := by decide +kernel
theorem dL_tiles_133 : decode cL_tiles 133 = .ok (.iload 12, 2) := by decide +kernel
theorem dL_tiles_135 : decode cL_tiles 135 = .ok (.iadd, 1) := by decide +kernel
theorem dL_tiles_136 : decode cL_tiles 136 = .ok (.istore 7, 2) := by decide +kernel
theorem dL_tiles_138 : decode cL_tiles 138 = .ok (.iload 8, 2) := by decide +kernel
theorem dL_tiles_140 : decode cL_tiles 140 = .ok (.iload 12, 2) := by decide +kernel
theorem dL_tiles_142 : decode cL_tiles 142 = .ok (.iconst 4, 1) := by decide +kernel
theorem dL_tiles_143 : decode cL_tiles 143 = .ok (.iload 13, 2) := by decide +kernel
theorem dL_tiles_145 : decode cL_tiles 145 = .ok (.bipush 85, 2) := by decide +kernel
theorem dL_tiles_147 : decode cL_tiles 147 = .ok (.iand, 1) := by decide +kernel
theorem dL_tiles_148 : decode cL_tiles 148 = .ok (.invokestatic 41, 3) := by decide +kernel
theorem dL_tiles_151 : decode cL_tiles 151 = .ok (.isub, 1) := by decide +kernel
theorem dL_tiles_152 : decode cL_tiles 152 = .ok (.imul, 1) := by decide +kernel
theorem dL_tiles_153 : decode cL_tiles 153 = .ok (.iadd, 1) := by decide +kernel
theorem dL_tiles_154 : decode cL_tiles 154 = .ok (.istore 8, 2) := by decide +kernel
theorem dL_tiles_156 : decode cL_tiles 156 = .ok (.aload_n 0, 1) := by decide +kernel
theorem dL_tiles_157 : decode cL_tiles 157 = .ok (.iload 10, 2) := by decide +kernel
theorem dL_tiles_159 : decode cL_tiles 159 = .ok (.iload 11, 2) := by decide +kernel
theorem dL_tiles_161 : decode cL_tiles 161 = .ok (.iconst 0, 1) := by decide +kernel
theorem dL_tiles_162 : decode cL_tiles 162 = .ok (.invokevirtual 44, 3) := by decide +kernel
theorem dL_tiles_165 : decode cL_tiles 165 = .ok (.iload 12, 2) := by decide +kernel
theorem dL_tiles_167 : decode cL_tiles 167 = .ok (.if_icmp .ne 119, 3) := by decide +kernel
theorem dL_tiles_170 : decode cL_tiles 170 = .ok (.aload_n 0, 1) := by decide +kernel
theorem dL_tiles_171 : decode cL_tiles 171 = .ok (.iload 10, 2) := by decide +kernel
theorem dL_tiles_173 : decode cL_tiles 173 = .ok (.iload 11, 2) := by decide +kernel
theorem dL_tiles_175 : decode cL_tiles 175 = .ok (.iconst 1, 1) := by decide +kernel
theorem dL_tiles_176 : decode cL_tiles 176 = .ok (.invokevirtual 44, 3) := by decide +kernel
theorem dL_tiles_179 : decode cL_tiles 179 = .ok (.iload 13, 2) := by decide +kernel
theorem dL_tiles_181 : decode cL_tiles 181 = .ok (.if_icmp .ne 105, 3) := by decide +kernel
theorem dL_tiles_184 : decode cL_tiles 184 = .ok (.aload_n 0, 1) := by decide +kernel
theorem dL_tiles_185 : decode cL_tiles 185 = .ok (.aload_n 0, 1) := by decide +kernel
theorem dL_tiles_186 : decode cL_tiles 186 = .ok (.iload 10, 2) := by decide +kernel
theorem dL_tiles_188 : decode cL_tiles 188 = .ok (.iload 11, 2) := by decide +kernel
theorem dL_tiles_190 : decode cL_tiles 190 = .ok (.iconst 2, 1) := by decide +kernel
theorem dL_tiles_191 : decode cL_tiles 191 = .ok (.invokevirtual 44, 3) := by decide +kernel
theorem dL_tiles_194 : decode cL_tiles 194 = .ok (.invokevirtual 48, 3) := by decide +kernel
theorem dL_tiles_197 : decode cL_tiles 197 = .ok (.iload 14, 2) := by decide +kernel
theorem dL_tiles_199 : decode cL_tiles 199 = .ok (.if_icmp .ne 87, 3) := by decide +kernel
theorem dL_tiles_202 : decode cL_tiles 202 = .ok (.aload_n 0, 1) := by decide +kernel
theorem dL_tiles_203 : decode cL_tiles 203 = .ok (.iload 10, 2) := by decide +kernel
theorem dL_tiles_205 : decode cL_tiles 205 = .ok (.iload 11, 2) := by decide +kernel
theorem dL_tiles_207 : decode cL_tiles 207 = .ok (.iconst 4, 1) := by decide +kernel
theorem dL_tiles_208 : decode cL_tiles 208 = .ok (.invokevirtual 44, 3) := by decide +kernel
theorem dL_tiles_211 : decode cL_tiles 211 = .ok (.aload_n 2, 1) := by decide +kernel
theorem dL_tiles_212 : decode cL_tiles 212 = .ok (.iload 10, 2) := by decide +kernel
theorem dL_tiles_214 : decode cL_tiles 214 = .ok (.iload 11, 2) := by decide +kernel
theorem dL_tiles_216 : decode cL_tiles 216 = .ok (.invokestatic 26, 3) := by decide +kernel
theorem dL_tiles_219 : decode cL_tiles 219 = .ok (.bipush 63, 2) := by decide +kernel
theorem dL_tiles_221 : decode cL_tiles 221 = .ok (.if_icmp .ge 7, 3) := by decide +kernel
theorem dL_tiles_224 : decode cL_tiles 224 = .ok (.iconst 1, 1) := by decide +kernel
theorem dL_tiles_225 : decode cL_tiles 225 = .ok (.goto 4, 3) := by decide +kernel
theorem dL_tiles_228 : decode cL_tiles 228 = .ok (.iconst 0, 1) := by decide +kernel
theorem dL_tiles_229 : decode cL_tiles 229 = .ok (.if_icmp .ne 57, 3) := by decide +kernel
theorem dL_tiles_232 : decode cL_tiles 232 = .ok (.aload_n 0, 1) := by decide +kernel
theorem dL_tiles_233 : decode cL_tiles 233 = .ok (.iload 10, 2) := by decide +kernel
theorem dL_tiles_235 : decode cL_tiles 235 = .ok (.iload 11, 2) := by decide +kernel
theorem dL_tiles_237 : decode cL_tiles 237 = .ok (.iconst 5, 1) := by decide +kernel
theorem dL_tiles_238 : decode cL_tiles 238 = .ok (.invokevirtual 44, 3) := by decide +kernel
theorem dL_tiles_241 : decode cL_tiles 241 = .ok (.iload 16, 2) := by decide +kernel
theorem dL_tiles_243 : decode cL_tiles 243 = .ok (.if_icmp .ne 43, 3) := by decide +kernel
theorem dL_tiles_246 : decode cL_tiles 246 = .ok (.iload 12, 2) := by decide +kernel
theorem dL_tiles_248 : decode cL_tiles 248 = .ok (.ifCond .ne 20, 3) := by decide +kernel
theorem dL_tiles_251 : decode cL_tiles 251 = .ok (.aload_n 0, 1) := by decide +kernel
theorem dL_tiles_252 : decode cL_tiles 252 = .ok (.iload 10, 2) := by decide +kernel
theorem dL_tiles_254 : decode cL_tiles 254 = .ok (.iload 11, 2) := by decide +kernel
theorem dL_tiles_256 : decode cL_tiles 256 = .ok (.iconst 3, 1) := by decide +kernel
theorem dL_tiles_257 : decode cL_tiles 257 = .ok (.invokevirtual 44, 3) := by decide +kernel
theorem dL_tiles_260 : decode cL_tiles 260 = .ok (.bipush (-6), 2) := by decide +kernel
theorem dL_tiles_262 : decode cL_tiles 262 = .ok (.if_icmp .eq 26, 3) := by decide +kernel
theorem dL_tiles_265 : decode cL_tiles 265 = .ok (.goto 21, 3) := by decide +kernel
theorem dL_tiles_268 : decode cL_tiles 268 = .ok (.aload_n 0, 1) := by decide +kernel
theorem dL_tiles_269 : decode cL_tiles 269 = .ok (.aload_n 0, 1) := by decide +kernel
theorem dL_tiles_270 : decode cL_tiles 270 = .ok (.iload 10, 2) := by decide +kernel
theorem dL_tiles_272 : decode cL_tiles 272 = .ok (.iload 11, 2) := by decide +kernel
theorem dL_tiles_274 : decode cL_tiles 274 = .ok (.iconst 3, 1) := by decide +kernel
theorem dL_tiles_275 : decode cL_tiles 275 = .ok (.invokevirtual 44, 3) := by decide +kernel
theorem dL_tiles_278 : decode cL_tiles 278 = .ok (.invokevirtual 48, 3) := by decide +kernel
theorem dL_tiles_281 : decode cL_tiles 281 = .ok (.iload 15, 2) := by decide +kernel
theorem dL_tiles_283 : decode cL_tiles 283 = .ok (.if_icmp .eq 5, 3) := by decide +kernel
theorem dL_tiles_286 : decode cL_tiles 286 = .ok (.iconst 0, 1) := by decide +kernel
theorem dL_tiles_287 : decode cL_tiles 287 = .ok (.ireturn, 1) := by decide +kernel
theorem dL_tiles_288 : decode cL_tiles 288 = .ok (.iinc 9 (-1), 3) := by decide +kernel
theorem dL_tiles_291 : decode cL_tiles 291 = .ok (.goto (-267), 3) := by decide +kernel
theorem dL_tiles_294 : decode cL_tiles 294 = .ok (.aload_n 0, 1) := by decide +kernel
theorem dL_tiles_295 : decode cL_tiles 295 = .ok (.invokevirtual 51, 3) := by decide +kernel
theorem dL_tiles_298 : decode cL_tiles 298 = .ok (.aload_n 3, 1) := by decide +kernel
theorem dL_tiles_299 : decode cL_tiles 299 = .ok (.iconst 0, 1) := by decide +kernel
theorem dL_tiles_300 : decode cL_tiles 300 = .ok (.iaload, 1) := by decide +kernel
theorem dL_tiles_301 : decode cL_tiles 301 = .ok (.if_icmp .ne 53, 3) := by decide +kernel
theorem dL_tiles_304 : decode cL_tiles 304 = .ok (.aload_n 0, 1) := by decide +kernel
theorem dL_tiles_305 : decode cL_tiles 305 = .ok (.invokevirtual 55, 3) := by decide +kernel
theorem dL_tiles_308 : decode cL_tiles 308 = .ok (.aload_n 3, 1) := by decide +kernel
theorem dL_tiles_309 : decode cL_tiles 309 = .ok (.iconst 1, 1) := by decide +kernel
theorem dL_tiles_310 : decode cL_tiles 310 = .ok (.iaload, 1) := by decide +kernel
theorem dL_tiles_311 : decode cL_tiles 311 = .ok (.if_icmp .ne 43, 3) := by decide +kernel
theorem dL_tiles_314 : decode cL_tiles 314 = .ok (.aload_n 0, 1) := by decide +kernel
theorem dL_tiles_315 : decode cL_tiles 315 = .ok (.invokevirtual 58, 3) := by decide +kernel
theorem dL_tiles_318 : decode cL_tiles 318 = .ok (.iload 5, 2) := by decide +kernel
theorem dL_tiles_320 : decode cL_tiles 320 = .ok (.if_icmp .ne 34, 3) := by decide +kernel
theorem dL_tiles_323 : decode cL_tiles 323 = .ok (.aload_n 0, 1) := by decide +kernel
theorem dL_tiles_324 : decode cL_tiles 324 = .ok (.invokevirtual 61, 3) := by decide +kernel
theorem dL_tiles_327 : decode cL_tiles 327 = .ok (.iload 6, 2) := by decide +kernel
theorem dL_tiles_329 : decode cL_tiles 329 = .ok (.if_icmp .ne 25, 3) := by decide +kernel
theorem dL_tiles_332 : decode cL_tiles 332 = .ok (.aload_n 0, 1) := by decide +kernel
theorem dL_tiles_333 : decode cL_tiles 333 = .ok (.invokevirtual 64, 3) := by decide +kernel
theorem dL_tiles_336 : decode cL_tiles 336 = .ok (.iload 7, 2) := by decide +kernel
theorem dL_tiles_338 : decode cL_tiles 338 = .ok (.if_icmp .ne 16, 3) := by decide +kernel
theorem dL_tiles_341 : decode cL_tiles 341 = .ok (.aload_n 0, 1) := by decide +kernel
theorem dL_tiles_342 : decode cL_tiles 342 = .ok (.invokevirtual 66, 3) := by decide +kernel
theorem dL_tiles_345 : decode cL_tiles 345 = .ok (.iload 8, 2) := by decide +kernel
theorem dL_tiles_347 : decode cL_tiles 347 = .ok (.if_icmp .ne 7, 3) := by decide +kernel
theorem dL_tiles_350 : decode cL_tiles 350 = .ok (.iconst 1, 1) := by decide +kernel
theorem dL_tiles_351 : decode cL_tiles 351 = .ok (.goto 4, 3) := by decide +kernel
theorem dL_tiles_354 : decode cL_tiles 354 = .ok (.iconst 0, 1) := by decide +kernel
theorem dL_tiles_355 : decode cL_tiles 355 = .ok (.ireturn, 1) := by decide +kernel
theorem dL_spread_0 : decode cL_spread 0 = .ok (.bipush 12, 2) := by decide +kernel
theorem dL_spread_2 : decode cL_spread 2 = .ok (.newarray .int, 2) := by decide +kernel
theorem dL_spread_4 : decode cL_spread 4 = .ok (.astore 7, 2) := by decide +kernel
theorem dL_spread_6 : decode cL_spread 6 = .ok (.aload 7, 2) := by decide +kernel
theorem dL_spread_8 : decode cL_spread 8 = .ok (.iload_n 2, 1) := by decide +kernel
theorem dL_spread_9 : decode cL_spread 9 = .ok (.iconst 1, 1) := by decide +kernel
theorem dL_spread_10 : decode cL_spread 10 = .ok (.iload_n 3, 1) := by decide +kernel
theorem dL_spread_11 : decode cL_spread 11 = .ok (.ishl, 1) := by decide +kernel
theorem dL_spread_12 : decode cL_spread 12 = .ok (.iastore, 1) := by decide +kernel
theorem dL_spread_13 : decode cL_spread 13 = .ok (.bipush (-6), 2) := by decide +kernel
theorem dL_spread_15 : decode cL_spread 15 = .ok (.istore 8, 2) := by decide +kernel
theorem dL_spread_17 : decode cL_spread 17 = .ok (.iconst 1, 1) := by decide +kernel
theorem dL_spread_18 : decode cL_spread 18 = .ok (.istore 9, 2) := by decide +kernel
theorem dL_spread_20 : decode cL_spread 20 = .ok (.iconst 0, 1) := by decide +kernel
theorem dL_spread_21 : decode cL_spread 21 = .ok (.istore 10, 2) := by decide +kernel
theorem dL_spread_23 : decode cL_spread 23 = .ok (.iconst 1, 1) := by decide +kernel
theorem dL_spread_24 : decode cL_spread 24 = .ok (.istore 11, 2) := by decide +kernel
theorem dL_spread_26 : decode cL_spread 26 = .ok (.iload 11, 2) := by decide +kernel
theorem dL_spread_28 : decode cL_spread 28 = .ok (.ifCond .le 272, 3) := by decide +kernel
theorem dL_spread_31 : decode cL_spread 31 = .ok (.iload 8, 2) := by decide +kernel
theorem dL_spread_33 : decode cL_spread 33 = .ok (.ifCond .ge 22, 3) := by decide +kernel
theorem dL_spread_36 : decode cL_spread 36 = .ok (.aload 7, 2) := by decide +kernel
theorem dL_spread_38 : decode cL_spread 38 = .ok (.iload 5, 2) := by decide +kernel
theorem dL_spread_40 : decode cL_spread 40 = .ok (.iaload, 1) := by decide +kernel
theorem dL_spread_41 : decode cL_spread 41 = .ok (.iload 6, 2) := by decide +kernel
theorem dL_spread_43 : decode cL_spread 43 = .ok (.ishr, 1) := by decide +kernel
theorem dL_spread_44 : decode cL_spread 44 = .ok (.iconst 1, 1) := by decide +kernel
theorem dL_spread_45 : decode cL_spread 45 = .ok (.iand, 1) := by decide +kernel
theorem dL_spread_46 : decode cL_spread 46 = .ok (.iconst 1, 1) := by decide +kernel
theorem dL_spread_47 : decode cL_spread 47 = .ok (.if_icmp .ne 8, 3) := by decide +kernel
theorem dL_spread_50 : decode cL_spread 50 = .ok (.iload 10, 2) := by decide +kernel
theorem dL_spread_52 : decode cL_spread 52 = .ok (.goto 5, 3) := by decide +kernel
theorem dL_spread_55 : decode cL_spread 55 = .ok (.iload 8, 2) := by decide +kernel
theorem dL_spread_57 : decode cL_spread 57 = .ok (.istore 8, 2) := by decide +kernel
theorem dL_spread_59 : decode cL_spread 59 = .ok (.iconst 0, 1) := by decide +kernel
theorem dL_spread_60 : decode cL_spread 60 = .ok (.istore 11, 2) := by decide +kernel
theorem dL_spread_62 : decode cL_spread 62 = .ok (.bipush 12, 2) := by decide +kernel
theorem dL_spread_64 : decode cL_spread 64 = .ok (.newarray .int, 2) := by decide +kernel
theorem dL_spread_66 : decode cL_spread 66 = .ok (.astore 12, 2) := by decide +kernel
theorem dL_spread_68 : decode cL_spread 68 = .ok (.iconst 0, 1) := by decide +kernel
theorem dL_spread_69 : decode cL_spread 69 = .ok (.istore 13, 2) := by decide +kernel
theorem dL_spread_71 : decode cL_spread 71 = .ok (.iload 13, 2) := by decide +kernel
theorem dL_spread_73 : decode cL_spread 73 = .ok (.aload_n 1, 1) := by decide +kernel
theorem dL_spread_74 : decode cL_spread 74 = .ok (.iconst 0, 1) := by decide +kernel
theorem dL_spread_75 : decode cL_spread 75 = .ok (.iaload, 1) := by decide +kernel
theorem dL_spread_76 : decode cL_spread 76 = .ok (.aload_n 1, 1) := by decide +kernel
theorem dL_spread_77 : decode cL_spread 77 = .ok (.iconst 1, 1) := by decide +kernel
theorem dL_spread_78 : decode cL_spread 78 = .ok (.iaload, 1) := by decide +kernel
theorem dL_spread_79 : decode cL_spread 79 = .ok (.imul, 1) := by decide +kernel
theorem dL_spread_80 : decode cL_spread 80 = .ok (.if_icmp .ge 178, 3) := by decide +kernel
theorem dL_spread_83 : decode cL_spread 83 = .ok (.iload 13, 2) := by decide +kernel
theorem dL_spread_85 : decode cL_spread 85 = .ok (.aload_n 1, 1) := by decide +kernel
theorem dL_spread_86 : decode cL_spread 86 = .ok (.iconst 1, 1) := by decide +kernel
theorem dL_spread_87 : decode cL_spread 87 = .ok (.iaload, 1) := by decide +kernel
theorem dL_spread_88 : decode cL_spread 88 = .ok (.idiv, 1) := by decide +kernel
theorem dL_spread_89 : decode cL_spread 89 = .ok (.istore 14, 2) := by decide +kernel
theorem dL_spread_91 : decode cL_spread 91 = .ok (.iload 13, 2) := by decide +kernel
theorem dL_spread_93 : decode cL_spread 93 = .ok (.aload_n 1, 1) := by decide +kernel
theorem dL_spread_94 : decode cL_spread 94 = .ok (.iconst 1, 1) := by decide +kernel
theorem dL_spread_95 : decode cL_spread 95 = .ok (.iaload, 1) := by decide +kernel
theorem dL_spread_96 : decode cL_spread 96 = .ok (.irem, 1) := by decide +kernel
theorem dL_spread_97 : decode cL_spread 97 = .ok (.istore 15, 2) := by decide +kernel
theorem dL_spread_99 : decode cL_spread 99 = .ok (.iconst 0, 1) := by decide +kernel
theorem dL_spread_100 : decode cL_spread 100 = .ok (.istore 16, 2) := by decide +kernel
theorem dL_spread_102 : decode cL_spread 102 = .ok (.iconst 0, 1) := by decide +kernel
theorem dL_spread_103 : decode cL_spread 103 = .ok (.istore 17, 2) := by decide +kernel
theorem dL_spread_105 : decode cL_spread 105 = .ok (.iload 17, 2) := by decide +kernel
theorem dL_spread_107 : decode cL_spread 107 = .ok (.bipush 8, 2) := by decide +kernel
theorem dL_spread_109 : decode cL_spread 109 = .ok (.if_icmp .ge 93, 3) := by decide +kernel
theorem dL_spread_112 : decode cL_spread 112 = .ok (.iload 14, 2) := by decide +kernel
theorem dL_spread_114 : decode cL_spread 114 = .ok (.iload 17, 2) := by decide +kernel
theorem dL_spread_116 : decode cL_spread 116 = .ok (.invokestatic 10, 3) := by decide +kernel
theorem dL_spread_119 : decode cL_spread 119 = .ok (.iadd, 1) := by decide +kernel
theorem dL_spread_120 : decode cL_spread 120 = .ok (.istore 18, 2) := by decide +kernel
theorem dL_spread_122 : decode cL_spread 122 = .ok (.iload 15, 2) := by decide +kernel
theorem dL_spread_124 : decode cL_spread 124 = .ok (.iload 17, 2) := by decide +kernel
theorem dL_spread_126 : decode cL_spread 126 = .ok (.invokestatic 16, 3) := by decide +kernel
theorem dL_spread_129 : decode cL_spread 129 = .ok (.iadd, 1) := by decide +kernel
theorem dL_spread_130 : decode cL_spread 130 = .ok (.istore 19, 2) := by decide +kernel
theorem dL_spread_132 : decode cL_spread 132 = .ok (.iload 16, 2) := by decide +kernel
theorem dL_spread_134 : decode cL_spread 134 = .ok (.ifCond .ne 43, 3) := by decide +kernel
theorem dL_spread_137 : decode cL_spread 137 = .ok (.iload 18, 2) := by decide +kernel
theorem dL_spread_139 : decode cL_spread 139 = .ok (.ifCond .lt 42, 3) := by decide +kernel
theorem dL_spread_142 : decode cL_spread 142 = .ok (.iload 18, 2) := by decide +kernel
theorem dL_spread_144 : decode cL_spread 144 = .ok (.aload_n 1, 1) := by decide +kernel
theorem dL_spread_145 : decode cL_spread 145 = .ok (.iconst 0, 1) := by decide +kernel
theorem dL_spread_146 : decode cL_spread 146 = .ok (.iaload, 1) := by decide +kernel
theorem dL_spread_147 : decode cL_spread 147 = .ok (.if_icmp .ge 34, 3) := by decide +kernel
theorem dL_spread_150 : decode cL_spread 150 = .ok (.iload 19, 2) := by decide +kernel
theorem dL_spread_152 : decode cL_spread 152 = .ok (.ifCond .lt 29, 3) := by decide +kernel
theorem dL_spread_155 : decode cL_spread 155 = .ok (.iload 19, 2) := by decide +kernel
theorem dL_spread_157 : decode cL_spread 157 = .ok (.aload_n 1, 1) := by decide +kernel
theorem dL_spread_158 : decode cL_spread 158 = .ok (.iconst 1, 1) := by decide +kernel
theorem dL_spread_159 : decode cL_spread 159 = .ok (.iaload, 1) := by decide +kernel
theorem dL_spread_160 : decode cL_spread 160 = .ok (.if_icmp .ge 21, 3) := by decide +kernel
theorem dL_spread_163 : decode cL_spread 163 = .ok (.aload 7, 2) := by decide +kernel
theorem dL_spread_165 : decode cL_spread 165 = .ok (.iload 18, 2) := by decide +kernel
theorem dL_spread_167 : decode cL_spread 167 = .ok (.iaload, 1) := by decide +kernel
theorem dL_spread_168 : decode cL_spread 168 = .ok (.iload 19, 2) := by decide +kernel
theorem dL_spread_170 : decode cL_spread 170 = .ok (.ishr, 1) := by decide +kernel
theorem dL_spread_171 : decode cL_spread 171 = .ok (.iconst 1, 1) := by decide +kernel
theorem dL_spread_172 : decode cL_spread 172 = .ok (.iand, 1) := by decide +kernel
theorem dL_spread_173 : decode cL_spread 173 = .ok (.iconst 1, 1) := by decide +kernel
theorem dL_spread_174 : decode cL_spread 174 = .ok (.if_icmp .ne 7, 3) := by decide +kernel
theorem dL_spread_177 : decode cL_spread 177 = .ok (.iconst 1, 1) := by decide +kernel
theorem dL_spread_178 : decode cL_spread 178 = .ok (.goto 4, 3) := by decide +kernel
theorem dL_spread_181 : decode cL_spread 181 = .ok (.iconst 0, 1) := by decide +kernel
theorem dL_spread_182 : decode cL_spread 182 = .ok (.istore 16, 2) := by decide +kernel
theorem dL_spread_184 : decode cL_spread 184 = .ok (.iload 17, 2) := by decide +kernel
theorem dL_spread_186 : decode cL_spread 186 = .ok (.iload 4, 2) := by decide +kernel
theorem dL_spread_188 : decode cL_spread 188 = .ok (.ifCond .eq 7, 3) := by decide +kernel
theorem dL_spread_191 : decode cL_spread 191 = .ok (.iconst 1, 1) := by decide +kernel
theorem dL_spread_192 : decode cL_spread 192 = .ok (.goto 4, 3) := by decide +kernel
theorem dL_spread_195 : decode cL_spread 195 = .ok (.iconst 2, 1) := by decide +kernel
theorem dL_spread_196 : decode cL_spread 196 = .ok (.iadd, 1) := by decide +kernel
theorem dL_spread_197 : decode cL_spread 197 = .ok (.istore 17, 2) := by decide +kernel
theorem dL_spread_199 : decode cL_spread 199 = .ok (.goto (-94), 3) := by decide +kernel
theorem dL_spread_202 : decode cL_spread 202 = .ok (.iload 16, 2) := by decide +kernel
theorem dL_spread_204 : decode cL_spread 204 = .ok (.ifCond .eq 48, 3) := by decide +kernel
theorem dL_spread_207 : decode cL_spread 207 = .ok (.aload 7, 2) := by decide +kernel
theorem dL_spread_209 : decode cL_spread 209 = .ok (.iload 14, 2) := by decide +kernel
theorem dL_spread_211 : decode cL_spread 211 = .ok (.iaload, 1) := by decide +kernel
theorem dL_spread_212 : decode cL_spread 212 = .ok (.iload 15, 2) := by decide +kernel
theorem dL_spread_214 : decode cL_spread 214 = .ok (.ishr, 1) := by decide +kernel
theorem dL_spread_215 : decode cL_spread 215 = .ok (.iconst 1, 1) := by decide +kernel
theorem dL_spread_216 : decode cL_spread 216 = .ok (.iand, 1) := by decide +kernel
theorem dL_spread_217 : decode cL_spread 217 = .ok (.ifCond .ne 35, 3) := by decide +kernel
theorem dL_spread_220 : decode cL_spread 220 = .ok (.aload_n 0, 1) := by decide +kernel
theorem dL_spread_221 : decode cL_spread 221 = .ok (.iload 14, 2) := by decide +kernel
theorem dL_spread_223 : decode cL_spread 223 = .ok (.iload 15, 2) := by decide +kernel
theorem dL_spread_225 : decode cL_spread 225 = .ok (.invokestatic 19, 3) := by decide +kernel
theorem dL_spread_228 : decode cL_spread 228 = .ok (.aload_n 0, 1) := by decide +kernel
theorem dL_spread_229 : decode cL_spread 229 = .ok (.iload_n 2, 1) := by decide +kernel
theorem dL_spread_230 : decode cL_spread 230 = .ok (.iload_n 3, 1) := by decide +kernel
theorem dL_spread_231 : decode cL_spread 231 = .ok (.invokestatic 19, 3) := by decide +kernel
theorem dL_spread_234 : decode cL_spread 234 = .ok (.if_icmp .ne 18, 3) := by decide +kernel
theorem dL_spread_237 : decode cL_spread 237 = .ok (.aload 12, 2) := by decide +kernel
theorem dL_spread_239 : decode cL_spread 239 = .ok (.iload 14, 2) := by decide +kernel
theorem dL_spread_241 : decode cL_spread 241 = .ok (.dup2, 1) := by decide +kernel
theorem dL_spread_242 : decode cL_spread 242 = .ok (.iaload, 1) := by decide +kernel
theorem dL_spread_243 : decode cL_spread 243 = .ok (.iconst 1, 1) := by decide +kernel
theorem dL_spread_244 : decode cL_spread 244 = .ok (.iload 15, 2) := by decide +kernel
theorem dL_spread_246 : decode cL_spread 246 = .ok (.ishl, 1) := by decide +kernel
theorem dL_spread_247 : decode cL_spread 247 = .ok (.ior, 1) := by decide +kernel
theorem dL_spread_248 : decode cL_spread 248 = .ok (.iastore, 1) := by decide +kernel
theorem dL_spread_249 : decode cL_spread 249 = .ok (.iinc 11 1, 3) := by decide +kernel
theorem dL_spread_252 : decode cL_spread 252 = .ok (.iinc 13 1, 3) := by decide +kernel
theorem dL_spread_255 : decode cL_spread 255 = .ok (.goto (-184), 3) := by decide +kernel
theorem dL_spread_258 : decode cL_spread 258 = .ok (.iconst 0, 1) := by decide +kernel
theorem dL_spread_259 : decode cL_spread 259 = .ok (.istore 13, 2) := by decide +kernel
theorem dL_spread_261 : decode cL_spread 261 = .ok (.iload 13, 2) := by decide +kernel
theorem dL_spread_263 : decode cL_spread 263 = .ok (.bipush 12, 2) := by decide +kernel
theorem dL_spread_265 : decode cL_spread 265 = .ok (.if_icmp .ge 22, 3) := by decide +kernel
theorem dL_spread_268 : decode cL_spread 268 = .ok (.aload 7, 2) := by decide +kernel
theorem dL_spread_270 : decode cL_spread 270 = .ok (.iload 13, 2) := by decide +kernel
theorem dL_spread_272 : decode cL_spread 272 = .ok (.dup2, 1) := by decide +kernel
theorem dL_spread_273 : decode cL_spread 273 = .ok (.iaload, 1) := by decide +kernel
theorem dL_spread_274 : decode cL_spread 274 = .ok (.aload 12, 2) := by decide +kernel
theorem dL_spread_276 : decode cL_spread 276 = .ok (.iload 13, 2) := by decide +kernel
theorem dL_spread_278 : decode cL_spread 278 = .ok (.iaload, 1) := by decide +kernel
theorem dL_spread_279 : decode cL_spread 279 = .ok (.ior, 1) := by decide +kernel
theorem dL_spread_280 : decode cL_spread 280 = .ok (.iastore, 1) := by decide +kernel
theorem dL_spread_281 : decode cL_spread 281 = .ok (.iinc 13 1, 3) := by decide +kernel
theorem dL_spread_284 : decode cL_spread 284 = .ok (.goto (-23), 3) := by decide +kernel
theorem dL_spread_287 : decode cL_spread 287 = .ok (.iload 9, 2) := by decide +kernel
theorem dL_spread_289 : decode cL_spread 289 = .ok (.iload 11, 2) := by decide +kernel
theorem dL_spread_291 : decode cL_spread 291 = .ok (.iadd, 1) := by decide +kernel
theorem dL_spread_292 : decode cL_spread 292 = .ok (.istore 9, 2) := by decide +kernel
theorem dL_spread_294 : decode cL_spread 294 = .ok (.iinc 10 1, 3) := by decide +kernel
theorem dL_spread_297 : decode cL_spread 297 = .ok (.goto (-271), 3) := by decide +kernel
theorem dL_spread_300 : decode cL_spread 300 = .ok (.aload 7, 2) := by decide +kernel
theorem dL_spread_302 : decode cL_spread 302 = .ok (.iconst 0, 1) := by decide +kernel
theorem dL_spread_303 : decode cL_spread 303 = .ok (.iaload, 1) := by decide +kernel
theorem dL_spread_304 : decode cL_spread 304 = .ok (.ifCond .ne 14, 3) := by decide +kernel
theorem dL_spread_307 : decode cL_spread 307 = .ok (.aload 7, 2) := by decide +kernel
theorem dL_spread_309 : decode cL_spread 309 = .ok (.aload_n 1, 1) := by decide +kernel
theorem dL_spread_310 : decode cL_spread 310 = .ok (.iconst 0, 1) := by decide +kernel
theorem dL_spread_311 : decode cL_spread 311 = .ok (.iaload, 1) := by decide +kernel
theorem dL_spread_312 : decode cL_spread 312 = .ok (.iconst 1, 1) := by decide +kernel
theorem dL_spread_313 : decode cL_spread 313 = .ok (.isub, 1) := by decide +kernel
theorem dL_spread_314 : decode cL_spread 314 = .ok (.iaload, 1) := by decide +kernel
theorem dL_spread_315 : decode cL_spread 315 = .ok (.ifCond .eq 7, 3) := by decide +kernel
theorem dL_spread_318 : decode cL_spread 318 = .ok (.iconst 1, 1) := by decide +kernel
theorem dL_spread_319 : decode cL_spread 319 = .ok (.goto 4, 3) := by decide +kernel
theorem dL_spread_322 : decode cL_spread 322 = .ok (.iconst 0, 1) := by decide +kernel
theorem dL_spread_323 : decode cL_spread 323 = .ok (.istore 12, 2) := by decide +kernel
theorem dL_spread_325 : decode cL_spread 325 = .ok (.iconst (-1), 1) := by decide +kernel
theorem dL_spread_326 : decode cL_spread 326 = .ok (.istore 13, 2) := by decide +kernel
theorem dL_spread_328 : decode cL_spread 328 = .ok (.aload_n 1, 1) := by decide +kernel
theorem dL_spread_329 : decode cL_spread 329 = .ok (.iconst 0, 1) := by decide +kernel
theorem dL_spread_330 : decode cL_spread 330 = .ok (.iaload, 1) := by decide +kernel
theorem dL_spread_331 : decode cL_spread 331 = .ok (.iconst 1, 1) := by decide +kernel
theorem dL_spread_332 : decode cL_spread 332 = .ok (.isub, 1) := by decide +kernel
theorem dL_spread_333 : decode cL_spread 333 = .ok (.istore 14, 2) := by decide +kernel
theorem dL_spread_335 : decode cL_spread 335 = .ok (.iload 14, 2) := by decide +kernel
theorem dL_spread_337 : decode cL_spread 337 = .ok (.ifCond .lt 82, 3) := by decide +kernel
theorem dL_spread_340 : decode cL_spread 340 = .ok (.iload 12, 2) := by decide +kernel
theorem dL_spread_342 : decode cL_spread 342 = .ok (.aload 7, 2) := by decide +kernel
theorem dL_spread_344 : decode cL_spread 344 = .ok (.iload 14, 2) := by decide +kernel
theorem dL_spread_346 : decode cL_spread 346 = .ok (.iaload, 1) := by decide +kernel
theorem dL_spread_347 : decode cL_spread 347 = .ok (.iconst 1, 1) := by decide +kernel
theorem dL_spread_348 : decode cL_spread 348 = .ok (.iand, 1) := by decide +kernel
theorem dL_spread_349 : decode cL_spread 349 = .ok (.aload 7, 2) := by decide +kernel
theorem dL_spread_351 : decode cL_spread 351 = .ok (.iload 14, 2) := by decide +kernel
theorem dL_spread_353 : decode cL_spread 353 = .ok (.iaload, 1) := by decide +kernel
theorem dL_spread_354 : decode cL_spread 354 = .ok (.aload_n 1, 1) := by decide +kernel
theorem dL_spread_355 : decode cL_spread 355 = .ok (.iconst 1, 1) := by decide +kernel
theorem dL_spread_356 : decode cL_spread 356 = .ok (.iaload, 1) := by decide +kernel
theorem dL_spread_357 : decode cL_spread 357 = .ok (.iconst 1, 1) := by decide +kernel
theorem dL_spread_358 : decode cL_spread 358 = .ok (.isub, 1) := by decide +kernel
theorem dL_spread_359 : decode cL_spread 359 = .ok (.ishr, 1) := by decide +kernel
theorem dL_spread_360 : decode cL_spread 360 = .ok (.iconst 1, 1) := by decide +kernel
theorem dL_spread_361 : decode cL_spread 361 = .ok (.iand, 1) := by decide +kernel
theorem dL_spread_362 : decode cL_spread 362 = .ok (.ior, 1) := by decide +kernel
theorem dL_spread_363 : decode cL_spread 363 = .ok (.ior, 1) := by decide +kernel
theorem dL_spread_364 : decode cL_spread 364 = .ok (.istore 12, 2) := by decide +kernel
theorem dL_spread_366 : decode cL_spread 366 = .ok (.aload_n 1, 1) := by decide +kernel
theorem dL_spread_367 : decode cL_spread 367 = .ok (.iconst 1, 1) := by decide +kernel
theorem dL_spread_368 : decode cL_spread 368 = .ok (.iaload, 1) := by decide +kernel
theorem dL_spread_369 : decode cL_spread 369 = .ok (.iconst 1, 1) := by decide +kernel
theorem dL_spread_370 : decode cL_spread 370 = .ok (.isub, 1) := by decide +kernel
theorem dL_spread_371 : decode cL_spread 371 = .ok (.istore 15, 2) := by decide +kernel
theorem dL_spread_373 : decode cL_spread 373 = .ok (.iload 15, 2) := by decide +kernel
theorem dL_spread_375 : decode cL_spread 375 = .ok (.ifCond .lt 38, 3) := by decide +kernel
theorem dL_spread_378 : decode cL_spread 378 = .ok (.aload 7, 2) := by decide +kernel
theorem dL_spread_380 : decode cL_spread 380 = .ok (.iload 14, 2) := by decide +kernel
theorem dL_spread_382 : decode cL_spread 382 = .ok (.iaload, 1) := by decide +kernel
theorem dL_spread_383 : decode cL_spread 383 = .ok (.iload 15, 2) := by decide +kernel
theorem dL_spread_385 : decode cL_spread 385 = .ok (.ishr, 1) := by decide +kernel
theorem dL_spread_386 : decode cL_spread 386 = .ok (.iconst 1, 1) := by decide +kernel
theorem dL_spread_387 : decode cL_spread 387 = .ok (.iand, 1) := by decide +kernel
theorem dL_spread_388 : decode cL_spread 388 = .ok (.iconst 1, 1) := by decide +kernel
theorem dL_spread_389 : decode cL_spread 389 = .ok (.if_icmp .ne 14, 3) := by decide +kernel
theorem dL_spread_392 : decode cL_spread 392 = .ok (.bipush 100, 2) := by decide +kernel
theorem dL_spread_394 : decode cL_spread 394 = .ok (.iload 14, 2) := by decide +kernel
theorem dL_spread_396 : decode cL_spread 396 = .ok (.imul, 1) := by decide +kernel
theorem dL_spread_397 : decode cL_spread 397 = .ok (.iload 15, 2) := by decide +kernel
theorem dL_spread_399 : decode cL_spread 399 = .ok (.iadd, 1) := by decide +kernel
theorem dL_spread_400 : decode cL_spread 400 = .ok (.goto 5, 3) := by decide +kernel
theorem dL_spread_403 : decode cL_spread 403 = .ok (.iload 13, 2) := by decide +kernel
theorem dL_spread_405 : decode cL_spread 405 = .ok (.istore 13, 2) := by decide +kernel
theorem dL_spread_407 : decode cL_spread 407 = .ok (.iinc 15 (-1), 3) := by decide +kernel
theorem dL_spread_410 : decode cL_spread 410 = .ok (.goto (-37), 3) := by decide +kernel
theorem dL_spread_413 : decode cL_spread 413 = .ok (.iinc 14 (-1), 3) := by decide +kernel
theorem dL_spread_416 : decode cL_spread 416 = .ok (.goto (-81), 3) := by decide +kernel
theorem dL_spread_419 : decode cL_spread 419 = .ok (.iload 5, 2) := by decide +kernel
theorem dL_spread_421 : decode cL_spread 421 = .ok (.iload_n 2, 1) := by decide +kernel
theorem dL_spread_422 : decode cL_spread 422 = .ok (.if_icmp .ne 26, 3) := by decide +kernel
theorem dL_spread_425 : decode cL_spread 425 = .ok (.iload 6, 2) := by decide +kernel
theorem dL_spread_427 : decode cL_spread 427 = .ok (.iload_n 3, 1) := by decide +kernel
theorem dL_spread_428 : decode cL_spread 428 = .ok (.if_icmp .ne 20, 3) := by decide +kernel
theorem dL_spread_431 : decode cL_spread 431 = .ok (.sipush 10000, 3) := by decide +kernel
theorem dL_spread_434 : decode cL_spread 434 = .ok (.iload 9, 2) := by decide +kernel
theorem dL_spread_436 : decode cL_spread 436 = .ok (.imul, 1) := by decide +kernel
theorem dL_spread_437 : decode cL_spread 437 = .ok (.iconst 2, 1) := by decide +kernel
theorem dL_spread_438 : decode cL_spread 438 = .ok (.iload 13, 2) := by decide +kernel
theorem dL_spread_440 : decode cL_spread 440 = .ok (.imul, 1) := by decide +kernel
theorem dL_spread_441 : decode cL_spread 441 = .ok (.iadd, 1) := by decide +kernel
theorem dL_spread_442 : decode cL_spread 442 = .ok (.iload 12, 2) := by decide +kernel
theorem dL_spread_444 : decode cL_spread 444 = .ok (.iadd, 1) := by decide +kernel
theorem dL_spread_445 : decode cL_spread 445 = .ok (.goto 5, 3) := by decide +kernel
theorem dL_spread_448 : decode cL_spread 448 = .ok (.iload 8, 2) := by decide +kernel
theorem dL_spread_450 : decode cL_spread 450 = .ok (.ireturn, 1) := by decide +kernel
theorem dL_regions_0 : decode cL_regions 0 = .ok (.iconst 0, 1) := by decide +kernel
theorem dL_regions_1 : decode cL_regions 1 = .ok (.istore 4, 2) := by decide +kernel
theorem dL_regions_3 : decode cL_regions 3 = .ok (.iconst 0, 1) := by decide +kernel
theorem dL_regions_4 : decode cL_regions 4 = .ok (.istore 5, 2) := by decide +kernel
theorem dL_regions_6 : decode cL_regions 6 = .ok (.iconst 0, 1) := by decide +kernel
theorem dL_regions_7 : decode cL_regions 7 = .ok (.istore 6, 2) := by decide +kernel
theorem dL_regions_9 : decode cL_regions 9 = .ok (.bipush (-6), 2) := by decide +kernel
theorem dL_regions_11 : decode cL_regions 11 = .ok (.istore 7, 2) := by decide +kernel
theorem dL_regions_13 : decode cL_regions 13 = .ok (.iconst 0, 1) := by decide +kernel
theorem dL_regions_14 : decode cL_regions 14 = .ok (.istore 8, 2) := by decide +kernel
theorem dL_regions_16 : decode cL_regions 16 = .ok (.iload 8, 2) := by decide +kernel
theorem dL_regions_18 : decode cL_regions 18 = .ok (.aload_n 2, 1) := by decide +kernel
theorem dL_regions_19 : decode cL_regions 19 = .ok (.iconst 0, 1) := by decide +kernel
theorem dL_regions_20 : decode cL_regions 20 = .ok (.iaload, 1) := by decide +kernel
theorem dL_regions_21 : decode cL_regions 21 = .ok (.aload_n 2, 1) := by decide +kernel
theorem dL_regions_22 : decode cL_regions 22 = .ok (.iconst 1, 1) := by decide +kernel
theorem dL_regions_23 : decode cL_regions 23 = .ok (.iaload, 1) := by decide +kernel
theorem dL_regions_24 : decode cL_regions 24 = .ok (.imul, 1) := by decide +kernel
theorem dL_regions_25 : decode cL_regions 25 = .ok (.if_icmp .ge 199, 3) := by decide +kernel
theorem dL_regions_28 : decode cL_regions 28 = .ok (.iload 8, 2) := by decide +kernel
theorem dL_regions_30 : decode cL_regions 30 = .ok (.aload_n 2, 1) := by decide +kernel
theorem dL_regions_31 : decode cL_regions 31 = .ok (.iconst 1, 1) := by decide +kernel
theorem dL_regions_32 : decode cL_regions 32 = .ok (.iaload, 1) := by decide +kernel
theorem dL_regions_33 : decode cL_regions 33 = .ok (.idiv, 1) := by decide +kernel
theorem dL_regions_34 : decode cL_regions 34 = .ok (.istore 9, 2) := by decide +kernel
theorem dL_regions_36 : decode cL_regions 36 = .ok (.iload 8, 2) := by decide +kernel
theorem dL_regions_38 : decode cL_regions 38 = .ok (.aload_n 2, 1) := by decide +kernel
theorem dL_regions_39 : decode cL_regions 39 = .ok (.iconst 1, 1) := by decide +kernel
theorem dL_regions_40 : decode cL_regions 40 = .ok (.iaload, 1) := by decide +kernel
theorem dL_regions_41 : decode cL_regions 41 = .ok (.irem, 1) := by decide +kernel
theorem dL_regions_42 : decode cL_regions 42 = .ok (.istore 10, 2) := by decide +kernel
theorem dL_regions_44 : decode cL_regions 44 = .ok (.aload_n 1, 1) := by decide +kernel
theorem dL_regions_45 : decode cL_regions 45 = .ok (.iload 9, 2) := by decide +kernel
theorem dL_regions_47 : decode cL_regions 47 = .ok (.iload 10, 2) := by decide +kernel
theorem dL_regions_49 : decode cL_regions 49 = .ok (.invokestatic 19, 3) := by decide +kernel
theorem dL_regions_52 : decode cL_regions 52 = .ok (.iconst 1, 1) := by decide +kernel
theorem dL_regions_53 : decode cL_regions 53 = .ok (.if_icmp .ne 7, 3) := by decide +kernel
theorem dL_regions_56 : decode cL_regions 56 = .ok (.iconst 1, 1) := by decide +kernel
theorem dL_regions_57 : decode cL_regions 57 = .ok (.goto 4, 3) := by decide +kernel
theorem dL_regions_60 : decode cL_regions 60 = .ok (.iconst 0, 1) := by decide +kernel
theorem dL_regions_61 : decode cL_regions 61 = .ok (.istore 11, 2) := by decide +kernel
theorem dL_regions_63 : decode cL_regions 63 = .ok (.aload_n 1, 1) := by decide +kernel
theorem dL_regions_64 : decode cL_regions 64 = .ok (.aload_n 2, 1) := by decide +kernel
theorem dL_regions_65 : decode cL_regions 65 = .ok (.iload 9, 2) := by decide +kernel
theorem dL_regions_67 : decode cL_regions 67 = .ok (.iload 10, 2) := by decide +kernel
theorem dL_regions_69 : decode cL_regions 69 = .ok (.iload 11, 2) := by decide +kernel
theorem dL_regions_71 : decode cL_regions 71 = .ok (.iload 9, 2) := by decide +kernel
theorem dL_regions_73 : decode cL_regions 73 = .ok (.iload 10, 2) := by decide +kernel
theorem dL_regions_75 : decode cL_regions 75 = .ok (.invokestatic 69, 3) := by decide +kernel
theorem dL_regions_78 : decode cL_regions 78 = .ok (.istore 12, 2) := by decide +kernel
theorem dL_regions_80 : decode cL_regions 80 = .ok (.iload 12, 2) := by decide +kernel
theorem dL_regions_82 : decode cL_regions 82 = .ok (.sipush 10000, 3) := by decide +kernel
theorem dL_regions_85 : decode cL_regions 85 = .ok (.irem, 1) := by decide +kernel
theorem dL_regions_86 : decode cL_regions 86 = .ok (.iconst 2, 1) := by decide +kernel
theorem dL_regions_87 : decode cL_regions 87 = .ok (.idiv, 1) := by decide +kernel
theorem dL_regions_88 : decode cL_regions 88 = .ok (.bipush 100, 2) := by decide +kernel
theorem dL_regions_90 : decode cL_regions 90 = .ok (.iload 9, 2) := by decide +kernel
theorem dL_regions_92 : decode cL_regions 92 = .ok (.imul, 1) := by decide +kernel
theorem dL_regions_93 : decode cL_regions 93 = .ok (.iload 10, 2) := by decide +kernel
theorem dL_regions_95 : decode cL_regions 95 = .ok (.iadd, 1) := by decide +kernel
theorem dL_regions_96 : decode cL_regions 96 = .ok (.if_icmp .ne 7, 3) := by decide +kernel
theorem dL_regions_99 : decode cL_regions 99 = .ok (.iconst 1, 1) := by decide +kernel
theorem dL_regions_100 : decode cL_regions 100 = .ok (.goto 4, 3) := by decide +kernel
theorem dL_regions_103 : decode cL_regions 103 = .ok (.iconst 0, 1) := by decide +kernel
theorem dL_regions_104 : decode cL_regions 104 = .ok (.istore 13, 2) := by decide +kernel
theorem dL_regions_106 : decode cL_regions 106 = .ok (.iload 4, 2) := by decide +kernel
theorem dL_regions_108 : decode cL_regions 108 = .ok (.iload 11, 2) := by decide +kernel
theorem dL_regions_110 : decode cL_regions 110 = .ok (.ifCond .eq 12, 3) := by decide +kernel
theorem dL_regions_113 : decode cL_regions 113 = .ok (.iload 13, 2) := by decide +kernel
theorem dL_regions_115 : decode cL_regions 115 = .ok (.ifCond .eq 7, 3) := by decide +kernel
theorem dL_regions_118 : decode cL_regions 118 = .ok (.iconst 1, 1) := by decide +kernel
theorem dL_regions_119 : decode cL_regions 119 = .ok (.goto 4, 3) := by decide +kernel
theorem dL_regions_122 : decode cL_regions 122 = .ok (.iconst 0, 1) := by decide +kernel
theorem dL_regions_123 : decode cL_regions 123 = .ok (.iadd, 1) := by decide +kernel
theorem dL_regions_124 : decode cL_regions 124 = .ok (.istore 4, 2) := by decide +kernel
theorem dL_regions_126 : decode cL_regions 126 = .ok (.iload 5, 2) := by decide +kernel
theorem dL_regions_128 : decode cL_regions 128 = .ok (.iload 11, 2) := by decide +kernel
theorem dL_regions_130 : decode cL_regions 130 = .ok (.ifCond .ne 19, 3) := by decide +kernel
theorem dL_regions_133 : decode cL_regions 133 = .ok (.iload 13, 2) := by decide +kernel
theorem dL_regions_135 : decode cL_regions 135 = .ok (.ifCond .eq 14, 3) := by decide +kernel
theorem dL_regions_138 : decode cL_regions 138 = .ok (.iload 12, 2) := by decide +kernel
theorem dL_regions_140 : decode cL_regions 140 = .ok (.iconst 2, 1) := by decide +kernel
theorem dL_regions_141 : decode cL_regions 141 = .ok (.irem, 1) := by decide +kernel
theorem dL_regions_142 : decode cL_regions 142 = .ok (.ifCond .ne 7, 3) := by decide +kernel
theorem dL_regions_145 : decode cL_regions 145 = .ok (.iconst 1, 1) := by decide +kernel
theorem dL_regions_146 : decode cL_regions 146 = .ok (.goto 4, 3) := by decide +kernel
theorem dL_regions_149 : decode cL_regions 149 = .ok (.iconst 0, 1) := by decide +kernel
theorem dL_regions_150 : decode cL_regions 150 = .ok (.iadd, 1) := by decide +kernel
theorem dL_regions_151 : decode cL_regions 151 = .ok (.istore 5, 2) := by decide +kernel
theorem dL_regions_153 : decode cL_regions 153 = .ok (.iload 11, 2) := by decide +kernel
theorem dL_regions_155 : decode cL_regions 155 = .ok (.ifCond .eq 30, 3) := by decide +kernel
theorem dL_regions_158 : decode cL_regions 158 = .ok (.iload 13, 2) := by decide +kernel
theorem dL_regions_160 : decode cL_regions 160 = .ok (.ifCond .eq 25, 3) := by decide +kernel
theorem dL_regions_163 : decode cL_regions 163 = .ok (.iload 12, 2) := by decide +kernel
theorem dL_regions_165 : decode cL_regions 165 = .ok (.sipush 10000, 3) := by decide +kernel
theorem dL_regions_168 : decode cL_regions 168 = .ok (.idiv, 1) := by decide +kernel
theorem dL_regions_169 : decode cL_regions 169 = .ok (.iload 6, 2) := by decide +kernel
theorem dL_regions_171 : decode cL_regions 171 = .ok (.if_icmp .le 14, 3) := by decide +kernel
theorem dL_regions_174 : decode cL_regions 174 = .ok (.bipush 100, 2) := by decide +kernel
theorem dL_regions_176 : decode cL_regions 176 = .ok (.iload 9, 2) := by decide +kernel
theorem dL_regions_178 : decode cL_regions 178 = .ok (.imul, 1) := by decide +kernel
theorem dL_regions_179 : decode cL_regions 179 = .ok (.iload 10, 2) := by decide +kernel
theorem dL_regions_181 : decode cL_regions 181 = .ok (.iadd, 1) := by decide +kernel
theorem dL_regions_182 : decode cL_regions 182 = .ok (.goto 5, 3) := by decide +kernel
theorem dL_regions_185 : decode cL_regions 185 = .ok (.iload 7, 2) := by decide +kernel
theorem dL_regions_187 : decode cL_regions 187 = .ok (.istore 7, 2) := by decide +kernel
theorem dL_regions_189 : decode cL_regions 189 = .ok (.iload 11, 2) := by decide +kernel
theorem dL_regions_191 : decode cL_regions 191 = .ok (.ifCond .eq 23, 3) := by decide +kernel
theorem dL_regions_194 : decode cL_regions 194 = .ok (.iload 12, 2) := by decide +kernel
theorem dL_regions_196 : decode cL_regions 196 = .ok (.sipush 10000, 3) := by decide +kernel
theorem dL_regions_199 : decode cL_regions 199 = .ok (.idiv, 1) := by decide +kernel
theorem dL_regions_200 : decode cL_regions 200 = .ok (.iload 6, 2) := by decide +kernel
theorem dL_regions_202 : decode cL_regions 202 = .ok (.if_icmp .le 12, 3) := by decide +kernel
theorem dL_regions_205 : decode cL_regions 205 = .ok (.iload 12, 2) := by decide +kernel
theorem dL_regions_207 : decode cL_regions 207 = .ok (.sipush 10000, 3) := by decide +kernel
theorem dL_regions_210 : decode cL_regions 210 = .ok (.idiv, 1) := by decide +kernel
theorem dL_regions_211 : decode cL_regions 211 = .ok (.goto 5, 3) := by decide +kernel
theorem dL_regions_214 : decode cL_regions 214 = .ok (.iload 6, 2) := by decide +kernel
theorem dL_regions_216 : decode cL_regions 216 = .ok (.istore 6, 2) := by decide +kernel
theorem dL_regions_218 : decode cL_regions 218 = .ok (.iinc 8 1, 3) := by decide +kernel
theorem dL_regions_221 : decode cL_regions 221 = .ok (.goto (-205), 3) := by decide +kernel
theorem dL_regions_224 : decode cL_regions 224 = .ok (.iload_n 3, 1) := by decide +kernel
theorem dL_regions_225 : decode cL_regions 225 = .ok (.aload_n 2, 1) := by decide +kernel
theorem dL_regions_226 : decode cL_regions 226 = .ok (.iconst 0, 1) := by decide +kernel
theorem dL_regions_227 : decode cL_regions 227 = .ok (.iaload, 1) := by decide +kernel
theorem dL_regions_228 : decode cL_regions 228 = .ok (.invokestatic 73, 3) := by decide +kernel
theorem dL_regions_231 : decode cL_regions 231 = .ok (.istore 8, 2) := by decide +kernel
theorem dL_regions_233 : decode cL_regions 233 = .ok (.iload_n 3, 1) := by decide +kernel
theorem dL_regions_234 : decode cL_regions 234 = .ok (.iconst 4, 1) := by decide +kernel
theorem dL_regions_235 : decode cL_regions 235 = .ok (.ishr, 1) := by decide +kernel
theorem dL_regions_236 : decode cL_regions 236 = .ok (.aload_n 2, 1) := by decide +kernel
theorem dL_regions_237 : decode cL_regions 237 = .ok (.iconst 1, 1) := by decide +kernel
theorem dL_regions_238 : decode cL_regions 238 = .ok (.iaload, 1) := by decide +kernel
theorem dL_regions_239 : decode cL_regions 239 = .ok (.invokestatic 73, 3) := by decide +kernel
theorem dL_regions_242 : decode cL_regions 242 = .ok (.istore 9, 2) := by decide +kernel
theorem dL_regions_244 : decode cL_regions 244 = .ok (.iload_n 3, 1) := by decide +kernel
theorem dL_regions_245 : decode cL_regions 245 = .ok (.bipush 8, 2) := by decide +kernel
theorem dL_regions_247 : decode cL_regions 247 = .ok (.ishr, 1) := by decide +kernel
theorem dL_regions_248 : decode cL_regions 248 = .ok (.aload_n 2, 1) := by decide +kernel
theorem dL_regions_249 : decode cL_regions 249 = .ok (.iconst 0, 1) := by decide +kernel
theorem dL_regions_250 : decode cL_regions 250 = .ok (.iaload, 1) := by decide +kernel
theorem dL_regions_251 : decode cL_regions 251 = .ok (.invokestatic 73, 3) := by decide +kernel
theorem dL_regions_254 : decode cL_regions 254 = .ok (.istore 10, 2) := by decide +kernel
theorem dL_regions_256 : decode cL_regions 256 = .ok (.iload_n 3, 1) := by decide +kernel
theorem dL_regions_257 : decode cL_regions 257 = .ok (.bipush 12, 2) := by decide +kernel
theorem dL_regions_259 : decode cL_regions 259 = .ok (.ishr, 1) := by decide +kernel
theorem dL_regions_260 : decode cL_regions 260 = .ok (.aload_n 2, 1) := by decide +kernel
theorem dL_regions_261 : decode cL_regions 261 = .ok (.iconst 1, 1) := by decide +kernel
theorem dL_regions_262 : decode cL_regions 262 = .ok (.iaload, 1) := by decide +kernel
theorem dL_regions_263 : decode cL_regions 263 = .ok (.invokestatic 73, 3) := by decide +kernel
theorem dL_regions_266 : decode cL_regions 266 = .ok (.istore 11, 2) := by decide +kernel
theorem dL_regions_268 : decode cL_regions 268 = .ok (.iload 8, 2) := by decide +kernel
theorem dL_regions_270 : decode cL_regions 270 = .ok (.iload 10, 2) := by decide +kernel
theorem dL_regions_272 : decode cL_regions 272 = .ok (.if_icmp .ne 14, 3) := by decide +kernel
theorem dL_regions_275 : decode cL_regions 275 = .ok (.iload 9, 2) := by decide +kernel
theorem dL_regions_277 : decode cL_regions 277 = .ok (.iload 11, 2) := by decide +kernel
theorem dL_regions_279 : decode cL_regions 279 = .ok (.if_icmp .ne 7, 3) := by decide +kernel
theorem dL_regions_282 : decode cL_regions 282 = .ok (.iconst 1, 1) := by decide +kernel
theorem dL_regions_283 : decode cL_regions 283 = .ok (.goto 4, 3) := by decide +kernel
theorem dL_regions_286 : decode cL_regions 286 = .ok (.iconst 0, 1) := by decide +kernel
theorem dL_regions_287 : decode cL_regions 287 = .ok (.istore 12, 2) := by decide +kernel
theorem dL_regions_289 : decode cL_regions 289 = .ok (.aload_n 0, 1) := by decide +kernel
theorem dL_regions_290 : decode cL_regions 290 = .ok (.invokevirtual 77, 3) := by decide +kernel
theorem dL_regions_293 : decode cL_regions 293 = .ok (.iload 4, 2) := by decide +kernel
theorem dL_regions_295 : decode cL_regions 295 = .ok (.if_icmp .ne 123, 3) := by decide +kernel
theorem dL_regions_298 : decode cL_regions 298 = .ok (.aload_n 0, 1) := by decide +kernel
theorem dL_regions_299 : decode cL_regions 299 = .ok (.invokevirtual 80, 3) := by decide +kernel
theorem dL_regions_302 : decode cL_regions 302 = .ok (.iload 5, 2) := by decide +kernel
theorem dL_regions_304 : decode cL_regions 304 = .ok (.if_icmp .ne 114, 3) := by decide +kernel
theorem dL_regions_307 : decode cL_regions 307 = .ok (.aload_n 0, 1) := by decide +kernel
theorem dL_regions_308 : decode cL_regions 308 = .ok (.invokevirtual 83, 3) := by decide +kernel
theorem dL_regions_311 : decode cL_regions 311 = .ok (.iload 7, 2) := by decide +kernel
theorem dL_regions_313 : decode cL_regions 313 = .ok (.if_icmp .ne 105, 3) := by decide +kernel
theorem dL_regions_316 : decode cL_regions 316 = .ok (.aload_n 0, 1) := by decide +kernel
theorem dL_regions_317 : decode cL_regions 317 = .ok (.iload 8, 2) := by decide +kernel
theorem dL_regions_319 : decode cL_regions 319 = .ok (.iload 9, 2) := by decide +kernel
theorem dL_regions_321 : decode cL_regions 321 = .ok (.iconst 0, 1) := by decide +kernel
theorem dL_regions_322 : decode cL_regions 322 = .ok (.invokevirtual 86, 3) := by decide +kernel
theorem dL_regions_325 : decode cL_regions 325 = .ok (.aload_n 1, 1) := by decide +kernel
theorem dL_regions_326 : decode cL_regions 326 = .ok (.aload_n 2, 1) := by decide +kernel
theorem dL_regions_327 : decode cL_regions 327 = .ok (.iload 8, 2) := by decide +kernel
theorem dL_regions_329 : decode cL_regions 329 = .ok (.iload 9, 2) := by decide +kernel
theorem dL_regions_331 : decode cL_regions 331 = .ok (.iconst 0, 1) := by decide +kernel
theorem dL_regions_332 : decode cL_regions 332 = .ok (.iload 8, 2) := by decide +kernel
theorem dL_regions_334 : decode cL_regions 334 = .ok (.iload 9, 2) := by decide +kernel
theorem dL_regions_336 : decode cL_regions 336 = .ok (.invokestatic 69, 3) := by decide +kernel
theorem dL_regions_339 : decode cL_regions 339 = .ok (.sipush 10000, 3) := by decide +kernel
theorem dL_regions_342 : decode cL_regions 342 = .ok (.idiv, 1) := by decide +kernel
theorem dL_regions_343 : decode cL_regions 343 = .ok (.if_icmp .ne 75, 3) := by decide +kernel
theorem dL_regions_346 : decode cL_regions 346 = .ok (.aload_n 0, 1) := by decide +kernel
theorem dL_regions_347 : decode cL_regions 347 = .ok (.iload 8, 2) := by decide +kernel
theorem dL_regions_349 : decode cL_regions 349 = .ok (.iload 9, 2) := by decide +kernel
theorem dL_regions_351 : decode cL_regions 351 = .ok (.iconst 1, 1) := by decide +kernel
theorem dL_regions_352 : decode cL_regions 352 = .ok (.invokevirtual 86, 3) := by decide +kernel
theorem dL_regions_355 : decode cL_regions 355 = .ok (.aload_n 1, 1) := by decide +kernel
theorem dL_regions_356 : decode cL_regions 356 = .ok (.aload_n 2, 1) := by decide +kernel
theorem dL_regions_357 : decode cL_regions 357 = .ok (.iload 8, 2) := by decide +kernel
theorem dL_regions_359 : decode cL_regions 359 = .ok (.iload 9, 2) := by decide +kernel
theorem dL_regions_361 : decode cL_regions 361 = .ok (.iconst 1, 1) := by decide +kernel
theorem dL_regions_362 : decode cL_regions 362 = .ok (.iload 8, 2) := by decide +kernel
theorem dL_regions_364 : decode cL_regions 364 = .ok (.iload 9, 2) := by decide +kernel
theorem dL_regions_366 : decode cL_regions 366 = .ok (.invokestatic 69, 3) := by decide +kernel
theorem dL_regions_369 : decode cL_regions 369 = .ok (.sipush 10000, 3) := by decide +kernel
theorem dL_regions_372 : decode cL_regions 372 = .ok (.idiv, 1) := by decide +kernel
theorem dL_regions_373 : decode cL_regions 373 = .ok (.if_icmp .ne 45, 3) := by decide +kernel
theorem dL_regions_376 : decode cL_regions 376 = .ok (.aload_n 0, 1) := by decide +kernel
theorem dL_regions_377 : decode cL_regions 377 = .ok (.iload 8, 2) := by decide +kernel
theorem dL_regions_379 : decode cL_regions 379 = .ok (.iload 9, 2) := by decide +kernel
theorem dL_regions_381 : decode cL_regions 381 = .ok (.iload 10, 2) := by decide +kernel
theorem dL_regions_383 : decode cL_regions 383 = .ok (.iload 11, 2) := by decide +kernel
theorem dL_regions_385 : decode cL_regions 385 = .ok (.invokevirtual 90, 3) := by decide +kernel
theorem dL_regions_388 : decode cL_regions 388 = .ok (.iload 12, 2) := by decide +kernel
theorem dL_regions_390 : decode cL_regions 390 = .ok (.ifCond .eq 7, 3) := by decide +kernel
theorem dL_regions_393 : decode cL_regions 393 = .ok (.iconst 0, 1) := by decide +kernel
theorem dL_regions_394 : decode cL_regions 394 = .ok (.goto 17, 3) := by decide +kernel
theorem dL_regions_397 : decode cL_regions 397 = .ok (.aload_n 1, 1) := by decide +kernel
theorem dL_regions_398 : decode cL_regions 398 = .ok (.aload_n 2, 1) := by decide +kernel
theorem dL_regions_399 : decode cL_regions 399 = .ok (.iload 8, 2) := by decide +kernel
theorem dL_regions_401 : decode cL_regions 401 = .ok (.iload 9, 2) := by decide +kernel
theorem dL_regions_403 : decode cL_regions 403 = .ok (.iconst 0, 1) := by decide +kernel
theorem dL_regions_404 : decode cL_regions 404 = .ok (.iload 10, 2) := by decide +kernel
theorem dL_regions_406 : decode cL_regions 406 = .ok (.iload 11, 2) := by decide +kernel
theorem dL_regions_408 : decode cL_regions 408 = .ok (.invokestatic 69, 3) := by decide +kernel
theorem dL_regions_411 : decode cL_regions 411 = .ok (.if_icmp .ne 7, 3) := by decide +kernel
theorem dL_regions_414 : decode cL_regions 414 = .ok (.iconst 1, 1) := by decide +kernel
theorem dL_regions_415 : decode cL_regions 415 = .ok (.goto 4, 3) := by decide +kernel
theorem dL_regions_418 : decode cL_regions 418 = .ok (.iconst 0, 1) := by decide +kernel
theorem dL_regions_419 : decode cL_regions 419 = .ok (.ireturn, 1) := by decide +kernel
theorem dL_needs_0 : decode cL_needs 0 = .ok (.iload 5, 2) := by decide +kernel
theorem dL_needs_2 : decode cL_needs 2 = .ok (.invokestatic 29, 3) := by decide +kernel
theorem dL_needs_5 : decode cL_needs 5 = .ok (.istore 6, 2) := by decide +kernel
theorem dL_needs_7 : decode cL_needs 7 = .ok (.aload_n 1, 1) := by decide +kernel
theorem dL_needs_8 : decode cL_needs 8 = .ok (.iload_n 3, 1) := by decide +kernel
theorem dL_needs_9 : decode cL_needs 9 = .ok (.iload 4, 2) := by decide +kernel
theorem dL_needs_11 : decode cL_needs 11 = .ok (.invokestatic 32, 3) := by decide +kernel
theorem dL_needs_14 : decode cL_needs 14 = .ok (.istore 7, 2) := by decide +kernel
theorem dL_needs_16 : decode cL_needs 16 = .ok (.bipush 85, 2) := by decide +kernel
theorem dL_needs_18 : decode cL_needs 18 = .ok (.istore 8, 2) := by decide +kernel
theorem dL_needs_20 : decode cL_needs 20 = .ok (.iconst 1, 1) := by decide +kernel
theorem dL_needs_21 : decode cL_needs 21 = .ok (.istore 9, 2) := by decide +kernel
theorem dL_needs_23 : decode cL_needs 23 = .ok (.iload 9, 2) := by decide +kernel
theorem dL_needs_25 : decode cL_needs 25 = .ok (.bipush 8, 2) := by decide +kernel
theorem dL_needs_27 : decode cL_needs 27 = .ok (.if_icmp .ge 51, 3) := by decide +kernel
theorem dL_needs_30 : decode cL_needs 30 = .ok (.iload 8, 2) := by decide +kernel
theorem dL_needs_32 : decode cL_needs 32 = .ok (.iload 6, 2) := by decide +kernel
theorem dL_needs_34 : decode cL_needs 34 = .ok (.iload 9, 2) := by decide +kernel
theorem dL_needs_36 : decode cL_needs 36 = .ok (.iconst 1, 1) := by decide +kernel
theorem dL_needs_37 : decode cL_needs 37 = .ok (.isub, 1) := by decide +kernel
theorem dL_needs_38 : decode cL_needs 38 = .ok (.ishr, 1) := by decide +kernel
theorem dL_needs_39 : decode cL_needs 39 = .ok (.iconst 1, 1) := by decide +kernel
theorem dL_needs_40 : decode cL_needs 40 = .ok (.iand, 1) := by decide +kernel
theorem dL_needs_41 : decode cL_needs 41 = .ok (.iconst 1, 1) := by decide +kernel
theorem dL_needs_42 : decode cL_needs 42 = .ok (.if_icmp .ne 26, 3) := by decide +kernel
theorem dL_needs_45 : decode cL_needs 45 = .ok (.iload 6, 2) := by decide +kernel
theorem dL_needs_47 : decode cL_needs 47 = .ok (.iload 9, 2) := by decide +kernel
theorem dL_needs_49 : decode cL_needs 49 = .ok (.iconst 1, 1) := by decide +kernel
theorem dL_needs_50 : decode cL_needs 50 = .ok (.iadd, 1) := by decide +kernel
theorem dL_needs_51 : decode cL_needs 51 = .ok (.bipush 8, 2) := by decide +kernel
theorem dL_needs_53 : decode cL_needs 53 = .ok (.irem, 1) := by decide +kernel
theorem dL_needs_54 : decode cL_needs 54 = .ok (.ishr, 1) := by decide +kernel
theorem dL_needs_55 : decode cL_needs 55 = .ok (.iconst 1, 1) := by decide +kernel
theorem dL_needs_56 : decode cL_needs 56 = .ok (.iand, 1) := by decide +kernel
theorem dL_needs_57 : decode cL_needs 57 = .ok (.iconst 1, 1) := by decide +kernel
theorem dL_needs_58 : decode cL_needs 58 = .ok (.if_icmp .ne 10, 3) := by decide +kernel
theorem dL_needs_61 : decode cL_needs 61 = .ok (.iconst 1, 1) := by decide +kernel
theorem dL_needs_62 : decode cL_needs 62 = .ok (.iload 9, 2) := by decide +kernel
theorem dL_needs_64 : decode cL_needs 64 = .ok (.ishl, 1) := by decide +kernel
theorem dL_needs_65 : decode cL_needs 65 = .ok (.goto 4, 3) := by decide +kernel
theorem dL_needs_68 : decode cL_needs 68 = .ok (.iconst 0, 1) := by decide +kernel
theorem dL_needs_69 : decode cL_needs 69 = .ok (.ior, 1) := by decide +kernel
theorem dL_needs_70 : decode cL_needs 70 = .ok (.istore 8, 2) := by decide +kernel
theorem dL_needs_72 : decode cL_needs 72 = .ok (.iinc 9 2, 3) := by decide +kernel
theorem dL_needs_75 : decode cL_needs 75 = .ok (.goto (-52), 3) := by decide +kernel
theorem dL_needs_78 : decode cL_needs 78 = .ok (.iload 7, 2) := by decide +kernel
theorem dL_needs_80 : decode cL_needs 80 = .ok (.iload 6, 2) := by decide +kernel
theorem dL_needs_82 : decode cL_needs 82 = .ok (.ixor, 1) := by decide +kernel
theorem dL_needs_83 : decode cL_needs 83 = .ok (.iload 8, 2) := by decide +kernel
theorem dL_needs_85 : decode cL_needs 85 = .ok (.iand, 1) := by decide +kernel
theorem dL_needs_86 : decode cL_needs 86 = .ok (.istore 9, 2) := by decide +kernel
theorem dL_needs_88 : decode cL_needs 88 = .ok (.iconst 0, 1) := by decide +kernel
theorem dL_needs_89 : decode cL_needs 89 = .ok (.istore 10, 2) := by decide +kernel
theorem dL_needs_91 : decode cL_needs 91 = .ok (.iconst 0, 1) := by decide +kernel
theorem dL_needs_92 : decode cL_needs 92 = .ok (.istore 11, 2) := by decide +kernel
theorem dL_needs_94 : decode cL_needs 94 = .ok (.iload 11, 2) := by decide +kernel
theorem dL_needs_96 : decode cL_needs 96 = .ok (.bipush 8, 2) := by decide +kernel
theorem dL_needs_98 : decode cL_needs 98 = .ok (.if_icmp .ge 77, 3) := by decide +kernel
theorem dL_needs_101 : decode cL_needs 101 = .ok (.iload_n 3, 1) := by decide +kernel
theorem dL_needs_102 : decode cL_needs 102 = .ok (.iload 11, 2) := by decide +kernel
theorem dL_needs_104 : decode cL_needs 104 = .ok (.invokestatic 10, 3) := by decide +kernel
theorem dL_needs_107 : decode cL_needs 107 = .ok (.iadd, 1) := by decide +kernel
theorem dL_needs_108 : decode cL_needs 108 = .ok (.istore 12, 2) := by decide +kernel
theorem dL_needs_110 : decode cL_needs 110 = .ok (.iload 4, 2) := by decide +kernel
theorem dL_needs_112 : decode cL_needs 112 = .ok (.iload 11, 2) := by decide +kernel
theorem dL_needs_114 : decode cL_needs 114 = .ok (.invokestatic 16, 3) := by decide +kernel
theorem dL_needs_117 : decode cL_needs 117 = .ok (.iadd, 1) := by decide +kernel
theorem dL_needs_118 : decode cL_needs 118 = .ok (.istore 13, 2) := by decide +kernel
theorem dL_needs_120 : decode cL_needs 120 = .ok (.iload 10, 2) := by decide +kernel
theorem dL_needs_122 : decode cL_needs 122 = .ok (.ifCond .ne 40, 3) := by decide +kernel
theorem dL_needs_125 : decode cL_needs 125 = .ok (.iload 9, 2) := by decide +kernel
theorem dL_needs_127 : decode cL_needs 127 = .ok (.iload 11, 2) := by decide +kernel
theorem dL_needs_129 : decode cL_needs 129 = .ok (.ishr, 1) := by decide +kernel
theorem dL_needs_130 : decode cL_needs 130 = .ok (.iconst 1, 1) := by decide +kernel
theorem dL_needs_131 : decode cL_needs 131 = .ok (.iand, 1) := by decide +kernel
theorem dL_needs_132 : decode cL_needs 132 = .ok (.iconst 1, 1) := by decide +kernel
theorem dL_needs_133 : decode cL_needs 133 = .ok (.if_icmp .ne 33, 3) := by decide +kernel
theorem dL_needs_136 : decode cL_needs 136 = .ok (.iload 12, 2) := by decide +kernel
theorem dL_needs_138 : decode cL_needs 138 = .ok (.ifCond .lt 24, 3) := by decide +kernel
theorem dL_needs_141 : decode cL_needs 141 = .ok (.iload 12, 2) := by decide +kernel
theorem dL_needs_143 : decode cL_needs 143 = .ok (.aload_n 2, 1) := by decide +kernel
theorem dL_needs_144 : decode cL_needs 144 = .ok (.iconst 0, 1) := by decide +kernel
theorem dL_needs_145 : decode cL_needs 145 = .ok (.iaload, 1) := by decide +kernel
theorem dL_needs_146 : decode cL_needs 146 = .ok (.if_icmp .ge 16, 3) := by decide +kernel
theorem dL_needs_149 : decode cL_needs 149 = .ok (.iload 13, 2) := by decide +kernel
theorem dL_needs_151 : decode cL_needs 151 = .ok (.ifCond .lt 11, 3) := by decide +kernel
theorem dL_needs_154 : decode cL_needs 154 = .ok (.iload 13, 2) := by decide +kernel
theorem dL_needs_156 : decode cL_needs 156 = .ok (.aload_n 2, 1) := by decide +kernel
theorem dL_needs_157 : decode cL_needs 157 = .ok (.iconst 1, 1) := by decide +kernel
theorem dL_needs_158 : decode cL_needs 158 = .ok (.iaload, 1) := by decide +kernel
theorem dL_needs_159 : decode cL_needs 159 = .ok (.if_icmp .lt 7, 3) := by decide +kernel
theorem dL_needs_162 : decode cL_needs 162 = .ok (.iconst 1, 1) := by decide +kernel
theorem dL_needs_163 : decode cL_needs 163 = .ok (.goto 4, 3) := by decide +kernel
theorem dL_needs_166 : decode cL_needs 166 = .ok (.iconst 0, 1) := by decide +kernel
theorem dL_needs_167 : decode cL_needs 167 = .ok (.istore 10, 2) := by decide +kernel
theorem dL_needs_169 : decode cL_needs 169 = .ok (.iinc 11 1, 3) := by decide +kernel
theorem dL_needs_172 : decode cL_needs 172 = .ok (.goto (-78), 3) := by decide +kernel
theorem dL_needs_175 : decode cL_needs 175 = .ok (.aload_n 1, 1) := by decide +kernel
theorem dL_needs_176 : decode cL_needs 176 = .ok (.iload_n 3, 1) := by decide +kernel
theorem dL_needs_177 : decode cL_needs 177 = .ok (.iload 4, 2) := by decide +kernel
theorem dL_needs_179 : decode cL_needs 179 = .ok (.invokestatic 19, 3) := by decide +kernel
theorem dL_needs_182 : decode cL_needs 182 = .ok (.istore 11, 2) := by decide +kernel
theorem dL_needs_184 : decode cL_needs 184 = .ok (.iconst 4, 1) := by decide +kernel
theorem dL_needs_185 : decode cL_needs 185 = .ok (.iload 7, 2) := by decide +kernel
theorem dL_needs_187 : decode cL_needs 187 = .ok (.bipush 85, 2) := by decide +kernel
theorem dL_needs_189 : decode cL_needs 189 = .ok (.iand, 1) := by decide +kernel
theorem dL_needs_190 : decode cL_needs 190 = .ok (.invokestatic 41, 3) := by decide +kernel
theorem dL_needs_193 : decode cL_needs 193 = .ok (.isub, 1) := by decide +kernel
theorem dL_needs_194 : decode cL_needs 194 = .ok (.istore 12, 2) := by decide +kernel
theorem dL_needs_196 : decode cL_needs 196 = .ok (.iconst 0, 1) := by decide +kernel
theorem dL_needs_197 : decode cL_needs 197 = .ok (.istore 13, 2) := by decide +kernel
theorem dL_needs_199 : decode cL_needs 199 = .ok (.iconst 0, 1) := by decide +kernel
theorem dL_needs_200 : decode cL_needs 200 = .ok (.istore 14, 2) := by decide +kernel
theorem dL_needs_202 : decode cL_needs 202 = .ok (.iload 14, 2) := by decide +kernel
theorem dL_needs_204 : decode cL_needs 204 = .ok (.bipush 8, 2) := by decide +kernel
theorem dL_needs_206 : decode cL_needs 206 = .ok (.if_icmp .ge 75, 3) := by decide +kernel
theorem dL_needs_209 : decode cL_needs 209 = .ok (.iload_n 3, 1) := by decide +kernel
theorem dL_needs_210 : decode cL_needs 210 = .ok (.iload 14, 2) := by decide +kernel
theorem dL_needs_212 : decode cL_needs 212 = .ok (.invokestatic 10, 3) := by decide +kernel
theorem dL_needs_215 : decode cL_needs 215 = .ok (.iadd, 1) := by decide +kernel
theorem dL_needs_216 : decode cL_needs 216 = .ok (.istore 15, 2) := by decide +kernel
theorem dL_needs_218 : decode cL_needs 218 = .ok (.iload 4, 2) := by decide +kernel
theorem dL_needs_220 : decode cL_needs 220 = .ok (.iload 14, 2) := by decide +kernel
theorem dL_needs_222 : decode cL_needs 222 = .ok (.invokestatic 16, 3) := by decide +kernel
theorem dL_needs_225 : decode cL_needs 225 = .ok (.iadd, 1) := by decide +kernel
theorem dL_needs_226 : decode cL_needs 226 = .ok (.istore 16, 2) := by decide +kernel
theorem dL_needs_228 : decode cL_needs 228 = .ok (.iload 13, 2) := by decide +kernel
theorem dL_needs_230 : decode cL_needs 230 = .ok (.iload 7, 2) := by decide +kernel
theorem dL_needs_232 : decode cL_needs 232 = .ok (.iload 14, 2) := by decide +kernel
theorem dL_needs_234 : decode cL_needs 234 = .ok (.ishr, 1) := by decide +kernel
theorem dL_needs_235 : decode cL_needs 235 = .ok (.iconst 1, 1) := by decide +kernel
theorem dL_needs_236 : decode cL_needs 236 = .ok (.iand, 1) := by decide +kernel
theorem dL_needs_237 : decode cL_needs 237 = .ok (.iconst 1, 1) := by decide +kernel
theorem dL_needs_238 : decode cL_needs 238 = .ok (.if_icmp .ne 33, 3) := by decide +kernel
theorem dL_needs_241 : decode cL_needs 241 = .ok (.iload 15, 2) := by decide +kernel
theorem dL_needs_243 : decode cL_needs 243 = .ok (.ifCond .lt 28, 3) := by decide +kernel
theorem dL_needs_246 : decode cL_needs 246 = .ok (.iload 15, 2) := by decide +kernel
theorem dL_needs_248 : decode cL_needs 248 = .ok (.aload_n 2, 1) := by decide +kernel
theorem dL_needs_249 : decode cL_needs 249 = .ok (.iconst 0, 1) := by decide +kernel
theorem dL_needs_250 : decode cL_needs 250 = .ok (.iaload, 1) := by decide +kernel
theorem dL_needs_251 : decode cL_needs 251 = .ok (.if_icmp .ge 20, 3) := by decide +kernel
theorem dL_needs_254 : decode cL_needs 254 = .ok (.iload 16, 2) := by decide +kernel
theorem dL_needs_256 : decode cL_needs 256 = .ok (.ifCond .lt 15, 3) := by decide +kernel
theorem dL_needs_259 : decode cL_needs 259 = .ok (.iload 16, 2) := by decide +kernel
theorem dL_needs_261 : decode cL_needs 261 = .ok (.aload_n 2, 1) := by decide +kernel
theorem dL_needs_262 : decode cL_needs 262 = .ok (.iconst 1, 1) := by decide +kernel
theorem dL_needs_263 : decode cL_needs 263 = .ok (.iaload, 1) := by decide +kernel
theorem dL_needs_264 : decode cL_needs 264 = .ok (.if_icmp .ge 7, 3) := by decide +kernel
theorem dL_needs_267 : decode cL_needs 267 = .ok (.iconst 1, 1) := by decide +kernel
theorem dL_needs_268 : decode cL_needs 268 = .ok (.goto 4, 3) := by decide +kernel
theorem dL_needs_271 : decode cL_needs 271 = .ok (.iconst 0, 1) := by decide +kernel
theorem dL_needs_272 : decode cL_needs 272 = .ok (.iadd, 1) := by decide +kernel
theorem dL_needs_273 : decode cL_needs 273 = .ok (.istore 13, 2) := by decide +kernel
theorem dL_needs_275 : decode cL_needs 275 = .ok (.iinc 14 2, 3) := by decide +kernel
theorem dL_needs_278 : decode cL_needs 278 = .ok (.goto (-76), 3) := by decide +kernel
theorem dL_needs_281 : decode cL_needs 281 = .ok (.iload 11, 2) := by decide +kernel
theorem dL_needs_283 : decode cL_needs 283 = .ok (.iconst 1, 1) := by decide +kernel
theorem dL_needs_284 : decode cL_needs 284 = .ok (.if_icmp .ne 11, 3) := by decide +kernel
theorem dL_needs_287 : decode cL_needs 287 = .ok (.iload 13, 2) := by decide +kernel
theorem dL_needs_289 : decode cL_needs 289 = .ok (.iload 12, 2) := by decide +kernel
theorem dL_needs_291 : decode cL_needs 291 = .ok (.isub, 1) := by decide +kernel
theorem dL_needs_292 : decode cL_needs 292 = .ok (.goto 8, 3) := by decide +kernel
theorem dL_needs_295 : decode cL_needs 295 = .ok (.iload 12, 2) := by decide +kernel
theorem dL_needs_297 : decode cL_needs 297 = .ok (.iload 13, 2) := by decide +kernel
theorem dL_needs_299 : decode cL_needs 299 = .ok (.isub, 1) := by decide +kernel
theorem dL_needs_300 : decode cL_needs 300 = .ok (.istore 14, 2) := by decide +kernel
theorem dL_needs_302 : decode cL_needs 302 = .ok (.aload_n 0, 1) := by decide +kernel
theorem dL_needs_303 : decode cL_needs 303 = .ok (.iload_n 3, 1) := by decide +kernel
theorem dL_needs_304 : decode cL_needs 304 = .ok (.iload 4, 2) := by decide +kernel
theorem dL_needs_306 : decode cL_needs 306 = .ok (.iload 5, 2) := by decide +kernel
theorem dL_needs_308 : decode cL_needs 308 = .ok (.invokevirtual 94, 3) := by decide +kernel
theorem dL_needs_311 : decode cL_needs 311 = .ok (.iload 10, 2) := by decide +kernel
theorem dL_needs_313 : decode cL_needs 313 = .ok (.ifCond .eq 8, 3) := by decide +kernel
theorem dL_needs_316 : decode cL_needs 316 = .ok (.bipush (-6), 2) := by decide +kernel
theorem dL_needs_318 : decode cL_needs 318 = .ok (.goto 8, 3) := by decide +kernel
theorem dL_needs_321 : decode cL_needs 321 = .ok (.iload 9, 2) := by decide +kernel
theorem dL_needs_323 : decode cL_needs 323 = .ok (.invokestatic 41, 3) := by decide +kernel
theorem dL_needs_326 : decode cL_needs 326 = .ok (.if_icmp .ne 22, 3) := by decide +kernel
theorem dL_needs_329 : decode cL_needs 329 = .ok (.aload_n 0, 1) := by decide +kernel
theorem dL_needs_330 : decode cL_needs 330 = .ok (.iload_n 3, 1) := by decide +kernel
theorem dL_needs_331 : decode cL_needs 331 = .ok (.iload 4, 2) := by decide +kernel
theorem dL_needs_333 : decode cL_needs 333 = .ok (.invokevirtual 97, 3) := by decide +kernel
theorem dL_needs_336 : decode cL_needs 336 = .ok (.bipush 100, 2) := by decide +kernel
theorem dL_needs_338 : decode cL_needs 338 = .ok (.iload 14, 2) := by decide +kernel
theorem dL_needs_340 : decode cL_needs 340 = .ok (.iadd, 1) := by decide +kernel
theorem dL_needs_341 : decode cL_needs 341 = .ok (.if_icmp .ne 7, 3) := by decide +kernel
theorem dL_needs_344 : decode cL_needs 344 = .ok (.iconst 1, 1) := by decide +kernel
theorem dL_needs_345 : decode cL_needs 345 = .ok (.goto 4, 3) := by decide +kernel
theorem dL_needs_348 : decode cL_needs 348 = .ok (.iconst 0, 1) := by decide +kernel
theorem dL_needs_349 : decode cL_needs 349 = .ok (.ireturn, 1) := by decide +kernel
theorem dL_become_0 : decode cL_become 0 = .ok (.aload_n 0, 1) := by decide +kernel
theorem dL_become_1 : decode cL_become 1 = .ok (.iload_n 2, 1) := by decide +kernel
theorem dL_become_2 : decode cL_become 2 = .ok (.iload_n 3, 1) := by decide +kernel
theorem dL_become_3 : decode cL_become 3 = .ok (.invokestatic 19, 3) := by decide +kernel
theorem dL_become_6 : decode cL_become 6 = .ok (.istore 5, 2) := by decide +kernel
theorem dL_become_8 : decode cL_become 8 = .ok (.aload_n 0, 1) := by decide +kernel
theorem dL_become_9 : decode cL_become 9 = .ok (.iload_n 2, 1) := by decide +kernel
theorem dL_become_10 : decode cL_become 10 = .ok (.iload_n 3, 1) := by decide +kernel
theorem dL_become_11 : decode cL_become 11 = .ok (.iload 4, 2) := by decide +kernel
theorem dL_become_13 : decode cL_become 13 = .ok (.invokestatic 100, 3) := by decide +kernel
theorem dL_become_16 : decode cL_become 16 = .ok (.aload_n 1, 1) := by decide +kernel
theorem dL_become_17 : decode cL_become 17 = .ok (.iload_n 2, 1) := by decide +kernel
theorem dL_become_18 : decode cL_become 18 = .ok (.iload_n 3, 1) := by decide +kernel
theorem dL_become_19 : decode cL_become 19 = .ok (.iload 4, 2) := by decide +kernel
theorem dL_become_21 : decode cL_become 21 = .ok (.ifCond .ne 8, 3) := by decide +kernel
theorem dL_become_24 : decode cL_become 24 = .ok (.bipush 63, 2) := by decide +kernel
theorem dL_become_26 : decode cL_become 26 = .ok (.goto 9, 3) := by decide +kernel
theorem dL_become_29 : decode cL_become 29 = .ok (.aload_n 1, 1) := by decide +kernel
theorem dL_become_30 : decode cL_become 30 = .ok (.iload_n 2, 1) := by decide +kernel
theorem dL_become_31 : decode cL_become 31 = .ok (.iload_n 3, 1) := by decide +kernel
theorem dL_become_32 : decode cL_become 32 = .ok (.invokestatic 26, 3) := by decide +kernel
theorem dL_become_35 : decode cL_become 35 = .ok (.invokestatic 104, 3) := by decide +kernel
theorem dL_become_38 : decode cL_become 38 = .ok (.iload 5, 2) := by decide +kernel
theorem dL_become_40 : decode cL_become 40 = .ok (.iload 4, 2) := by decide +kernel
theorem dL_become_42 : decode cL_become 42 = .ok (.if_icmp .ne 7, 3) := by decide +kernel
theorem dL_become_45 : decode cL_become 45 = .ok (.iconst 0, 1) := by decide +kernel
theorem dL_become_46 : decode cL_become 46 = .ok (.goto 4, 3) := by decide +kernel
theorem dL_become_49 : decode cL_become 49 = .ok (.iconst 1, 1) := by decide +kernel
theorem dL_become_50 : decode cL_become 50 = .ok (.ireturn, 1) := by decide +kernel
theorem dL_other_0 : decode cL_other 0 = .ok (.iconst 0, 1) := by decide +kernel
theorem dL_other_1 : decode cL_other 1 = .ok (.istore 5, 2) := by decide +kernel
theorem dL_other_3 : decode cL_other 3 = .ok (.iconst 0, 1) := by decide +kernel
theorem dL_other_4 : decode cL_other 4 = .ok (.istore 6, 2) := by decide +kernel
theorem dL_other_6 : decode cL_other 6 = .ok (.iload 6, 2) := by decide +kernel
theorem dL_other_8 : decode cL_other 8 = .ok (.aload 4, 2) := by decide +kernel
theorem dL_other_10 : decode cL_other 10 = .ok (.iconst 0, 1) := by decide +kernel
theorem dL_other_11 : decode cL_other 11 = .ok (.iaload, 1) := by decide +kernel
theorem dL_other_12 : decode cL_other 12 = .ok (.aload 4, 2) := by decide +kernel
theorem dL_other_14 : decode cL_other 14 = .ok (.iconst 1, 1) := by decide +kernel
theorem dL_other_15 : decode cL_other 15 = .ok (.iaload, 1) := by decide +kernel
theorem dL_other_16 : decode cL_other 16 = .ok (.imul, 1) := by decide +kernel
theorem dL_other_17 : decode cL_other 17 = .ok (.if_icmp .ge 82, 3) := by decide +kernel
theorem dL_other_20 : decode cL_other 20 = .ok (.iload 6, 2) := by decide +kernel
theorem dL_other_22 : decode cL_other 22 = .ok (.aload 4, 2) := by decide +kernel
theorem dL_other_24 : decode cL_other 24 = .ok (.iconst 1, 1) := by decide +kernel
theorem dL_other_25 : decode cL_other 25 = .ok (.iaload, 1) := by decide +kernel
theorem dL_other_26 : decode cL_other 26 = .ok (.idiv, 1) := by decide +kernel
theorem dL_other_27 : decode cL_other 27 = .ok (.istore 7, 2) := by decide +kernel
theorem dL_other_29 : decode cL_other 29 = .ok (.iload 6, 2) := by decide +kernel
theorem dL_other_31 : decode cL_other 31 = .ok (.aload 4, 2) := by decide +kernel
theorem dL_other_33 : decode cL_other 33 = .ok (.iconst 1, 1) := by decide +kernel
theorem dL_other_34 : decode cL_other 34 = .ok (.iaload, 1) := by decide +kernel
theorem dL_other_35 : decode cL_other 35 = .ok (.irem, 1) := by decide +kernel
theorem dL_other_36 : decode cL_other 36 = .ok (.istore 8, 2) := by decide +kernel
theorem dL_other_38 : decode cL_other 38 = .ok (.iload 5, 2) := by decide +kernel
theorem dL_other_40 : decode cL_other 40 = .ok (.aload_n 0, 1) := by decide +kernel
theorem dL_other_41 : decode cL_other 41 = .ok (.iload 7, 2) := by decide +kernel
theorem dL_other_43 : decode cL_other 43 = .ok (.iload 8, 2) := by decide +kernel
theorem dL_other_45 : decode cL_other 45 = .ok (.invokestatic 19, 3) := by decide +kernel
theorem dL_other_48 : decode cL_other 48 = .ok (.iconst 1, 1) := by decide +kernel
theorem dL_other_49 : decode cL_other 49 = .ok (.if_icmp .ne 40, 3) := by decide +kernel
theorem dL_other_52 : decode cL_other 52 = .ok (.aload_n 2, 1) := by decide +kernel
theorem dL_other_53 : decode cL_other 53 = .ok (.iload 7, 2) := by decide +kernel
theorem dL_other_55 : decode cL_other 55 = .ok (.iload 8, 2) := by decide +kernel
theorem dL_other_57 : decode cL_other 57 = .ok (.invokestatic 19, 3) := by decide +kernel
theorem dL_other_60 : decode cL_other 60 = .ok (.iconst 1, 1) := by decide +kernel
theorem dL_other_61 : decode cL_other 61 = .ok (.if_icmp .ne 28, 3) := by decide +kernel
theorem dL_other_64 : decode cL_other 64 = .ok (.aload_n 0, 1) := by decide +kernel
theorem dL_other_65 : decode cL_other 65 = .ok (.aload_n 1, 1) := by decide +kernel
theorem dL_other_66 : decode cL_other 66 = .ok (.iload 7, 2) := by decide +kernel
theorem dL_other_68 : decode cL_other 68 = .ok (.iload 8, 2) := by decide +kernel
theorem dL_other_70 : decode cL_other 70 = .ok (.invokestatic 37, 3) := by decide +kernel
theorem dL_other_73 : decode cL_other 73 = .ok (.aload_n 2, 1) := by decide +kernel
theorem dL_other_74 : decode cL_other 74 = .ok (.aload_n 3, 1) := by decide +kernel
theorem dL_other_75 : decode cL_other 75 = .ok (.iload 7, 2) := by decide +kernel
theorem dL_other_77 : decode cL_other 77 = .ok (.iload 8, 2) := by decide +kernel
theorem dL_other_79 : decode cL_other 79 = .ok (.invokestatic 37, 3) := by decide +kernel
theorem dL_other_82 : decode cL_other 82 = .ok (.if_icmp .eq 7, 3) := by decide +kernel
theorem dL_other_85 : decode cL_other 85 = .ok (.iconst 1, 1) := by decide +kernel
theorem dL_other_86 : decode cL_other 86 = .ok (.goto 4, 3) := by decide +kernel
theorem dL_other_89 : decode cL_other 89 = .ok (.iconst 0, 1) := by decide +kernel
theorem dL_other_90 : decode cL_other 90 = .ok (.iadd, 1) := by decide +kernel
theorem dL_other_91 : decode cL_other 91 = .ok (.istore 5, 2) := by decide +kernel
theorem dL_other_93 : decode cL_other 93 = .ok (.iinc 6 1, 3) := by decide +kernel
theorem dL_other_96 : decode cL_other 96 = .ok (.goto (-90), 3) := by decide +kernel
theorem dL_other_99 : decode cL_other 99 = .ok (.iload 5, 2) := by decide +kernel
theorem dL_other_101 : decode cL_other 101 = .ok (.ireturn, 1) := by decide +kernel
theorem dL_copy_0 : decode cL_copy 0 = .ok (.iconst 0, 1) := by decide +kernel
theorem dL_copy_1 : decode cL_copy 1 = .ok (.istore_n 2, 1) := by decide +kernel
theorem dL_copy_2 : decode cL_copy 2 = .ok (.iload_n 2, 1) := by decide +kernel
theorem dL_copy_3 : decode cL_copy 3 = .ok (.aload_n 0, 1) := by decide +kernel
theorem dL_copy_4 : decode cL_copy 4 = .ok (.arraylength, 1) := by decide +kernel
theorem dL_copy_5 : decode cL_copy 5 = .ok (.if_icmp .ge 15, 3) := by decide +kernel
theorem dL_copy_8 : decode cL_copy 8 = .ok (.aload_n 1, 1) := by decide +kernel
theorem dL_copy_9 : decode cL_copy 9 = .ok (.iload_n 2, 1) := by decide +kernel
theorem dL_copy_10 : decode cL_copy 10 = .ok (.aload_n 0, 1) := by decide +kernel
theorem dL_copy_11 : decode cL_copy 11 = .ok (.iload_n 2, 1) := by decide +kernel
theorem dL_copy_12 : decode cL_copy 12 = .ok (.iaload, 1) := by decide +kernel
theorem dL_copy_13 : decode cL_copy 13 = .ok (.iastore, 1) := by decide +kernel
theorem dL_copy_14 : decode cL_copy 14 = .ok (.iinc 2 1, 3) := by decide +kernel
theorem dL_copy_17 : decode cL_copy 17 = .ok (.goto (-15), 3) := by decide +kernel
theorem dL_copy_20 : decode cL_copy 20 = .ok (.return_, 1) := by decide +kernel
