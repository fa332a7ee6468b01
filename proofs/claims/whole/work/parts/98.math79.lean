/-! CONSTRUCTORS and the law: decode rows, words (laid by wip/gen/ctor.py) -/
theorem dX0_init_0 : decode cX0_init 0 = .ok (.aload_n 0, 1) := by decide +kernel
theorem dX0_init_1 : decode cX0_init 1 = .ok (.invokespecial 1, 3) := by decide +kernel
theorem dX0_init_4 : decode cX0_init 4 = .ok (.aload_n 0, 1) := by decide +kernel
theorem dX0_init_5 : decode cX0_init 5 = .ok (.aload_n 1, 1) := by decide +kernel
theorem dX0_init_6 : decode cX0_init 6 = .ok (.putfield 7, 3) := by decide +kernel
theorem dX0_init_9 : decode cX0_init 9 = .ok (.return_, 1) := by decide +kernel
theorem dX1_init_0 : decode cX1_init 0 = .ok (.aload_n 0, 1) := by decide +kernel
theorem dX1_init_1 : decode cX1_init 1 = .ok (.invokespecial 3, 3) := by decide +kernel
theorem dX1_init_4 : decode cX1_init 4 = .ok (.aload_n 0, 1) := by decide +kernel
theorem dX1_init_5 : decode cX1_init 5 = .ok (.iconst 0, 1) := by decide +kernel
theorem dX1_init_6 : decode cX1_init 6 = .ok (.putfield 9, 3) := by decide +kernel
theorem dX1_init_9 : decode cX1_init 9 = .ok (.aload_n 0, 1) := by decide +kernel
theorem dX1_init_10 : decode cX1_init 10 = .ok (.bipush 6, 2) := by decide +kernel
theorem dX1_init_12 : decode cX1_init 12 = .ok (.newarray .int, 2) := by decide +kernel
theorem dX1_init_14 : decode cX1_init 14 = .ok (.putfield 15, 3) := by decide +kernel
theorem dX1_init_17 : decode cX1_init 17 = .ok (.aload_n 0, 1) := by decide +kernel
theorem dX1_init_18 : decode cX1_init 18 = .ok (.bipush 6, 2) := by decide +kernel
theorem dX1_init_20 : decode cX1_init 20 = .ok (.sipush 4096, 3) := by decide +kernel
theorem dX1_init_23 : decode cX1_init 23 = .ok (.multianewarray 19 2, 4) := by decide +kernel
theorem dX1_init_27 : decode cX1_init 27 = .ok (.putfield 21, 3) := by decide +kernel
theorem dX1_init_30 : decode cX1_init 30 = .ok (.aload_n 0, 1) := by decide +kernel
theorem dX1_init_31 : decode cX1_init 31 = .ok (.sipush 4096, 3) := by decide +kernel
theorem dX1_init_34 : decode cX1_init 34 = .ok (.newarray .int, 2) := by decide +kernel
theorem dX1_init_36 : decode cX1_init 36 = .ok (.putfield 24, 3) := by decide +kernel
theorem dX1_init_39 : decode cX1_init 39 = .ok (.aload_n 0, 1) := by decide +kernel
theorem dX1_init_40 : decode cX1_init 40 = .ok (.bipush 64, 2) := by decide +kernel
theorem dX1_init_42 : decode cX1_init 42 = .ok (.newarray .int, 2) := by decide +kernel
theorem dX1_init_44 : decode cX1_init 44 = .ok (.putfield 27, 3) := by decide +kernel
theorem dX1_init_47 : decode cX1_init 47 = .ok (.aload_n 0, 1) := by decide +kernel
theorem dX1_init_48 : decode cX1_init 48 = .ok (.sipush 1024, 3) := by decide +kernel
theorem dX1_init_51 : decode cX1_init 51 = .ok (.newarray .int, 2) := by decide +kernel
theorem dX1_init_53 : decode cX1_init 53 = .ok (.putfield 30, 3) := by decide +kernel
theorem dX1_init_56 : decode cX1_init 56 = .ok (.aload_n 0, 1) := by decide +kernel
theorem dX1_init_57 : decode cX1_init 57 = .ok (.sipush 4096, 3) := by decide +kernel
theorem dX1_init_60 : decode cX1_init 60 = .ok (.newarray .int, 2) := by decide +kernel
theorem dX1_init_62 : decode cX1_init 62 = .ok (.putfield 33, 3) := by decide +kernel
theorem dX1_init_65 : decode cX1_init 65 = .ok (.aload_n 0, 1) := by decide +kernel
theorem dX1_init_66 : decode cX1_init 66 = .ok (.aload_n 1, 1) := by decide +kernel
theorem dX1_init_67 : decode cX1_init 67 = .ok (.putfield 36, 3) := by decide +kernel
theorem dX1_init_70 : decode cX1_init 70 = .ok (.return_, 1) := by decide +kernel
theorem dX2_init_0 : decode cX2_init 0 = .ok (.aload_n 0, 1) := by decide +kernel
theorem dX2_init_1 : decode cX2_init 1 = .ok (.invokespecial 5, 3) := by decide +kernel
theorem dX2_init_4 : decode cX2_init 4 = .ok (.aload_n 0, 1) := by decide +kernel
theorem dX2_init_5 : decode cX2_init 5 = .ok (.bipush 6, 2) := by decide +kernel
theorem dX2_init_7 : decode cX2_init 7 = .ok (.newarray .int, 2) := by decide +kernel
theorem dX2_init_9 : decode cX2_init 9 = .ok (.putfield 11, 3) := by decide +kernel
theorem dX2_init_12 : decode cX2_init 12 = .ok (.aload_n 0, 1) := by decide +kernel
theorem dX2_init_13 : decode cX2_init 13 = .ok (.bipush 6, 2) := by decide +kernel
theorem dX2_init_15 : decode cX2_init 15 = .ok (.newarray .int, 2) := by decide +kernel
theorem dX2_init_17 : decode cX2_init 17 = .ok (.putfield 15, 3) := by decide +kernel
theorem dX2_init_20 : decode cX2_init 20 = .ok (.aload_n 0, 1) := by decide +kernel
theorem dX2_init_21 : decode cX2_init 21 = .ok (.sipush 192, 3) := by decide +kernel
theorem dX2_init_24 : decode cX2_init 24 = .ok (.newarray .long, 2) := by decide +kernel
theorem dX2_init_26 : decode cX2_init 26 = .ok (.putfield 18, 3) := by decide +kernel
theorem dX2_init_29 : decode cX2_init 29 = .ok (.return_, 1) := by decide +kernel
theorem dX3_init_0 : decode cX3_init 0 = .ok (.aload_n 0, 1) := by decide +kernel
theorem dX3_init_1 : decode cX3_init 1 = .ok (.invokespecial 3, 3) := by decide +kernel
theorem dX3_init_4 : decode cX3_init 4 = .ok (.aload_n 0, 1) := by decide +kernel
theorem dX3_init_5 : decode cX3_init 5 = .ok (.bipush 7, 2) := by decide +kernel
theorem dX3_init_7 : decode cX3_init 7 = .ok (.anewarray 11, 3) := by decide +kernel
theorem dX3_init_10 : decode cX3_init 10 = .ok (.putfield 13, 3) := by decide +kernel
theorem dX3_init_13 : decode cX3_init 13 = .ok (.aload_n 0, 1) := by decide +kernel
theorem dX3_init_14 : decode cX3_init 14 = .ok (.iconst 0, 1) := by decide +kernel
theorem dX3_init_15 : decode cX3_init 15 = .ok (.putfield 17, 3) := by decide +kernel
theorem dX3_init_18 : decode cX3_init 18 = .ok (.aload_n 0, 1) := by decide +kernel
theorem dX3_init_19 : decode cX3_init 19 = .ok (.iconst 0, 1) := by decide +kernel
theorem dX3_init_20 : decode cX3_init 20 = .ok (.putfield 21, 3) := by decide +kernel
theorem dX3_init_23 : decode cX3_init 23 = .ok (.iconst 0, 1) := by decide +kernel
theorem dX3_init_24 : decode cX3_init 24 = .ok (.istore_n 1, 1) := by decide +kernel
theorem dX3_init_25 : decode cX3_init 25 = .ok (.iload_n 1, 1) := by decide +kernel
theorem dX3_init_26 : decode cX3_init 26 = .ok (.bipush 7, 2) := by decide +kernel
theorem dX3_init_28 : decode cX3_init 28 = .ok (.if_icmp .ge 22, 3) := by decide +kernel
theorem dX3_init_31 : decode cX3_init 31 = .ok (.aload_n 0, 1) := by decide +kernel
theorem dX3_init_32 : decode cX3_init 32 = .ok (.getfield 13, 3) := by decide +kernel
theorem dX3_init_35 : decode cX3_init 35 = .ok (.iload_n 1, 1) := by decide +kernel
theorem dX3_init_36 : decode cX3_init 36 = .ok (.new 11, 3) := by decide +kernel
theorem dX3_init_39 : decode cX3_init 39 = .ok (.dup, 1) := by decide +kernel
theorem dX3_init_40 : decode cX3_init 40 = .ok (.invokespecial 24, 3) := by decide +kernel
theorem dX3_init_43 : decode cX3_init 43 = .ok (.aastore, 1) := by decide +kernel
theorem dX3_init_44 : decode cX3_init 44 = .ok (.iinc 1 1, 3) := by decide +kernel
theorem dX3_init_47 : decode cX3_init 47 = .ok (.goto (-22), 3) := by decide +kernel
theorem dX3_init_50 : decode cX3_init 50 = .ok (.return_, 1) := by decide +kernel
theorem dX4_init_0 : decode cX4_init 0 = .ok (.aload_n 0, 1) := by decide +kernel
theorem dX4_init_1 : decode cX4_init 1 = .ok (.invokespecial 3, 3) := by decide +kernel
theorem dX4_init_4 : decode cX4_init 4 = .ok (.aload_n 0, 1) := by decide +kernel
theorem dX4_init_5 : decode cX4_init 5 = .ok (.aload_n 1, 1) := by decide +kernel
theorem dX4_init_6 : decode cX4_init 6 = .ok (.putfield 9, 3) := by decide +kernel
theorem dX4_init_9 : decode cX4_init 9 = .ok (.return_, 1) := by decide +kernel
theorem dX5_init_0 : decode cX5_init 0 = .ok (.aload_n 0, 1) := by decide +kernel
theorem dX5_init_1 : decode cX5_init 1 = .ok (.invokespecial 3, 3) := by decide +kernel
theorem dX5_init_4 : decode cX5_init 4 = .ok (.aload_n 0, 1) := by decide +kernel
theorem dX5_init_5 : decode cX5_init 5 = .ok (.sipush 600, 3) := by decide +kernel
theorem dX5_init_8 : decode cX5_init 8 = .ok (.newarray .byte, 2) := by decide +kernel
theorem dX5_init_10 : decode cX5_init 10 = .ok (.putfield 9, 3) := by decide +kernel
theorem dX5_init_13 : decode cX5_init 13 = .ok (.aload_n 0, 1) := by decide +kernel
theorem dX5_init_14 : decode cX5_init 14 = .ok (.iconst 0, 1) := by decide +kernel
theorem dX5_init_15 : decode cX5_init 15 = .ok (.putfield 15, 3) := by decide +kernel
theorem dX5_init_18 : decode cX5_init 18 = .ok (.aload_n 0, 1) := by decide +kernel
theorem dX5_init_19 : decode cX5_init 19 = .ok (.sipush 600, 3) := by decide +kernel
theorem dX5_init_22 : decode cX5_init 22 = .ok (.newarray .byte, 2) := by decide +kernel
theorem dX5_init_24 : decode cX5_init 24 = .ok (.putfield 19, 3) := by decide +kernel
theorem dX5_init_27 : decode cX5_init 27 = .ok (.aload_n 0, 1) := by decide +kernel
theorem dX5_init_28 : decode cX5_init 28 = .ok (.iconst 0, 1) := by decide +kernel
theorem dX5_init_29 : decode cX5_init 29 = .ok (.putfield 22, 3) := by decide +kernel
theorem dX5_init_32 : decode cX5_init 32 = .ok (.return_, 1) := by decide +kernel
theorem dX6_init_0 : decode cX6_init 0 = .ok (.aload_n 0, 1) := by decide +kernel
theorem dX6_init_1 : decode cX6_init 1 = .ok (.invokespecial 3, 3) := by decide +kernel
theorem dX6_init_4 : decode cX6_init 4 = .ok (.aload_n 0, 1) := by decide +kernel
theorem dX6_init_5 : decode cX6_init 5 = .ok (.new 9, 3) := by decide +kernel
theorem dX6_init_8 : decode cX6_init 8 = .ok (.dup, 1) := by decide +kernel
theorem dX6_init_9 : decode cX6_init 9 = .ok (.invokespecial 11, 3) := by decide +kernel
theorem dX6_init_12 : decode cX6_init 12 = .ok (.putfield 12, 3) := by decide +kernel
theorem dX6_init_15 : decode cX6_init 15 = .ok (.aload_n 0, 1) := by decide +kernel
theorem dX6_init_16 : decode cX6_init 16 = .ok (.iconst 0, 1) := by decide +kernel
theorem dX6_init_17 : decode cX6_init 17 = .ok (.putfield 18, 3) := by decide +kernel
theorem dX6_init_20 : decode cX6_init 20 = .ok (.aload_n 0, 1) := by decide +kernel
theorem dX6_init_21 : decode cX6_init 21 = .ok (.iconst (-1), 1) := by decide +kernel
theorem dX6_init_22 : decode cX6_init 22 = .ok (.putfield 22, 3) := by decide +kernel
theorem dX6_init_25 : decode cX6_init 25 = .ok (.aload_n 0, 1) := by decide +kernel
theorem dX6_init_26 : decode cX6_init 26 = .ok (.iconst 0, 1) := by decide +kernel
theorem dX6_init_27 : decode cX6_init 27 = .ok (.putfield 25, 3) := by decide +kernel
theorem dX6_init_30 : decode cX6_init 30 = .ok (.aload_n 0, 1) := by decide +kernel
theorem dX6_init_31 : decode cX6_init 31 = .ok (.iconst 0, 1) := by decide +kernel
theorem dX6_init_32 : decode cX6_init 32 = .ok (.putfield 28, 3) := by decide +kernel
theorem dX6_init_35 : decode cX6_init 35 = .ok (.aload_n 0, 1) := by decide +kernel
theorem dX6_init_36 : decode cX6_init 36 = .ok (.sipush 1024, 3) := by decide +kernel
theorem dX6_init_39 : decode cX6_init 39 = .ok (.newarray .int, 2) := by decide +kernel
theorem dX6_init_41 : decode cX6_init 41 = .ok (.putfield 31, 3) := by decide +kernel
theorem dX6_init_44 : decode cX6_init 44 = .ok (.aload_n 0, 1) := by decide +kernel
theorem dX6_init_45 : decode cX6_init 45 = .ok (.iconst 0, 1) := by decide +kernel
theorem dX6_init_46 : decode cX6_init 46 = .ok (.putfield 35, 3) := by decide +kernel
theorem dX6_init_49 : decode cX6_init 49 = .ok (.aload_n 0, 1) := by decide +kernel
theorem dX6_init_50 : decode cX6_init 50 = .ok (.iconst 0, 1) := by decide +kernel
theorem dX6_init_51 : decode cX6_init 51 = .ok (.putfield 38, 3) := by decide +kernel
theorem dX6_init_54 : decode cX6_init 54 = .ok (.aload_n 0, 1) := by decide +kernel
theorem dX6_init_55 : decode cX6_init 55 = .ok (.new 41, 3) := by decide +kernel
theorem dX6_init_58 : decode cX6_init 58 = .ok (.dup, 1) := by decide +kernel
theorem dX6_init_59 : decode cX6_init 59 = .ok (.aload_n 1, 1) := by decide +kernel
theorem dX6_init_60 : decode cX6_init 60 = .ok (.invokespecial 43, 3) := by decide +kernel
theorem dX6_init_63 : decode cX6_init 63 = .ok (.putfield 46, 3) := by decide +kernel
theorem dX6_init_66 : decode cX6_init 66 = .ok (.return_, 1) := by decide +kernel
theorem dX7_init_0 : decode cX7_init 0 = .ok (.aload_n 0, 1) := by decide +kernel
theorem dX7_init_1 : decode cX7_init 1 = .ok (.invokespecial 3, 3) := by decide +kernel
theorem dX7_init_4 : decode cX7_init 4 = .ok (.aload_n 0, 1) := by decide +kernel
theorem dX7_init_5 : decode cX7_init 5 = .ok (.bipush 6, 2) := by decide +kernel
theorem dX7_init_7 : decode cX7_init 7 = .ok (.newarray .int, 2) := by decide +kernel
theorem dX7_init_9 : decode cX7_init 9 = .ok (.putfield 9, 3) := by decide +kernel
theorem dX7_init_12 : decode cX7_init 12 = .ok (.aload_n 0, 1) := by decide +kernel
theorem dX7_init_13 : decode cX7_init 13 = .ok (.sipush 1024, 3) := by decide +kernel
theorem dX7_init_16 : decode cX7_init 16 = .ok (.newarray .int, 2) := by decide +kernel
theorem dX7_init_18 : decode cX7_init 18 = .ok (.putfield 15, 3) := by decide +kernel
theorem dX7_init_21 : decode cX7_init 21 = .ok (.aload_n 0, 1) := by decide +kernel
theorem dX7_init_22 : decode cX7_init 22 = .ok (.aload_n 1, 1) := by decide +kernel
theorem dX7_init_23 : decode cX7_init 23 = .ok (.putfield 18, 3) := by decide +kernel
theorem dX7_init_26 : decode cX7_init 26 = .ok (.return_, 1) := by decide +kernel
theorem dX8_init_0 : decode cX8_init 0 = .ok (.aload_n 0, 1) := by decide +kernel
theorem dX8_init_1 : decode cX8_init 1 = .ok (.invokespecial 3, 3) := by decide +kernel
theorem dX8_init_4 : decode cX8_init 4 = .ok (.aload_n 0, 1) := by decide +kernel
theorem dX8_init_5 : decode cX8_init 5 = .ok (.sipush 601, 3) := by decide +kernel
theorem dX8_init_8 : decode cX8_init 8 = .ok (.newarray .int, 2) := by decide +kernel
theorem dX8_init_10 : decode cX8_init 10 = .ok (.putfield 9, 3) := by decide +kernel
theorem dX8_init_13 : decode cX8_init 13 = .ok (.aload_n 0, 1) := by decide +kernel
theorem dX8_init_14 : decode cX8_init 14 = .ok (.sipush 601, 3) := by decide +kernel
theorem dX8_init_17 : decode cX8_init 17 = .ok (.newarray .int, 2) := by decide +kernel
theorem dX8_init_19 : decode cX8_init 19 = .ok (.putfield 15, 3) := by decide +kernel
theorem dX8_init_22 : decode cX8_init 22 = .ok (.aload_n 0, 1) := by decide +kernel
theorem dX8_init_23 : decode cX8_init 23 = .ok (.sipush 601, 3) := by decide +kernel
theorem dX8_init_26 : decode cX8_init 26 = .ok (.newarray .int, 2) := by decide +kernel
theorem dX8_init_28 : decode cX8_init 28 = .ok (.putfield 18, 3) := by decide +kernel
theorem dX8_init_31 : decode cX8_init 31 = .ok (.aload_n 0, 1) := by decide +kernel
theorem dX8_init_32 : decode cX8_init 32 = .ok (.iconst 0, 1) := by decide +kernel
theorem dX8_init_33 : decode cX8_init 33 = .ok (.putfield 21, 3) := by decide +kernel
theorem dX8_init_36 : decode cX8_init 36 = .ok (.aload_n 0, 1) := by decide +kernel
theorem dX8_init_37 : decode cX8_init 37 = .ok (.aload_n 1, 1) := by decide +kernel
theorem dX8_init_38 : decode cX8_init 38 = .ok (.putfield 25, 3) := by decide +kernel
theorem dX8_init_41 : decode cX8_init 41 = .ok (.return_, 1) := by decide +kernel
theorem dX9_init_0 : decode cX9_init 0 = .ok (.aload_n 0, 1) := by decide +kernel
theorem dX9_init_1 : decode cX9_init 1 = .ok (.invokespecial 3, 3) := by decide +kernel
theorem dX9_init_4 : decode cX9_init 4 = .ok (.aload_n 0, 1) := by decide +kernel
theorem dX9_init_5 : decode cX9_init 5 = .ok (.bipush 56, 2) := by decide +kernel
theorem dX9_init_7 : decode cX9_init 7 = .ok (.bipush 64, 2) := by decide +kernel
theorem dX9_init_9 : decode cX9_init 9 = .ok (.multianewarray 11 2, 4) := by decide +kernel
theorem dX9_init_13 : decode cX9_init 13 = .ok (.putfield 13, 3) := by decide +kernel
theorem dX9_init_16 : decode cX9_init 16 = .ok (.aload_n 0, 1) := by decide +kernel
theorem dX9_init_17 : decode cX9_init 17 = .ok (.bipush 15, 2) := by decide +kernel
theorem dX9_init_19 : decode cX9_init 19 = .ok (.bipush 64, 2) := by decide +kernel
theorem dX9_init_21 : decode cX9_init 21 = .ok (.multianewarray 11 2, 4) := by decide +kernel
theorem dX9_init_25 : decode cX9_init 25 = .ok (.putfield 16, 3) := by decide +kernel
theorem dX9_init_28 : decode cX9_init 28 = .ok (.aload_n 0, 1) := by decide +kernel
theorem dX9_init_29 : decode cX9_init 29 = .ok (.bipush 14, 2) := by decide +kernel
theorem dX9_init_31 : decode cX9_init 31 = .ok (.newarray .int, 2) := by decide +kernel
theorem dX9_init_33 : decode cX9_init 33 = .ok (.putfield 19, 3) := by decide +kernel
theorem dX9_init_36 : decode cX9_init 36 = .ok (.aload_n 0, 1) := by decide +kernel
theorem dX9_init_37 : decode cX9_init 37 = .ok (.bipush 14, 2) := by decide +kernel
theorem dX9_init_39 : decode cX9_init 39 = .ok (.newarray .int, 2) := by decide +kernel
theorem dX9_init_41 : decode cX9_init 41 = .ok (.putfield 23, 3) := by decide +kernel
theorem dX9_init_44 : decode cX9_init 44 = .ok (.aload_n 0, 1) := by decide +kernel
theorem dX9_init_45 : decode cX9_init 45 = .ok (.aload_n 1, 1) := by decide +kernel
theorem dX9_init_46 : decode cX9_init 46 = .ok (.putfield 26, 3) := by decide +kernel
theorem dX9_init_49 : decode cX9_init 49 = .ok (.aload_n 0, 1) := by decide +kernel
theorem dX9_init_50 : decode cX9_init 50 = .ok (.aload_n 1, 1) := by decide +kernel
theorem dX9_init_51 : decode cX9_init 51 = .ok (.getfield 30, 3) := by decide +kernel
theorem dX9_init_54 : decode cX9_init 54 = .ok (.putfield 36, 3) := by decide +kernel
theorem dX9_init_57 : decode cX9_init 57 = .ok (.return_, 1) := by decide +kernel
theorem dX10_init_0 : decode cX10_init 0 = .ok (.aload_n 0, 1) := by decide +kernel
theorem dX10_init_1 : decode cX10_init 1 = .ok (.invokespecial 1, 3) := by decide +kernel
theorem dX10_init_4 : decode cX10_init 4 = .ok (.aload_n 0, 1) := by decide +kernel
theorem dX10_init_5 : decode cX10_init 5 = .ok (.new 7, 3) := by decide +kernel
theorem dX10_init_8 : decode cX10_init 8 = .ok (.dup, 1) := by decide +kernel
theorem dX10_init_9 : decode cX10_init 9 = .ok (.invokespecial 9, 3) := by decide +kernel
theorem dX10_init_12 : decode cX10_init 12 = .ok (.putfield 10, 3) := by decide +kernel
theorem dX10_init_15 : decode cX10_init 15 = .ok (.aload_n 0, 1) := by decide +kernel
theorem dX10_init_16 : decode cX10_init 16 = .ok (.new 16, 3) := by decide +kernel
theorem dX10_init_19 : decode cX10_init 19 = .ok (.dup, 1) := by decide +kernel
theorem dX10_init_20 : decode cX10_init 20 = .ok (.aload_n 0, 1) := by decide +kernel
theorem dX10_init_21 : decode cX10_init 21 = .ok (.getfield 10, 3) := by decide +kernel
theorem dX10_init_24 : decode cX10_init 24 = .ok (.invokespecial 18, 3) := by decide +kernel
theorem dX10_init_27 : decode cX10_init 27 = .ok (.putfield 21, 3) := by decide +kernel
theorem dX10_init_30 : decode cX10_init 30 = .ok (.aload_n 0, 1) := by decide +kernel
theorem dX10_init_31 : decode cX10_init 31 = .ok (.new 25, 3) := by decide +kernel
theorem dX10_init_34 : decode cX10_init 34 = .ok (.dup, 1) := by decide +kernel
theorem dX10_init_35 : decode cX10_init 35 = .ok (.aload_n 0, 1) := by decide +kernel
theorem dX10_init_36 : decode cX10_init 36 = .ok (.getfield 10, 3) := by decide +kernel
theorem dX10_init_39 : decode cX10_init 39 = .ok (.invokespecial 27, 3) := by decide +kernel
theorem dX10_init_42 : decode cX10_init 42 = .ok (.putfield 28, 3) := by decide +kernel
theorem dX10_init_45 : decode cX10_init 45 = .ok (.aload_n 0, 1) := by decide +kernel
theorem dX10_init_46 : decode cX10_init 46 = .ok (.new 32, 3) := by decide +kernel
theorem dX10_init_49 : decode cX10_init 49 = .ok (.dup, 1) := by decide +kernel
theorem dX10_init_50 : decode cX10_init 50 = .ok (.aload_n 0, 1) := by decide +kernel
theorem dX10_init_51 : decode cX10_init 51 = .ok (.getfield 10, 3) := by decide +kernel
theorem dX10_init_54 : decode cX10_init 54 = .ok (.invokespecial 34, 3) := by decide +kernel
theorem dX10_init_57 : decode cX10_init 57 = .ok (.putfield 35, 3) := by decide +kernel
theorem dX10_init_60 : decode cX10_init 60 = .ok (.aload_n 0, 1) := by decide +kernel
theorem dX10_init_61 : decode cX10_init 61 = .ok (.new 39, 3) := by decide +kernel
theorem dX10_init_64 : decode cX10_init 64 = .ok (.dup, 1) := by decide +kernel
theorem dX10_init_65 : decode cX10_init 65 = .ok (.aload_n 0, 1) := by decide +kernel
theorem dX10_init_66 : decode cX10_init 66 = .ok (.getfield 10, 3) := by decide +kernel
theorem dX10_init_69 : decode cX10_init 69 = .ok (.invokespecial 41, 3) := by decide +kernel
theorem dX10_init_72 : decode cX10_init 72 = .ok (.putfield 42, 3) := by decide +kernel
theorem dX10_init_75 : decode cX10_init 75 = .ok (.aload_n 0, 1) := by decide +kernel
theorem dX10_init_76 : decode cX10_init 76 = .ok (.new 46, 3) := by decide +kernel
theorem dX10_init_79 : decode cX10_init 79 = .ok (.dup, 1) := by decide +kernel
theorem dX10_init_80 : decode cX10_init 80 = .ok (.aload_n 0, 1) := by decide +kernel
theorem dX10_init_81 : decode cX10_init 81 = .ok (.getfield 21, 3) := by decide +kernel
theorem dX10_init_84 : decode cX10_init 84 = .ok (.invokespecial 48, 3) := by decide +kernel
theorem dX10_init_87 : decode cX10_init 87 = .ok (.putfield 51, 3) := by decide +kernel
theorem dX10_init_90 : decode cX10_init 90 = .ok (.aload_n 0, 1) := by decide +kernel
theorem dX10_init_91 : decode cX10_init 91 = .ok (.new 55, 3) := by decide +kernel
theorem dX10_init_94 : decode cX10_init 94 = .ok (.dup, 1) := by decide +kernel
theorem dX10_init_95 : decode cX10_init 95 = .ok (.invokespecial 57, 3) := by decide +kernel
theorem dX10_init_98 : decode cX10_init 98 = .ok (.putfield 58, 3) := by decide +kernel
theorem dX10_init_101 : decode cX10_init 101 = .ok (.aload_n 0, 1) := by decide +kernel
theorem dX10_init_102 : decode cX10_init 102 = .ok (.sipush 600, 3) := by decide +kernel
theorem dX10_init_105 : decode cX10_init 105 = .ok (.newarray .byte, 2) := by decide +kernel
theorem dX10_init_107 : decode cX10_init 107 = .ok (.putfield 62, 3) := by decide +kernel
theorem dX10_init_110 : decode cX10_init 110 = .ok (.aload_n 0, 1) := by decide +kernel
theorem dX10_init_111 : decode cX10_init 111 = .ok (.new 66, 3) := by decide +kernel
theorem dX10_init_114 : decode cX10_init 114 = .ok (.dup, 1) := by decide +kernel
theorem dX10_init_115 : decode cX10_init 115 = .ok (.aload_n 0, 1) := by decide +kernel
theorem dX10_init_116 : decode cX10_init 116 = .ok (.getfield 62, 3) := by decide +kernel
theorem dX10_init_119 : decode cX10_init 119 = .ok (.invokespecial 68, 3) := by decide +kernel
theorem dX10_init_122 : decode cX10_init 122 = .ok (.putfield 71, 3) := by decide +kernel
theorem dX10_init_125 : decode cX10_init 125 = .ok (.aload_n 0, 1) := by decide +kernel
theorem dX10_init_126 : decode cX10_init 126 = .ok (.new 75, 3) := by decide +kernel
theorem dX10_init_129 : decode cX10_init 129 = .ok (.dup, 1) := by decide +kernel
theorem dX10_init_130 : decode cX10_init 130 = .ok (.invokespecial 77, 3) := by decide +kernel
theorem dX10_init_133 : decode cX10_init 133 = .ok (.putfield 78, 3) := by decide +kernel
theorem dX10_init_136 : decode cX10_init 136 = .ok (.aload_n 0, 1) := by decide +kernel
theorem dX10_init_137 : decode cX10_init 137 = .ok (.new 7, 3) := by decide +kernel
theorem dX10_init_140 : decode cX10_init 140 = .ok (.dup, 1) := by decide +kernel
theorem dX10_init_141 : decode cX10_init 141 = .ok (.invokespecial 9, 3) := by decide +kernel
theorem dX10_init_144 : decode cX10_init 144 = .ok (.putfield 82, 3) := by decide +kernel
theorem dX10_init_147 : decode cX10_init 147 = .ok (.aload_n 0, 1) := by decide +kernel
theorem dX10_init_148 : decode cX10_init 148 = .ok (.iconst 0, 1) := by decide +kernel
theorem dX10_init_149 : decode cX10_init 149 = .ok (.putfield 85, 3) := by decide +kernel
theorem dX10_init_152 : decode cX10_init 152 = .ok (.aload_n 0, 1) := by decide +kernel
theorem dX10_init_153 : decode cX10_init 153 = .ok (.iconst 0, 1) := by decide +kernel
theorem dX10_init_154 : decode cX10_init 154 = .ok (.putfield 89, 3) := by decide +kernel
theorem dX10_init_157 : decode cX10_init 157 = .ok (.aload_n 0, 1) := by decide +kernel
theorem dX10_init_158 : decode cX10_init 158 = .ok (.iconst (-1), 1) := by decide +kernel
theorem dX10_init_159 : decode cX10_init 159 = .ok (.putfield 92, 3) := by decide +kernel
theorem dX10_init_162 : decode cX10_init 162 = .ok (.aload_n 0, 1) := by decide +kernel
theorem dX10_init_163 : decode cX10_init 163 = .ok (.iconst (-1), 1) := by decide +kernel
theorem dX10_init_164 : decode cX10_init 164 = .ok (.putfield 95, 3) := by decide +kernel
theorem dX10_init_167 : decode cX10_init 167 = .ok (.aload_n 0, 1) := by decide +kernel
theorem dX10_init_168 : decode cX10_init 168 = .ok (.getfield 10, 3) := by decide +kernel
theorem dX10_init_171 : decode cX10_init 171 = .ok (.iconst 0, 1) := by decide +kernel
theorem dX10_init_172 : decode cX10_init 172 = .ok (.invokevirtual 98, 3) := by decide +kernel
theorem dX10_init_175 : decode cX10_init 175 = .ok (.return_, 1) := by decide +kernel
theorem dX11_init_0 : decode cX11_init 0 = .ok (.aload_n 0, 1) := by decide +kernel
theorem dX11_init_1 : decode cX11_init 1 = .ok (.invokespecial 1, 3) := by decide +kernel
theorem dX11_init_4 : decode cX11_init 4 = .ok (.aload_n 0, 1) := by decide +kernel
theorem dX11_init_5 : decode cX11_init 5 = .ok (.sipush 6157, 3) := by decide +kernel
theorem dX11_init_8 : decode cX11_init 8 = .ok (.newarray .int, 2) := by decide +kernel
theorem dX11_init_10 : decode cX11_init 10 = .ok (.putfield 7, 3) := by decide +kernel
theorem dX11_init_13 : decode cX11_init 13 = .ok (.aload_n 0, 1) := by decide +kernel
theorem dX11_init_14 : decode cX11_init 14 = .ok (.sipush 6157, 3) := by decide +kernel
theorem dX11_init_17 : decode cX11_init 17 = .ok (.newarray .int, 2) := by decide +kernel
theorem dX11_init_19 : decode cX11_init 19 = .ok (.putfield 13, 3) := by decide +kernel
theorem dX11_init_22 : decode cX11_init 22 = .ok (.aload_n 0, 1) := by decide +kernel
theorem dX11_init_23 : decode cX11_init 23 = .ok (.ldc 16, 2) := by decide +kernel
theorem dX11_init_25 : decode cX11_init 25 = .ok (.newarray .int, 2) := by decide +kernel
theorem dX11_init_27 : decode cX11_init 27 = .ok (.putfield 17, 3) := by decide +kernel
theorem dX11_init_30 : decode cX11_init 30 = .ok (.aload_n 0, 1) := by decide +kernel
theorem dX11_init_31 : decode cX11_init 31 = .ok (.sipush 6157, 3) := by decide +kernel
theorem dX11_init_34 : decode cX11_init 34 = .ok (.newarray .int, 2) := by decide +kernel
theorem dX11_init_36 : decode cX11_init 36 = .ok (.putfield 20, 3) := by decide +kernel
theorem dX11_init_39 : decode cX11_init 39 = .ok (.aload_n 0, 1) := by decide +kernel
theorem dX11_init_40 : decode cX11_init 40 = .ok (.bipush 6, 2) := by decide +kernel
theorem dX11_init_42 : decode cX11_init 42 = .ok (.newarray .int, 2) := by decide +kernel
theorem dX11_init_44 : decode cX11_init 44 = .ok (.putfield 23, 3) := by decide +kernel
theorem dX11_init_47 : decode cX11_init 47 = .ok (.aload_n 0, 1) := by decide +kernel
theorem dX11_init_48 : decode cX11_init 48 = .ok (.sipush 4096, 3) := by decide +kernel
theorem dX11_init_51 : decode cX11_init 51 = .ok (.newarray .int, 2) := by decide +kernel
theorem dX11_init_53 : decode cX11_init 53 = .ok (.putfield 26, 3) := by decide +kernel
theorem dX11_init_56 : decode cX11_init 56 = .ok (.aload_n 0, 1) := by decide +kernel
theorem dX11_init_57 : decode cX11_init 57 = .ok (.bipush 6, 2) := by decide +kernel
theorem dX11_init_59 : decode cX11_init 59 = .ok (.newarray .int, 2) := by decide +kernel
theorem dX11_init_61 : decode cX11_init 61 = .ok (.putfield 29, 3) := by decide +kernel
theorem dX11_init_64 : decode cX11_init 64 = .ok (.aload_n 0, 1) := by decide +kernel
theorem dX11_init_65 : decode cX11_init 65 = .ok (.sipush 4096, 3) := by decide +kernel
theorem dX11_init_68 : decode cX11_init 68 = .ok (.newarray .int, 2) := by decide +kernel
theorem dX11_init_70 : decode cX11_init 70 = .ok (.putfield 32, 3) := by decide +kernel
theorem dX11_init_73 : decode cX11_init 73 = .ok (.aload_n 0, 1) := by decide +kernel
theorem dX11_init_74 : decode cX11_init 74 = .ok (.bipush 6, 2) := by decide +kernel
theorem dX11_init_76 : decode cX11_init 76 = .ok (.newarray .int, 2) := by decide +kernel
theorem dX11_init_78 : decode cX11_init 78 = .ok (.putfield 35, 3) := by decide +kernel
theorem dX11_init_81 : decode cX11_init 81 = .ok (.aload_n 0, 1) := by decide +kernel
theorem dX11_init_82 : decode cX11_init 82 = .ok (.bipush 6, 2) := by decide +kernel
theorem dX11_init_84 : decode cX11_init 84 = .ok (.newarray .int, 2) := by decide +kernel
theorem dX11_init_86 : decode cX11_init 86 = .ok (.putfield 38, 3) := by decide +kernel
theorem dX11_init_89 : decode cX11_init 89 = .ok (.aload_n 0, 1) := by decide +kernel
theorem dX11_init_90 : decode cX11_init 90 = .ok (.sipush 14000, 3) := by decide +kernel
theorem dX11_init_93 : decode cX11_init 93 = .ok (.newarray .int, 2) := by decide +kernel
theorem dX11_init_95 : decode cX11_init 95 = .ok (.putfield 41, 3) := by decide +kernel
theorem dX11_init_98 : decode cX11_init 98 = .ok (.aload_n 0, 1) := by decide +kernel
theorem dX11_init_99 : decode cX11_init 99 = .ok (.sipush 600, 3) := by decide +kernel
theorem dX11_init_102 : decode cX11_init 102 = .ok (.newarray .int, 2) := by decide +kernel
theorem dX11_init_104 : decode cX11_init 104 = .ok (.putfield 44, 3) := by decide +kernel
theorem dX11_init_107 : decode cX11_init 107 = .ok (.aload_n 0, 1) := by decide +kernel
theorem dX11_init_108 : decode cX11_init 108 = .ok (.sipush 600, 3) := by decide +kernel
theorem dX11_init_111 : decode cX11_init 111 = .ok (.newarray .byte, 2) := by decide +kernel
theorem dX11_init_113 : decode cX11_init 113 = .ok (.putfield 47, 3) := by decide +kernel
theorem dX11_init_116 : decode cX11_init 116 = .ok (.aload_n 0, 1) := by decide +kernel
theorem dX11_init_117 : decode cX11_init 117 = .ok (.iconst (-1), 1) := by decide +kernel
theorem dX11_init_118 : decode cX11_init 118 = .ok (.putfield 51, 3) := by decide +kernel
theorem dX11_init_121 : decode cX11_init 121 = .ok (.aload_n 0, 1) := by decide +kernel
theorem dX11_init_122 : decode cX11_init 122 = .ok (.iconst (-1), 1) := by decide +kernel
theorem dX11_init_123 : decode cX11_init 123 = .ok (.putfield 55, 3) := by decide +kernel
theorem dX11_init_126 : decode cX11_init 126 = .ok (.aload_n 0, 1) := by decide +kernel
theorem dX11_init_127 : decode cX11_init 127 = .ok (.bipush 10, 2) := by decide +kernel
theorem dX11_init_129 : decode cX11_init 129 = .ok (.newarray .long, 2) := by decide +kernel
theorem dX11_init_131 : decode cX11_init 131 = .ok (.dup, 1) := by decide +kernel
theorem dX11_init_132 : decode cX11_init 132 = .ok (.iconst 0, 1) := by decide +kernel
theorem dX11_init_133 : decode cX11_init 133 = .ok (.ldc2_w 58, 3) := by decide +kernel
theorem dX11_init_136 : decode cX11_init 136 = .ok (.lastore, 1) := by decide +kernel
theorem dX11_init_137 : decode cX11_init 137 = .ok (.dup, 1) := by decide +kernel
theorem dX11_init_138 : decode cX11_init 138 = .ok (.iconst 1, 1) := by decide +kernel
theorem dX11_init_139 : decode cX11_init 139 = .ok (.ldc2_w 60, 3) := by decide +kernel
theorem dX11_init_142 : decode cX11_init 142 = .ok (.lastore, 1) := by decide +kernel
theorem dX11_init_143 : decode cX11_init 143 = .ok (.dup, 1) := by decide +kernel
theorem dX11_init_144 : decode cX11_init 144 = .ok (.iconst 2, 1) := by decide +kernel
theorem dX11_init_145 : decode cX11_init 145 = .ok (.ldc2_w 62, 3) := by decide +kernel
theorem dX11_init_148 : decode cX11_init 148 = .ok (.lastore, 1) := by decide +kernel
theorem dX11_init_149 : decode cX11_init 149 = .ok (.dup, 1) := by decide +kernel
theorem dX11_init_150 : decode cX11_init 150 = .ok (.iconst 3, 1) := by decide +kernel
theorem dX11_init_151 : decode cX11_init 151 = .ok (.ldc2_w 64, 3) := by decide +kernel
theorem dX11_init_154 : decode cX11_init 154 = .ok (.lastore, 1) := by decide +kernel
theorem dX11_init_155 : decode cX11_init 155 = .ok (.dup, 1) := by decide +kernel
theorem dX11_init_156 : decode cX11_init 156 = .ok (.iconst 4, 1) := by decide +kernel
theorem dX11_init_157 : decode cX11_init 157 = .ok (.ldc2_w 66, 3) := by decide +kernel
theorem dX11_init_160 : decode cX11_init 160 = .ok (.lastore, 1) := by decide +kernel
theorem dX11_init_161 : decode cX11_init 161 = .ok (.dup, 1) := by decide +kernel
theorem dX11_init_162 : decode cX11_init 162 = .ok (.iconst 5, 1) := by decide +kernel
theorem dX11_init_163 : decode cX11_init 163 = .ok (.ldc2_w 68, 3) := by decide +kernel
theorem dX11_init_166 : decode cX11_init 166 = .ok (.lastore, 1) := by decide +kernel
theorem dX11_init_167 : decode cX11_init 167 = .ok (.dup, 1) := by decide +kernel
theorem dX11_init_168 : decode cX11_init 168 = .ok (.bipush 6, 2) := by decide +kernel
theorem dX11_init_170 : decode cX11_init 170 = .ok (.ldc2_w 70, 3) := by decide +kernel
theorem dX11_init_173 : decode cX11_init 173 = .ok (.lastore, 1) := by decide +kernel
theorem dX11_init_174 : decode cX11_init 174 = .ok (.dup, 1) := by decide +kernel
theorem dX11_init_175 : decode cX11_init 175 = .ok (.bipush 7, 2) := by decide +kernel
theorem dX11_init_177 : decode cX11_init 177 = .ok (.ldc2_w 72, 3) := by decide +kernel
theorem dX11_init_180 : decode cX11_init 180 = .ok (.lastore, 1) := by decide +kernel
theorem dX11_init_181 : decode cX11_init 181 = .ok (.dup, 1) := by decide +kernel
theorem dX11_init_182 : decode cX11_init 182 = .ok (.bipush 8, 2) := by decide +kernel
theorem dX11_init_184 : decode cX11_init 184 = .ok (.ldc2_w 74, 3) := by decide +kernel
theorem dX11_init_187 : decode cX11_init 187 = .ok (.lastore, 1) := by decide +kernel
theorem dX11_init_188 : decode cX11_init 188 = .ok (.dup, 1) := by decide +kernel
theorem dX11_init_189 : decode cX11_init 189 = .ok (.bipush 9, 2) := by decide +kernel
theorem dX11_init_191 : decode cX11_init 191 = .ok (.ldc2_w 76, 3) := by decide +kernel
theorem dX11_init_194 : decode cX11_init 194 = .ok (.lastore, 1) := by decide +kernel
theorem dX11_init_195 : decode cX11_init 195 = .ok (.putfield 78, 3) := by decide +kernel
theorem dX11_init_198 : decode cX11_init 198 = .ok (.return_, 1) := by decide +kernel
theorem zw_0 : Cond.methodLink RX2 5 Lib.objectInit ∈ wsL_law := wsL_of (List.mem_of_getElem? (i := 173) (by decide +kernel)) rfl
theorem zw_1 : Cond.instanceMethod Lib.objectInit ∈ wsL_law := wsL_of (List.mem_of_getElem? (i := 166) (by decide +kernel)) rfl
theorem zw_2 : Cond.code Lib.objectInit ⟨#[0xb1]⟩ 1 none ∈ wsL_law := wsL_of (List.mem_of_getElem? (i := 167) (by decide +kernel)) rfl
theorem zw_3 : Cond.arrayClass .int ∈ wsL_law := wsL_of (List.mem_of_getElem? (i := 207) (by decide +kernel)) rfl
theorem zw_4 : Cond.fieldLink RX2 11 "HatNet$Game" "hats" "[I" ∈ wsL_law := wsL_of (List.mem_of_getElem? (i := 183) (by decide +kernel)) rfl
theorem zw_5 : Cond.fieldLink RX2 15 "HatNet$Game" "sees" "[I" ∈ wsL_law := wsL_of (List.mem_of_getElem? (i := 192) (by decide +kernel)) rfl
theorem zw_6 : Cond.arrayClass .long ∈ wsL_law := wsL_of (List.mem_of_getElem? (i := 208) (by decide +kernel)) rfl
theorem zw_7 : Cond.fieldLink RX2 18 "HatNet$Game" "tables" "[J" ∈ wsL_law := wsL_of (List.mem_of_getElem? (i := 197) (by decide +kernel)) rfl
theorem zw_8 : Cond.methodLink RX0 1 Lib.objectInit ∈ wsL_law := wsL_of (List.mem_of_getElem? (i := 279) (by decide +kernel)) rfl
theorem zw_9 : Cond.fieldLink RX0 7 "HatNet$Acts" "game" "LHatNet$Game;" ∈ wsL_law := wsL_of (List.mem_of_getElem? (i := 280) (by decide +kernel)) rfl
theorem zw_10 : Cond.methodLink RX4 3 Lib.objectInit ∈ wsL_law := wsL_of (List.mem_of_getElem? (i := 253) (by decide +kernel)) rfl
theorem zw_11 : Cond.fieldLink RX4 9 "HatNet$Network" "game" "LHatNet$Game;" ∈ wsL_law := wsL_of (List.mem_of_getElem? (i := 254) (by decide +kernel)) rfl
theorem zw_12 : Cond.methodLink RX7 3 Lib.objectInit ∈ wsL_law := wsL_of (List.mem_of_getElem? (i := 263) (by decide +kernel)) rfl
theorem zw_13 : Cond.fieldLink RX7 9 "HatNet$Renumbering" "image" "[I" ∈ wsL_law := wsL_of (List.mem_of_getElem? (i := 265) (by decide +kernel)) rfl
theorem zw_14 : Cond.fieldLink RX7 15 "HatNet$Renumbering" "carried" "[I" ∈ wsL_law := wsL_of (List.mem_of_getElem? (i := 266) (by decide +kernel)) rfl
theorem zw_15 : Cond.fieldLink RX7 18 "HatNet$Renumbering" "game" "LHatNet$Game;" ∈ wsL_law := wsL_of (List.mem_of_getElem? (i := 264) (by decide +kernel)) rfl
theorem zw_16 : Cond.methodLink RX8 3 Lib.objectInit ∈ wsL_law := wsL_of (List.mem_of_getElem? (i := 358) (by decide +kernel)) rfl
theorem zw_17 : Cond.fieldLink RX8 9 "HatNet$Tokens" "kind" "[I" ∈ wsL_law := wsL_of (List.mem_of_getElem? (i := 359) (by decide +kernel)) rfl
theorem zw_18 : Cond.fieldLink RX8 15 "HatNet$Tokens" "start" "[I" ∈ wsL_law := wsL_of (List.mem_of_getElem? (i := 361) (by decide +kernel)) rfl
theorem zw_19 : Cond.fieldLink RX8 18 "HatNet$Tokens" "value" "[I" ∈ wsL_law := wsL_of (List.mem_of_getElem? (i := 363) (by decide +kernel)) rfl
theorem zw_20 : Cond.fieldLink RX8 21 "HatNet$Tokens" "length" "I" ∈ wsL_law := wsL_of (List.mem_of_getElem? (i := 366) (by decide +kernel)) rfl
theorem zw_21 : Cond.fieldLink RX8 25 "HatNet$Tokens" "text" "[B" ∈ wsL_law := wsL_of (List.mem_of_getElem? (i := 365) (by decide +kernel)) rfl
theorem zw_22 : Cond.methodLink RX5 3 Lib.objectInit ∈ wsL_law := wsL_of (List.mem_of_getElem? (i := 415) (by decide +kernel)) rfl
theorem zw_23 : Cond.arrayClass .byte ∈ wsL_law := wsL_of (List.mem_of_getElem? (i := 378) (by decide +kernel)) rfl
theorem zw_24 : Cond.fieldLink RX5 9 "HatNet$Printer" "text" "[B" ∈ wsL_law := wsL_of (List.mem_of_getElem? (i := 416) (by decide +kernel)) rfl
theorem zw_25 : Cond.fieldLink RX5 15 "HatNet$Printer" "length" "I" ∈ wsL_law := wsL_of (List.mem_of_getElem? (i := 418) (by decide +kernel)) rfl
theorem zw_26 : Cond.fieldLink RX5 19 "HatNet$Printer" "draft" "[B" ∈ wsL_law := wsL_of (List.mem_of_getElem? (i := 420) (by decide +kernel)) rfl
theorem zw_27 : Cond.fieldLink RX5 22 "HatNet$Printer" "drafted" "I" ∈ wsL_law := wsL_of (List.mem_of_getElem? (i := 421) (by decide +kernel)) rfl
theorem zw_28 : Cond.methodLink RX1 3 Lib.objectInit ∈ wsL_law := wsL_of (List.mem_of_getElem? (i := 214) (by decide +kernel)) rfl
theorem zw_29 : Cond.fieldLink RX1 9 "HatNet$Colourings" "count" "I" ∈ wsL_law := wsL_of (List.mem_of_getElem? (i := 219) (by decide +kernel)) rfl
theorem zw_30 : Cond.fieldLink RX1 15 "HatNet$Colourings" "place" "[I" ∈ wsL_law := wsL_of (List.mem_of_getElem? (i := 222) (by decide +kernel)) rfl
theorem zw_31 : Cond.classLink RX1 19 "[[I" ∈ wsL_law := wsL_of (List.mem_of_getElem? (i := 215) (by decide +kernel)) rfl
theorem zw_32 : Cond.fieldLink RX1 21 "HatNet$Colourings" "situation" "[[I" ∈ wsL_law := wsL_of (List.mem_of_getElem? (i := 223) (by decide +kernel)) rfl
theorem zw_33 : Cond.fieldLink RX1 24 "HatNet$Colourings" "right" "[I" ∈ wsL_law := wsL_of (List.mem_of_getElem? (i := 224) (by decide +kernel)) rfl
theorem zw_34 : Cond.fieldLink RX1 27 "HatNet$Colourings" "byRight" "[I" ∈ wsL_law := wsL_of (List.mem_of_getElem? (i := 226) (by decide +kernel)) rfl
theorem zw_35 : Cond.fieldLink RX1 30 "HatNet$Colourings" "bestTable" "[I" ∈ wsL_law := wsL_of (List.mem_of_getElem? (i := 228) (by decide +kernel)) rfl
theorem zw_36 : Cond.fieldLink RX1 33 "HatNet$Colourings" "rescued" "[I" ∈ wsL_law := wsL_of (List.mem_of_getElem? (i := 230) (by decide +kernel)) rfl
theorem zw_37 : Cond.fieldLink RX1 36 "HatNet$Colourings" "game" "LHatNet$Game;" ∈ wsL_law := wsL_of (List.mem_of_getElem? (i := 218) (by decide +kernel)) rfl
theorem zw_38 : Cond.methodLink RX9 3 Lib.objectInit ∈ wsL_law := wsL_of (List.mem_of_getElem? (i := 289) (by decide +kernel)) rfl
theorem zw_39 : Cond.classLink RX9 11 "[[J" ∈ wsL_law := wsL_of (List.mem_of_getElem? (i := 290) (by decide +kernel)) rfl
theorem zw_40 : Cond.fieldLink RX9 13 "HatNet$Ways" "rightIf" "[[J" ∈ wsL_law := wsL_of (List.mem_of_getElem? (i := 294) (by decide +kernel)) rfl
theorem zw_41 : Cond.fieldLink RX9 16 "HatNet$Ways" "open" "[[J" ∈ wsL_law := wsL_of (List.mem_of_getElem? (i := 295) (by decide +kernel)) rfl
theorem zw_42 : Cond.fieldLink RX9 19 "HatNet$Ways" "colours" "[I" ∈ wsL_law := wsL_of (List.mem_of_getElem? (i := 296) (by decide +kernel)) rfl
theorem zw_43 : Cond.fieldLink RX9 23 "HatNet$Ways" "picked" "[I" ∈ wsL_law := wsL_of (List.mem_of_getElem? (i := 297) (by decide +kernel)) rfl
theorem zw_44 : Cond.fieldLink RX9 26 "HatNet$Ways" "colourings" "LHatNet$Colourings;" ∈ wsL_law := wsL_of (List.mem_of_getElem? (i := 292) (by decide +kernel)) rfl
theorem zw_45 : Cond.fieldLink RX9 30 "HatNet$Colourings" "game" "LHatNet$Game;" ∈ wsL_law := wsL_of (List.mem_of_getElem? (i := 217) (by decide +kernel)) rfl
theorem zw_46 : Cond.fieldLink RX9 36 "HatNet$Ways" "game" "LHatNet$Game;" ∈ wsL_law := wsL_of (List.mem_of_getElem? (i := 293) (by decide +kernel)) rfl
theorem zw_47 : Cond.methodLink RX3 3 Lib.objectInit ∈ wsL_law := wsL_of (List.mem_of_getElem? (i := 330) (by decide +kernel)) rfl
theorem zw_48 : Cond.classLink RX3 11 "HatNet$Game" ∈ wsL_law := wsL_of (List.mem_of_getElem? (i := 331) (by decide +kernel)) rfl
theorem zw_49 : Cond.fieldLink RX3 13 "HatNet$History" "games" "[LHatNet$Game;" ∈ wsL_law := wsL_of (List.mem_of_getElem? (i := 334) (by decide +kernel)) rfl
theorem zw_50 : Cond.fieldLink RX3 17 "HatNet$History" "next" "I" ∈ wsL_law := wsL_of (List.mem_of_getElem? (i := 335) (by decide +kernel)) rfl
theorem zw_51 : Cond.fieldLink RX3 21 "HatNet$History" "size" "I" ∈ wsL_law := wsL_of (List.mem_of_getElem? (i := 336) (by decide +kernel)) rfl
theorem zw_52 : Cond.instantiable RX2 4 ∈ wsL_law := wsL_of (List.mem_of_getElem? (i := 169) (by decide +kernel)) rfl
theorem zw_53 : Cond.initialized RX2 ∈ wsL_law := wsL_of (List.mem_of_getElem? (i := 141) (by decide +kernel)) rfl
theorem zw_54 : Cond.classLink RX3 11 RX2 ∈ wsL_law := wsL_of (List.mem_of_getElem? (i := 331) (by decide +kernel)) rfl
theorem zw_55 : Cond.instanceMethod yX2_init ∈ wsL_law := wsL_of (List.mem_of_getElem? (i := 171) (by decide +kernel)) rfl
theorem zw_56 : Cond.code yX2_init cX2_init 1 none ∈ wsL_law := wsL_of (List.mem_of_getElem? (i := 172) (by decide +kernel)) rfl
theorem zw_57 : Cond.methodLink RX6 3 Lib.objectInit ∈ wsL_law := wsL_of (List.mem_of_getElem? (i := 350) (by decide +kernel)) rfl
theorem zw_58 : Cond.classLink RX6 9 RX2 ∈ wsL_law := wsL_of (List.mem_of_getElem? (i := 351) (by decide +kernel)) rfl
theorem zw_59 : Cond.fieldLink RX6 12 "HatNet$Reader" "game" "LHatNet$Game;" ∈ wsL_law := wsL_of (List.mem_of_getElem? (i := 379) (by decide +kernel)) rfl
theorem zw_60 : Cond.fieldLink RX6 18 "HatNet$Reader" "fault" "I" ∈ wsL_law := wsL_of (List.mem_of_getElem? (i := 381) (by decide +kernel)) rfl
theorem zw_61 : Cond.fieldLink RX6 22 "HatNet$Reader" "place" "I" ∈ wsL_law := wsL_of (List.mem_of_getElem? (i := 383) (by decide +kernel)) rfl
theorem zw_62 : Cond.fieldLink RX6 25 "HatNet$Reader" "at" "I" ∈ wsL_law := wsL_of (List.mem_of_getElem? (i := 386) (by decide +kernel)) rfl
theorem zw_63 : Cond.fieldLink RX6 28 "HatNet$Reader" "number" "I" ∈ wsL_law := wsL_of (List.mem_of_getElem? (i := 387) (by decide +kernel)) rfl
theorem zw_64 : Cond.fieldLink RX6 31 "HatNet$Reader" "guesses" "[I" ∈ wsL_law := wsL_of (List.mem_of_getElem? (i := 388) (by decide +kernel)) rfl
theorem zw_65 : Cond.fieldLink RX6 35 "HatNet$Reader" "hatted" "I" ∈ wsL_law := wsL_of (List.mem_of_getElem? (i := 389) (by decide +kernel)) rfl
theorem zw_66 : Cond.fieldLink RX6 38 "HatNet$Reader" "guessed" "I" ∈ wsL_law := wsL_of (List.mem_of_getElem? (i := 390) (by decide +kernel)) rfl
theorem zw_67 : Cond.instantiable RX8 5 ∈ wsL_law := wsL_of (List.mem_of_getElem? (i := 354) (by decide +kernel)) rfl
theorem zw_68 : Cond.initialized RX8 ∈ wsL_law := wsL_of (List.mem_of_getElem? (i := 149) (by decide +kernel)) rfl
theorem zw_69 : Cond.classLink RX6 41 RX8 ∈ wsL_law := wsL_of (List.mem_of_getElem? (i := 353) (by decide +kernel)) rfl
theorem zw_70 : Cond.methodLink RX6 43 yX8_init ∈ wsL_law := wsL_of (List.mem_of_getElem? (i := 355) (by decide +kernel)) rfl
theorem zw_71 : Cond.instanceMethod yX8_init ∈ wsL_law := wsL_of (List.mem_of_getElem? (i := 356) (by decide +kernel)) rfl
theorem zw_72 : Cond.code yX8_init cX8_init 2 none ∈ wsL_law := wsL_of (List.mem_of_getElem? (i := 357) (by decide +kernel)) rfl
theorem zw_73 : Cond.fieldLink RX6 46 "HatNet$Reader" "tokens" "LHatNet$Tokens;" ∈ wsL_law := wsL_of (List.mem_of_getElem? (i := 385) (by decide +kernel)) rfl
theorem zw_74 : Cond.methodLink RX10 1 Lib.objectInit ∈ wsL_law := wsL_of (List.mem_of_getElem? (i := 165) (by decide +kernel)) rfl
theorem zw_75 : Cond.classLink RX10 7 RX2 ∈ wsL_law := wsL_of (List.mem_of_getElem? (i := 168) (by decide +kernel)) rfl
theorem zw_76 : Cond.fieldLink RX10 10 "HatNet" "game" "LHatNet$Game;" ∈ wsL_law := wsL_of (List.mem_of_getElem? (i := 435) (by decide +kernel)) rfl
theorem zw_77 : Cond.instantiable RX1 8 ∈ wsL_law := wsL_of (List.mem_of_getElem? (i := 210) (by decide +kernel)) rfl
theorem zw_78 : Cond.initialized RX1 ∈ wsL_law := wsL_of (List.mem_of_getElem? (i := 142) (by decide +kernel)) rfl
theorem zw_79 : Cond.classLink RX10 16 RX1 ∈ wsL_law := wsL_of (List.mem_of_getElem? (i := 209) (by decide +kernel)) rfl
theorem zw_80 : Cond.methodLink RX10 18 yX1_init ∈ wsL_law := wsL_of (List.mem_of_getElem? (i := 211) (by decide +kernel)) rfl
theorem zw_81 : Cond.instanceMethod yX1_init ∈ wsL_law := wsL_of (List.mem_of_getElem? (i := 212) (by decide +kernel)) rfl
theorem zw_82 : Cond.code yX1_init cX1_init 2 none ∈ wsL_law := wsL_of (List.mem_of_getElem? (i := 213) (by decide +kernel)) rfl
theorem zw_83 : Cond.fieldLink RX10 21 "HatNet" "colourings" "LHatNet$Colourings;" ∈ wsL_law := wsL_of (List.mem_of_getElem? (i := 436) (by decide +kernel)) rfl
theorem zw_84 : Cond.instantiable RX4 1 ∈ wsL_law := wsL_of (List.mem_of_getElem? (i := 249) (by decide +kernel)) rfl
theorem zw_85 : Cond.initialized RX4 ∈ wsL_law := wsL_of (List.mem_of_getElem? (i := 143) (by decide +kernel)) rfl
theorem zw_86 : Cond.classLink RX10 25 RX4 ∈ wsL_law := wsL_of (List.mem_of_getElem? (i := 248) (by decide +kernel)) rfl
theorem zw_87 : Cond.methodLink RX10 27 yX4_init ∈ wsL_law := wsL_of (List.mem_of_getElem? (i := 250) (by decide +kernel)) rfl
theorem zw_88 : Cond.instanceMethod yX4_init ∈ wsL_law := wsL_of (List.mem_of_getElem? (i := 251) (by decide +kernel)) rfl
theorem zw_89 : Cond.code yX4_init cX4_init 2 none ∈ wsL_law := wsL_of (List.mem_of_getElem? (i := 252) (by decide +kernel)) rfl
theorem zw_90 : Cond.fieldLink RX10 28 "HatNet" "network" "LHatNet$Network;" ∈ wsL_law := wsL_of (List.mem_of_getElem? (i := 437) (by decide +kernel)) rfl
theorem zw_91 : Cond.instantiable RX7 3 ∈ wsL_law := wsL_of (List.mem_of_getElem? (i := 259) (by decide +kernel)) rfl
theorem zw_92 : Cond.initialized RX7 ∈ wsL_law := wsL_of (List.mem_of_getElem? (i := 144) (by decide +kernel)) rfl
theorem zw_93 : Cond.classLink RX10 32 RX7 ∈ wsL_law := wsL_of (List.mem_of_getElem? (i := 258) (by decide +kernel)) rfl
theorem zw_94 : Cond.methodLink RX10 34 yX7_init ∈ wsL_law := wsL_of (List.mem_of_getElem? (i := 260) (by decide +kernel)) rfl
theorem zw_95 : Cond.instanceMethod yX7_init ∈ wsL_law := wsL_of (List.mem_of_getElem? (i := 261) (by decide +kernel)) rfl
theorem zw_96 : Cond.code yX7_init cX7_init 2 none ∈ wsL_law := wsL_of (List.mem_of_getElem? (i := 262) (by decide +kernel)) rfl
theorem zw_97 : Cond.fieldLink RX10 35 "HatNet" "renumbering" "LHatNet$Renumbering;" ∈ wsL_law := wsL_of (List.mem_of_getElem? (i := 438) (by decide +kernel)) rfl
theorem zw_98 : Cond.instantiable RX0 1 ∈ wsL_law := wsL_of (List.mem_of_getElem? (i := 275) (by decide +kernel)) rfl
theorem zw_99 : Cond.initialized RX0 ∈ wsL_law := wsL_of (List.mem_of_getElem? (i := 145) (by decide +kernel)) rfl
theorem zw_100 : Cond.classLink RX10 39 RX0 ∈ wsL_law := wsL_of (List.mem_of_getElem? (i := 274) (by decide +kernel)) rfl
theorem zw_101 : Cond.methodLink RX10 41 yX0_init ∈ wsL_law := wsL_of (List.mem_of_getElem? (i := 276) (by decide +kernel)) rfl
theorem zw_102 : Cond.instanceMethod yX0_init ∈ wsL_law := wsL_of (List.mem_of_getElem? (i := 277) (by decide +kernel)) rfl
theorem zw_103 : Cond.code yX0_init cX0_init 2 none ∈ wsL_law := wsL_of (List.mem_of_getElem? (i := 278) (by decide +kernel)) rfl
theorem zw_104 : Cond.fieldLink RX10 42 "HatNet" "acts" "LHatNet$Acts;" ∈ wsL_law := wsL_of (List.mem_of_getElem? (i := 439) (by decide +kernel)) rfl
theorem zw_105 : Cond.instantiable RX9 10 ∈ wsL_law := wsL_of (List.mem_of_getElem? (i := 285) (by decide +kernel)) rfl
theorem zw_106 : Cond.initialized RX9 ∈ wsL_law := wsL_of (List.mem_of_getElem? (i := 146) (by decide +kernel)) rfl
theorem zw_107 : Cond.classLink RX10 46 RX9 ∈ wsL_law := wsL_of (List.mem_of_getElem? (i := 284) (by decide +kernel)) rfl
theorem zw_108 : Cond.methodLink RX10 48 yX9_init ∈ wsL_law := wsL_of (List.mem_of_getElem? (i := 286) (by decide +kernel)) rfl
theorem zw_109 : Cond.instanceMethod yX9_init ∈ wsL_law := wsL_of (List.mem_of_getElem? (i := 287) (by decide +kernel)) rfl
theorem zw_110 : Cond.code yX9_init cX9_init 2 none ∈ wsL_law := wsL_of (List.mem_of_getElem? (i := 288) (by decide +kernel)) rfl
theorem zw_111 : Cond.fieldLink RX10 51 "HatNet" "allWays" "LHatNet$Ways;" ∈ wsL_law := wsL_of (List.mem_of_getElem? (i := 440) (by decide +kernel)) rfl
theorem zw_112 : Cond.instantiable RX3 3 ∈ wsL_law := wsL_of (List.mem_of_getElem? (i := 326) (by decide +kernel)) rfl
theorem zw_113 : Cond.initialized RX3 ∈ wsL_law := wsL_of (List.mem_of_getElem? (i := 147) (by decide +kernel)) rfl
theorem zw_114 : Cond.classLink RX10 55 RX3 ∈ wsL_law := wsL_of (List.mem_of_getElem? (i := 325) (by decide +kernel)) rfl
theorem zw_115 : Cond.methodLink RX10 57 yX3_init ∈ wsL_law := wsL_of (List.mem_of_getElem? (i := 327) (by decide +kernel)) rfl
theorem zw_116 : Cond.instanceMethod yX3_init ∈ wsL_law := wsL_of (List.mem_of_getElem? (i := 328) (by decide +kernel)) rfl
theorem zw_117 : Cond.code yX3_init cX3_init 2 none ∈ wsL_law := wsL_of (List.mem_of_getElem? (i := 329) (by decide +kernel)) rfl
theorem zw_118 : Cond.fieldLink RX10 58 "HatNet" "history" "LHatNet$History;" ∈ wsL_law := wsL_of (List.mem_of_getElem? (i := 441) (by decide +kernel)) rfl
theorem zw_119 : Cond.fieldLink RX10 62 "HatNet" "tape" "[B" ∈ wsL_law := wsL_of (List.mem_of_getElem? (i := 442) (by decide +kernel)) rfl
theorem zw_120 : Cond.instantiable RX6 9 ∈ wsL_law := wsL_of (List.mem_of_getElem? (i := 346) (by decide +kernel)) rfl
theorem zw_121 : Cond.initialized RX6 ∈ wsL_law := wsL_of (List.mem_of_getElem? (i := 148) (by decide +kernel)) rfl
theorem zw_122 : Cond.classLink RX10 66 RX6 ∈ wsL_law := wsL_of (List.mem_of_getElem? (i := 345) (by decide +kernel)) rfl
theorem zw_123 : Cond.methodLink RX10 68 yX6_init ∈ wsL_law := wsL_of (List.mem_of_getElem? (i := 347) (by decide +kernel)) rfl
theorem zw_124 : Cond.instanceMethod yX6_init ∈ wsL_law := wsL_of (List.mem_of_getElem? (i := 348) (by decide +kernel)) rfl
theorem zw_125 : Cond.code yX6_init cX6_init 2 none ∈ wsL_law := wsL_of (List.mem_of_getElem? (i := 349) (by decide +kernel)) rfl
theorem zw_126 : Cond.fieldLink RX10 71 "HatNet" "reader" "LHatNet$Reader;" ∈ wsL_law := wsL_of (List.mem_of_getElem? (i := 443) (by decide +kernel)) rfl
theorem zw_127 : Cond.instantiable RX5 4 ∈ wsL_law := wsL_of (List.mem_of_getElem? (i := 411) (by decide +kernel)) rfl
theorem zw_128 : Cond.initialized RX5 ∈ wsL_law := wsL_of (List.mem_of_getElem? (i := 150) (by decide +kernel)) rfl
theorem zw_129 : Cond.classLink RX10 75 RX5 ∈ wsL_law := wsL_of (List.mem_of_getElem? (i := 410) (by decide +kernel)) rfl
theorem zw_130 : Cond.instanceMethod yX5_init ∈ wsL_law := wsL_of (List.mem_of_getElem? (i := 413) (by decide +kernel)) rfl
theorem zw_131 : Cond.code yX5_init cX5_init 1 none ∈ wsL_law := wsL_of (List.mem_of_getElem? (i := 414) (by decide +kernel)) rfl
theorem zw_132 : Cond.fieldLink RX10 78 "HatNet" "printer" "LHatNet$Printer;" ∈ wsL_law := wsL_of (List.mem_of_getElem? (i := 444) (by decide +kernel)) rfl
theorem zw_133 : Cond.fieldLink RX10 82 "HatNet" "spare" "LHatNet$Game;" ∈ wsL_law := wsL_of (List.mem_of_getElem? (i := 445) (by decide +kernel)) rfl
theorem zw_134 : Cond.fieldLink RX10 85 "HatNet" "taped" "I" ∈ wsL_law := wsL_of (List.mem_of_getElem? (i := 446) (by decide +kernel)) rfl
theorem zw_135 : Cond.fieldLink RX10 89 "HatNet" "latest" "I" ∈ wsL_law := wsL_of (List.mem_of_getElem? (i := 447) (by decide +kernel)) rfl
theorem zw_136 : Cond.fieldLink RX10 92 "HatNet" "faultKind" "I" ∈ wsL_law := wsL_of (List.mem_of_getElem? (i := 448) (by decide +kernel)) rfl
theorem zw_137 : Cond.fieldLink RX10 95 "HatNet" "faultPlace" "I" ∈ wsL_law := wsL_of (List.mem_of_getElem? (i := 449) (by decide +kernel)) rfl
theorem zw_138 : Cond.methodLink RX11 1 Lib.objectInit ∈ wsL_law := wsL_of (List.mem_of_getElem? (i := 1391) (by decide +kernel)) rfl
theorem zw_139 : Cond.fieldLink RX11 7 "HatNetModel" "now" "[I" ∈ wsL_law := wsL_of (List.mem_of_getElem? (i := 1405) (by decide +kernel)) rfl
theorem zw_140 : Cond.fieldLink RX11 13 "HatNetModel" "read" "[I" ∈ wsL_law := wsL_of (List.mem_of_getElem? (i := 1406) (by decide +kernel)) rfl
theorem zw_141 : Cond.constant RX11 16 (36942) ∈ wsL_law := wsL_of (List.mem_of_getElem? (i := 1392) (by decide +kernel)) rfl
theorem zw_142 : Cond.fieldLink RX11 17 "HatNetModel" "past" "[I" ∈ wsL_law := wsL_of (List.mem_of_getElem? (i := 1407) (by decide +kernel)) rfl
theorem zw_143 : Cond.fieldLink RX11 20 "HatNetModel" "aside" "[I" ∈ wsL_law := wsL_of (List.mem_of_getElem? (i := 1408) (by decide +kernel)) rfl
theorem zw_144 : Cond.fieldLink RX11 23 "HatNetModel" "colour" "[I" ∈ wsL_law := wsL_of (List.mem_of_getElem? (i := 1410) (by decide +kernel)) rfl
theorem zw_145 : Cond.fieldLink RX11 26 "HatNetModel" "right" "[I" ∈ wsL_law := wsL_of (List.mem_of_getElem? (i := 1411) (by decide +kernel)) rfl
theorem zw_146 : Cond.fieldLink RX11 29 "HatNetModel" "colour2" "[I" ∈ wsL_law := wsL_of (List.mem_of_getElem? (i := 1412) (by decide +kernel)) rfl
theorem zw_147 : Cond.fieldLink RX11 32 "HatNetModel" "lone" "[I" ∈ wsL_law := wsL_of (List.mem_of_getElem? (i := 1413) (by decide +kernel)) rfl
theorem zw_148 : Cond.fieldLink RX11 35 "HatNetModel" "becomes" "[I" ∈ wsL_law := wsL_of (List.mem_of_getElem? (i := 1416) (by decide +kernel)) rfl
theorem zw_149 : Cond.fieldLink RX11 38 "HatNetModel" "colour3" "[I" ∈ wsL_law := wsL_of (List.mem_of_getElem? (i := 1419) (by decide +kernel)) rfl
theorem zw_150 : Cond.fieldLink RX11 41 "HatNetModel" "out" "[I" ∈ wsL_law := wsL_of (List.mem_of_getElem? (i := 1420) (by decide +kernel)) rfl
theorem zw_151 : Cond.fieldLink RX11 44 "HatNetModel" "outAside" "[I" ∈ wsL_law := wsL_of (List.mem_of_getElem? (i := 1421) (by decide +kernel)) rfl
theorem zw_152 : Cond.fieldLink RX11 47 "HatNetModel" "tape" "[B" ∈ wsL_law := wsL_of (List.mem_of_getElem? (i := 1424) (by decide +kernel)) rfl
theorem zw_153 : Cond.fieldLink RX11 51 "HatNetModel" "faultKind" "I" ∈ wsL_law := wsL_of (List.mem_of_getElem? (i := 1426) (by decide +kernel)) rfl
theorem zw_154 : Cond.fieldLink RX11 55 "HatNetModel" "faultAt" "I" ∈ wsL_law := wsL_of (List.mem_of_getElem? (i := 1427) (by decide +kernel)) rfl
theorem zw_155 : Cond.constantLong RX11 58 (6371942374) ∈ wsL_law := wsL_of (List.mem_of_getElem? (i := 1393) (by decide +kernel)) rfl
theorem zw_156 : Cond.constantLong RX11 60 (158752) ∈ wsL_law := wsL_of (List.mem_of_getElem? (i := 1394) (by decide +kernel)) rfl
theorem zw_157 : Cond.constantLong RX11 62 (243146) ∈ wsL_law := wsL_of (List.mem_of_getElem? (i := 1395) (by decide +kernel)) rfl
theorem zw_158 : Cond.constantLong RX11 64 (377776) ∈ wsL_law := wsL_of (List.mem_of_getElem? (i := 1396) (by decide +kernel)) rfl
theorem zw_159 : Cond.constantLong RX11 66 (4137607) ∈ wsL_law := wsL_of (List.mem_of_getElem? (i := 1397) (by decide +kernel)) rfl
theorem zw_160 : Cond.constantLong RX11 68 (14431) ∈ wsL_law := wsL_of (List.mem_of_getElem? (i := 1398) (by decide +kernel)) rfl
theorem zw_161 : Cond.constantLong RX11 70 (375062) ∈ wsL_law := wsL_of (List.mem_of_getElem? (i := 1399) (by decide +kernel)) rfl
theorem zw_162 : Cond.constantLong RX11 72 (279875) ∈ wsL_law := wsL_of (List.mem_of_getElem? (i := 1400) (by decide +kernel)) rfl
theorem zw_163 : Cond.constantLong RX11 74 (3383428) ∈ wsL_law := wsL_of (List.mem_of_getElem? (i := 1401) (by decide +kernel)) rfl
theorem zw_164 : Cond.constantLong RX11 76 (10650290) ∈ wsL_law := wsL_of (List.mem_of_getElem? (i := 1402) (by decide +kernel)) rfl
theorem zw_165 : Cond.fieldLink RX11 78 "HatNetModel" "words" "[J" ∈ wsL_law := wsL_of (List.mem_of_getElem? (i := 1438) (by decide +kernel)) rfl
theorem zo_RX2_5 : Cond.methodLink RX2 5 Lib.objectInit ∈ wsL_law ∧ Cond.instanceMethod Lib.objectInit ∈ wsL_law ∧ Cond.code Lib.objectInit ⟨#[0xb1]⟩ 1 none ∈ wsL_law := ⟨zw_0, zw_1, zw_2⟩
theorem zkb_6 : (Int8.ofInt (6)).toInt32 = (6 : Int32) := by decide +kernel
theorem zp_6 : ¬ (6 : Int32) < 0 ∧ (6 : Int32).toNatClampNeg = 6 := by decide +kernel
theorem zf_RX2_11 : kwPF RX2 11 2 1 (.array .int) := ⟨RX2, TX2, 4, tyX2, rfl, (Nat.le_of_ble_eq_true rfl), inX2, zw_4, tyX2_ok, nmX2, rfl, tyX2_ok 1 (Nat.le_of_ble_eq_true rfl), rfl⟩
theorem zf_RX2_15 : kwPF RX2 15 2 2 (.array .int) := ⟨RX2, TX2, 4, tyX2, rfl, (Nat.le_of_ble_eq_true rfl), inX2, zw_5, tyX2_ok, nmX2, rfl, tyX2_ok 2 (Nat.le_of_ble_eq_true rfl), rfl⟩
theorem zks_192 : (Int16.ofInt (192)).toInt32 = (192 : Int32) := by decide +kernel
theorem zp_192 : ¬ (192 : Int32) < 0 ∧ (192 : Int32).toNatClampNeg = 192 := by decide +kernel
theorem zf_RX2_18 : kwPF RX2 18 2 3 (.array .long) := ⟨RX2, TX2, 4, tyX2, rfl, (Nat.le_of_ble_eq_true rfl), inX2, zw_7, tyX2_ok, nmX2, rfl, tyX2_ok 3 (Nat.le_of_ble_eq_true rfl), rfl⟩
theorem zo_RX0_1 : Cond.methodLink RX0 1 Lib.objectInit ∈ wsL_law ∧ Cond.instanceMethod Lib.objectInit ∈ wsL_law ∧ Cond.code Lib.objectInit ⟨#[0xb1]⟩ 1 none ∈ wsL_law := ⟨zw_8, zw_1, zw_2⟩
theorem zf_RX0_7 : kwPF RX0 7 0 0 (.object "HatNet$Game") := ⟨RX0, TX0, 1, tyX0, rfl, (Nat.le_of_ble_eq_true rfl), inX0, zw_9, tyX0_ok, nmX0, rfl, tyX0_ok 0 (Nat.le_of_ble_eq_true rfl), rfl⟩
theorem zo_RX4_3 : Cond.methodLink RX4 3 Lib.objectInit ∈ wsL_law ∧ Cond.instanceMethod Lib.objectInit ∈ wsL_law ∧ Cond.code Lib.objectInit ⟨#[0xb1]⟩ 1 none ∈ wsL_law := ⟨zw_10, zw_1, zw_2⟩
theorem zf_RX4_9 : kwPF RX4 9 4 0 (.object "HatNet$Game") := ⟨RX4, TX4, 1, tyX4, rfl, (Nat.le_of_ble_eq_true rfl), inX4, zw_11, tyX4_ok, nmX4, rfl, tyX4_ok 0 (Nat.le_of_ble_eq_true rfl), rfl⟩
theorem zo_RX7_3 : Cond.methodLink RX7 3 Lib.objectInit ∈ wsL_law ∧ Cond.instanceMethod Lib.objectInit ∈ wsL_law ∧ Cond.code Lib.objectInit ⟨#[0xb1]⟩ 1 none ∈ wsL_law := ⟨zw_12, zw_1, zw_2⟩
theorem zf_RX7_9 : kwPF RX7 9 7 1 (.array .int) := ⟨RX7, TX7, 3, tyX7, rfl, (Nat.le_of_ble_eq_true rfl), inX7, zw_13, tyX7_ok, nmX7, rfl, tyX7_ok 1 (Nat.le_of_ble_eq_true rfl), rfl⟩
theorem zks_1024 : (Int16.ofInt (1024)).toInt32 = (1024 : Int32) := by decide +kernel
theorem zp_1024 : ¬ (1024 : Int32) < 0 ∧ (1024 : Int32).toNatClampNeg = 1024 := by decide +kernel
theorem zf_RX7_15 : kwPF RX7 15 7 2 (.array .int) := ⟨RX7, TX7, 3, tyX7, rfl, (Nat.le_of_ble_eq_true rfl), inX7, zw_14, tyX7_ok, nmX7, rfl, tyX7_ok 2 (Nat.le_of_ble_eq_true rfl), rfl⟩
theorem zf_RX7_18 : kwPF RX7 18 7 0 (.object "HatNet$Game") := ⟨RX7, TX7, 3, tyX7, rfl, (Nat.le_of_ble_eq_true rfl), inX7, zw_15, tyX7_ok, nmX7, rfl, tyX7_ok 0 (Nat.le_of_ble_eq_true rfl), rfl⟩
theorem zo_RX8_3 : Cond.methodLink RX8 3 Lib.objectInit ∈ wsL_law ∧ Cond.instanceMethod Lib.objectInit ∈ wsL_law ∧ Cond.code Lib.objectInit ⟨#[0xb1]⟩ 1 none ∈ wsL_law := ⟨zw_16, zw_1, zw_2⟩
theorem zks_601 : (Int16.ofInt (601)).toInt32 = (601 : Int32) := by decide +kernel
theorem zp_601 : ¬ (601 : Int32) < 0 ∧ (601 : Int32).toNatClampNeg = 601 := by decide +kernel
theorem zf_RX8_9 : kwPF RX8 9 8 0 (.array .int) := ⟨RX8, TX8, 5, tyX8, rfl, (Nat.le_of_ble_eq_true rfl), inX8, zw_17, tyX8_ok, nmX8, rfl, tyX8_ok 0 (Nat.le_of_ble_eq_true rfl), rfl⟩
theorem zf_RX8_15 : kwPF RX8 15 8 1 (.array .int) := ⟨RX8, TX8, 5, tyX8, rfl, (Nat.le_of_ble_eq_true rfl), inX8, zw_18, tyX8_ok, nmX8, rfl, tyX8_ok 1 (Nat.le_of_ble_eq_true rfl), rfl⟩
theorem zf_RX8_18 : kwPF RX8 18 8 2 (.array .int) := ⟨RX8, TX8, 5, tyX8, rfl, (Nat.le_of_ble_eq_true rfl), inX8, zw_19, tyX8_ok, nmX8, rfl, tyX8_ok 2 (Nat.le_of_ble_eq_true rfl), rfl⟩
theorem zki_0 : Int32.ofInt (0) = (0 : Int32) := by decide +kernel
theorem zp_RX8_21 : kwP RX8 21 8 4 .int := ⟨RX8, TX8, 5, tyX8, rfl, (Nat.le_of_ble_eq_true rfl), inX8, zw_20, tyX8_ok, nmX8, rfl, tyX8_ok 4 (Nat.le_of_ble_eq_true rfl)⟩
theorem zf_RX8_25 : kwPF RX8 25 8 3 (.array .byte) := ⟨RX8, TX8, 5, tyX8, rfl, (Nat.le_of_ble_eq_true rfl), inX8, zw_21, tyX8_ok, nmX8, rfl, tyX8_ok 3 (Nat.le_of_ble_eq_true rfl), rfl⟩
theorem zo_RX5_3 : Cond.methodLink RX5 3 Lib.objectInit ∈ wsL_law ∧ Cond.instanceMethod Lib.objectInit ∈ wsL_law ∧ Cond.code Lib.objectInit ⟨#[0xb1]⟩ 1 none ∈ wsL_law := ⟨zw_22, zw_1, zw_2⟩
theorem zks_600 : (Int16.ofInt (600)).toInt32 = (600 : Int32) := by decide +kernel
theorem zp_600 : ¬ (600 : Int32) < 0 ∧ (600 : Int32).toNatClampNeg = 600 := by decide +kernel
theorem zp_RX5_9 : kwP RX5 9 5 0 (.array .byte) := ⟨RX5, TX5, 4, tyX5, rfl, (Nat.le_of_ble_eq_true rfl), inX5, zw_24, tyX5_ok, nmX5, rfl, tyX5_ok 0 (Nat.le_of_ble_eq_true rfl)⟩
theorem zp_RX5_15 : kwP RX5 15 5 1 .int := ⟨RX5, TX5, 4, tyX5, rfl, (Nat.le_of_ble_eq_true rfl), inX5, zw_25, tyX5_ok, nmX5, rfl, tyX5_ok 1 (Nat.le_of_ble_eq_true rfl)⟩
theorem zp_RX5_19 : kwP RX5 19 5 2 (.array .byte) := ⟨RX5, TX5, 4, tyX5, rfl, (Nat.le_of_ble_eq_true rfl), inX5, zw_26, tyX5_ok, nmX5, rfl, tyX5_ok 2 (Nat.le_of_ble_eq_true rfl)⟩
theorem zp_RX5_22 : kwP RX5 22 5 3 .int := ⟨RX5, TX5, 4, tyX5, rfl, (Nat.le_of_ble_eq_true rfl), inX5, zw_27, tyX5_ok, nmX5, rfl, tyX5_ok 3 (Nat.le_of_ble_eq_true rfl)⟩
theorem zo_RX1_3 : Cond.methodLink RX1 3 Lib.objectInit ∈ wsL_law ∧ Cond.instanceMethod Lib.objectInit ∈ wsL_law ∧ Cond.code Lib.objectInit ⟨#[0xb1]⟩ 1 none ∈ wsL_law := ⟨zw_28, zw_1, zw_2⟩
theorem zp_RX1_9 : kwP RX1 9 1 1 .int := ⟨RX1, TX1, 8, tyX1, rfl, (Nat.le_of_ble_eq_true rfl), inX1, zw_29, tyX1_ok, nmX1, rfl, tyX1_ok 1 (Nat.le_of_ble_eq_true rfl)⟩
theorem zf_RX1_15 : kwPF RX1 15 1 2 (.array .int) := ⟨RX1, TX1, 8, tyX1, rfl, (Nat.le_of_ble_eq_true rfl), inX1, zw_30, tyX1_ok, nmX1, rfl, tyX1_ok 2 (Nat.le_of_ble_eq_true rfl), rfl⟩
theorem zks_4096 : (Int16.ofInt (4096)).toInt32 = (4096 : Int32) := by decide +kernel
theorem zp_4096 : ¬ (4096 : Int32) < 0 ∧ (4096 : Int32).toNatClampNeg = 4096 := by decide +kernel
theorem zf_RX1_21 : kwPF RX1 21 1 3 (.array (.array .int)) := ⟨RX1, TX1, 8, tyX1, rfl, (Nat.le_of_ble_eq_true rfl), inX1, zw_32, tyX1_ok, nmX1, rfl, tyX1_ok 3 (Nat.le_of_ble_eq_true rfl), rfl⟩
theorem zf_RX1_24 : kwPF RX1 24 1 4 (.array .int) := ⟨RX1, TX1, 8, tyX1, rfl, (Nat.le_of_ble_eq_true rfl), inX1, zw_33, tyX1_ok, nmX1, rfl, tyX1_ok 4 (Nat.le_of_ble_eq_true rfl), rfl⟩
theorem zkb_64 : (Int8.ofInt (64)).toInt32 = (64 : Int32) := by decide +kernel
theorem zp_64 : ¬ (64 : Int32) < 0 ∧ (64 : Int32).toNatClampNeg = 64 := by decide +kernel
theorem zf_RX1_27 : kwPF RX1 27 1 5 (.array .int) := ⟨RX1, TX1, 8, tyX1, rfl, (Nat.le_of_ble_eq_true rfl), inX1, zw_34, tyX1_ok, nmX1, rfl, tyX1_ok 5 (Nat.le_of_ble_eq_true rfl), rfl⟩
theorem zf_RX1_30 : kwPF RX1 30 1 6 (.array .int) := ⟨RX1, TX1, 8, tyX1, rfl, (Nat.le_of_ble_eq_true rfl), inX1, zw_35, tyX1_ok, nmX1, rfl, tyX1_ok 6 (Nat.le_of_ble_eq_true rfl), rfl⟩
theorem zf_RX1_33 : kwPF RX1 33 1 7 (.array .int) := ⟨RX1, TX1, 8, tyX1, rfl, (Nat.le_of_ble_eq_true rfl), inX1, zw_36, tyX1_ok, nmX1, rfl, tyX1_ok 7 (Nat.le_of_ble_eq_true rfl), rfl⟩
theorem zf_RX1_36 : kwPF RX1 36 1 0 (.object "HatNet$Game") := ⟨RX1, TX1, 8, tyX1, rfl, (Nat.le_of_ble_eq_true rfl), inX1, zw_37, tyX1_ok, nmX1, rfl, tyX1_ok 0 (Nat.le_of_ble_eq_true rfl), rfl⟩
theorem zo_RX9_3 : Cond.methodLink RX9 3 Lib.objectInit ∈ wsL_law ∧ Cond.instanceMethod Lib.objectInit ∈ wsL_law ∧ Cond.code Lib.objectInit ⟨#[0xb1]⟩ 1 none ∈ wsL_law := ⟨zw_38, zw_1, zw_2⟩
theorem zkb_56 : (Int8.ofInt (56)).toInt32 = (56 : Int32) := by decide +kernel
theorem zp_56 : ¬ (56 : Int32) < 0 ∧ (56 : Int32).toNatClampNeg = 56 := by decide +kernel
theorem zf_RX9_13 : kwPF RX9 13 9 2 (.array (.array .long)) := ⟨RX9, TX9, 10, tyX9, rfl, (Nat.le_of_ble_eq_true rfl), inX9, zw_40, tyX9_ok, nmX9, rfl, tyX9_ok 2 (Nat.le_of_ble_eq_true rfl), rfl⟩
theorem zkb_15 : (Int8.ofInt (15)).toInt32 = (15 : Int32) := by decide +kernel
theorem zp_15 : ¬ (15 : Int32) < 0 ∧ (15 : Int32).toNatClampNeg = 15 := by decide +kernel
theorem zf_RX9_16 : kwPF RX9 16 9 3 (.array (.array .long)) := ⟨RX9, TX9, 10, tyX9, rfl, (Nat.le_of_ble_eq_true rfl), inX9, zw_41, tyX9_ok, nmX9, rfl, tyX9_ok 3 (Nat.le_of_ble_eq_true rfl), rfl⟩
theorem zkb_14 : (Int8.ofInt (14)).toInt32 = (14 : Int32) := by decide +kernel
theorem zp_14 : ¬ (14 : Int32) < 0 ∧ (14 : Int32).toNatClampNeg = 14 := by decide +kernel
theorem zf_RX9_19 : kwPF RX9 19 9 4 (.array .int) := ⟨RX9, TX9, 10, tyX9, rfl, (Nat.le_of_ble_eq_true rfl), inX9, zw_42, tyX9_ok, nmX9, rfl, tyX9_ok 4 (Nat.le_of_ble_eq_true rfl), rfl⟩
theorem zf_RX9_23 : kwPF RX9 23 9 5 (.array .int) := ⟨RX9, TX9, 10, tyX9, rfl, (Nat.le_of_ble_eq_true rfl), inX9, zw_43, tyX9_ok, nmX9, rfl, tyX9_ok 5 (Nat.le_of_ble_eq_true rfl), rfl⟩
theorem zf_RX9_26 : kwPF RX9 26 9 0 (.object "HatNet$Colourings") := ⟨RX9, TX9, 10, tyX9, rfl, (Nat.le_of_ble_eq_true rfl), inX9, zw_44, tyX9_ok, nmX9, rfl, tyX9_ok 0 (Nat.le_of_ble_eq_true rfl), rfl⟩
theorem zg_RX9_30 : kwF RX9 30 1 0 := ⟨RX1, TX1, 8, rfl, (Nat.le_of_ble_eq_true rfl), inX1, zw_45⟩
theorem zf_RX9_36 : kwPF RX9 36 9 1 (.object "HatNet$Game") := ⟨RX9, TX9, 10, tyX9, rfl, (Nat.le_of_ble_eq_true rfl), inX9, zw_46, tyX9_ok, nmX9, rfl, tyX9_ok 1 (Nat.le_of_ble_eq_true rfl), rfl⟩
theorem zo_RX3_3 : Cond.methodLink RX3 3 Lib.objectInit ∈ wsL_law ∧ Cond.instanceMethod Lib.objectInit ∈ wsL_law ∧ Cond.code Lib.objectInit ⟨#[0xb1]⟩ 1 none ∈ wsL_law := ⟨zw_47, zw_1, zw_2⟩
theorem zkb_7 : (Int8.ofInt (7)).toInt32 = (7 : Int32) := by decide +kernel
theorem zp_7 : ¬ (7 : Int32) < 0 ∧ (7 : Int32).toNatClampNeg = 7 := by decide +kernel
theorem zf_RX3_13 : kwPF RX3 13 3 0 (.array (.object "HatNet$Game")) := ⟨RX3, TX3, 3, tyX3, rfl, (Nat.le_of_ble_eq_true rfl), inX3, zw_49, tyX3_ok, nmX3, rfl, tyX3_ok 0 (Nat.le_of_ble_eq_true rfl), rfl⟩
theorem zp_RX3_17 : kwP RX3 17 3 1 .int := ⟨RX3, TX3, 3, tyX3, rfl, (Nat.le_of_ble_eq_true rfl), inX3, zw_50, tyX3_ok, nmX3, rfl, tyX3_ok 1 (Nat.le_of_ble_eq_true rfl)⟩
theorem zp_RX3_21 : kwP RX3 21 3 2 .int := ⟨RX3, TX3, 3, tyX3, rfl, (Nat.le_of_ble_eq_true rfl), inX3, zw_51, tyX3_ok, nmX3, rfl, tyX3_ok 2 (Nat.le_of_ble_eq_true rfl)⟩
theorem zg_RX3_13 : kwF RX3 13 3 0 := ⟨RX3, TX3, 3, rfl, (Nat.le_of_ble_eq_true rfl), inX3, zw_49⟩
theorem zc_X2 : kwC 2 RX2 TX2 4 tyX2 [.int 0, .null, .null, .null] := ⟨rfl, inX2, tyX2_ok, zw_52, zw_53, fun j hj => match j, hj with | 0, _ => rfl | 1, _ => rfl | 2, _ => rfl | 3, _ => rfl | j + 4, h => absurd h (by omega)⟩
theorem zi_RX3_24 : kwI RX3 24 yX2_init cX2_init 1 0 := ⟨⟨(Or.inr (by unfold nestI; decide)), zw_55, zw_53, zw_56⟩, rfl, by decide +kernel⟩
theorem zp_0 : ¬ (0 : Int32) < 0 ∧ (0 : Int32).toNatClampNeg = 0 := by decide +kernel
theorem zp_1 : ¬ (1 : Int32) < 0 ∧ (1 : Int32).toNatClampNeg = 1 := by decide +kernel
theorem zp_2 : ¬ (2 : Int32) < 0 ∧ (2 : Int32).toNatClampNeg = 2 := by decide +kernel
theorem zp_3 : ¬ (3 : Int32) < 0 ∧ (3 : Int32).toNatClampNeg = 3 := by decide +kernel
theorem zp_4 : ¬ (4 : Int32) < 0 ∧ (4 : Int32).toNatClampNeg = 4 := by decide +kernel
theorem zp_5 : ¬ (5 : Int32) < 0 ∧ (5 : Int32).toNatClampNeg = 5 := by decide +kernel
theorem zo_RX6_3 : Cond.methodLink RX6 3 Lib.objectInit ∈ wsL_law ∧ Cond.instanceMethod Lib.objectInit ∈ wsL_law ∧ Cond.code Lib.objectInit ⟨#[0xb1]⟩ 1 none ∈ wsL_law := ⟨zw_57, zw_1, zw_2⟩
theorem zi_RX6_11 : kwI RX6 11 yX2_init cX2_init 1 0 := ⟨⟨(Or.inr (by unfold nestI; decide)), zw_55, zw_53, zw_56⟩, rfl, by decide +kernel⟩
theorem zf_RX6_12 : kwPF RX6 12 6 0 (.object "HatNet$Game") := ⟨RX6, TX6, 9, tyX6, rfl, (Nat.le_of_ble_eq_true rfl), inX6, zw_59, tyX6_ok, nmX6, rfl, tyX6_ok 0 (Nat.le_of_ble_eq_true rfl), rfl⟩
theorem zp_RX6_18 : kwP RX6 18 6 1 .int := ⟨RX6, TX6, 9, tyX6, rfl, (Nat.le_of_ble_eq_true rfl), inX6, zw_60, tyX6_ok, nmX6, rfl, tyX6_ok 1 (Nat.le_of_ble_eq_true rfl)⟩
theorem zki_m1 : Int32.ofInt (-1) = (-1 : Int32) := by decide +kernel
theorem zp_RX6_22 : kwP RX6 22 6 2 .int := ⟨RX6, TX6, 9, tyX6, rfl, (Nat.le_of_ble_eq_true rfl), inX6, zw_61, tyX6_ok, nmX6, rfl, tyX6_ok 2 (Nat.le_of_ble_eq_true rfl)⟩
theorem zp_RX6_25 : kwP RX6 25 6 4 .int := ⟨RX6, TX6, 9, tyX6, rfl, (Nat.le_of_ble_eq_true rfl), inX6, zw_62, tyX6_ok, nmX6, rfl, tyX6_ok 4 (Nat.le_of_ble_eq_true rfl)⟩
theorem zp_RX6_28 : kwP RX6 28 6 5 .int := ⟨RX6, TX6, 9, tyX6, rfl, (Nat.le_of_ble_eq_true rfl), inX6, zw_63, tyX6_ok, nmX6, rfl, tyX6_ok 5 (Nat.le_of_ble_eq_true rfl)⟩
theorem zf_RX6_31 : kwPF RX6 31 6 6 (.array .int) := ⟨RX6, TX6, 9, tyX6, rfl, (Nat.le_of_ble_eq_true rfl), inX6, zw_64, tyX6_ok, nmX6, rfl, tyX6_ok 6 (Nat.le_of_ble_eq_true rfl), rfl⟩
theorem zp_RX6_35 : kwP RX6 35 6 7 .int := ⟨RX6, TX6, 9, tyX6, rfl, (Nat.le_of_ble_eq_true rfl), inX6, zw_65, tyX6_ok, nmX6, rfl, tyX6_ok 7 (Nat.le_of_ble_eq_true rfl)⟩
theorem zp_RX6_38 : kwP RX6 38 6 8 .int := ⟨RX6, TX6, 9, tyX6, rfl, (Nat.le_of_ble_eq_true rfl), inX6, zw_66, tyX6_ok, nmX6, rfl, tyX6_ok 8 (Nat.le_of_ble_eq_true rfl)⟩
theorem zc_X8 : kwC 8 RX8 TX8 5 tyX8 [.null, .null, .null, .null, .int 0] := ⟨rfl, inX8, tyX8_ok, zw_67, zw_68, fun j hj => match j, hj with | 0, _ => rfl | 1, _ => rfl | 2, _ => rfl | 3, _ => rfl | 4, _ => rfl | j + 5, h => absurd h (by omega)⟩
theorem zi_RX6_43 : kwI RX6 43 yX8_init cX8_init 2 1 := ⟨⟨Or.inl zw_70, zw_71, zw_68, zw_72⟩, rfl, by decide +kernel⟩
theorem zf_RX6_46 : kwPF RX6 46 6 3 (.object "HatNet$Tokens") := ⟨RX6, TX6, 9, tyX6, rfl, (Nat.le_of_ble_eq_true rfl), inX6, zw_73, tyX6_ok, nmX6, rfl, tyX6_ok 3 (Nat.le_of_ble_eq_true rfl), rfl⟩
theorem zo_RX10_1 : Cond.methodLink RX10 1 Lib.objectInit ∈ wsL_law ∧ Cond.instanceMethod Lib.objectInit ∈ wsL_law ∧ Cond.code Lib.objectInit ⟨#[0xb1]⟩ 1 none ∈ wsL_law := ⟨zw_74, zw_1, zw_2⟩
theorem zi_RX10_9 : kwI RX10 9 yX2_init cX2_init 1 0 := ⟨⟨(Or.inr (by unfold nestI; decide)), zw_55, zw_53, zw_56⟩, rfl, by decide +kernel⟩
theorem zf_RX10_10 : kwPF RX10 10 10 0 (.object "HatNet$Game") := ⟨RX10, TX10, 15, tyX10, rfl, (Nat.le_of_ble_eq_true rfl), inX10, zw_76, tyX10_ok, nmX10, rfl, tyX10_ok 0 (Nat.le_of_ble_eq_true rfl), rfl⟩
theorem zc_X1 : kwC 1 RX1 TX1 8 tyX1 [.null, .int 0, .null, .null, .null, .null, .null, .null] := ⟨rfl, inX1, tyX1_ok, zw_77, zw_78, fun j hj => match j, hj with | 0, _ => rfl | 1, _ => rfl | 2, _ => rfl | 3, _ => rfl | 4, _ => rfl | 5, _ => rfl | 6, _ => rfl | 7, _ => rfl | j + 8, h => absurd h (by omega)⟩
theorem zg_RX10_10 : kwF RX10 10 10 0 := ⟨RX10, TX10, 15, rfl, (Nat.le_of_ble_eq_true rfl), inX10, zw_76⟩
theorem zi_RX10_18 : kwI RX10 18 yX1_init cX1_init 2 1 := ⟨⟨Or.inl zw_80, zw_81, zw_78, zw_82⟩, rfl, by decide +kernel⟩
theorem zf_RX10_21 : kwPF RX10 21 10 1 (.object "HatNet$Colourings") := ⟨RX10, TX10, 15, tyX10, rfl, (Nat.le_of_ble_eq_true rfl), inX10, zw_83, tyX10_ok, nmX10, rfl, tyX10_ok 1 (Nat.le_of_ble_eq_true rfl), rfl⟩
theorem zc_X4 : kwC 4 RX4 TX4 1 tyX4 [.null] := ⟨rfl, inX4, tyX4_ok, zw_84, zw_85, fun j hj => match j, hj with | 0, _ => rfl | j + 1, h => absurd h (by omega)⟩
theorem zi_RX10_27 : kwI RX10 27 yX4_init cX4_init 2 1 := ⟨⟨Or.inl zw_87, zw_88, zw_85, zw_89⟩, rfl, by decide +kernel⟩
theorem zf_RX10_28 : kwPF RX10 28 10 2 (.object "HatNet$Network") := ⟨RX10, TX10, 15, tyX10, rfl, (Nat.le_of_ble_eq_true rfl), inX10, zw_90, tyX10_ok, nmX10, rfl, tyX10_ok 2 (Nat.le_of_ble_eq_true rfl), rfl⟩
theorem zc_X7 : kwC 7 RX7 TX7 3 tyX7 [.null, .null, .null] := ⟨rfl, inX7, tyX7_ok, zw_91, zw_92, fun j hj => match j, hj with | 0, _ => rfl | 1, _ => rfl | 2, _ => rfl | j + 3, h => absurd h (by omega)⟩
theorem zi_RX10_34 : kwI RX10 34 yX7_init cX7_init 2 1 := ⟨⟨Or.inl zw_94, zw_95, zw_92, zw_96⟩, rfl, by decide +kernel⟩
theorem zf_RX10_35 : kwPF RX10 35 10 3 (.object "HatNet$Renumbering") := ⟨RX10, TX10, 15, tyX10, rfl, (Nat.le_of_ble_eq_true rfl), inX10, zw_97, tyX10_ok, nmX10, rfl, tyX10_ok 3 (Nat.le_of_ble_eq_true rfl), rfl⟩
theorem zc_X0 : kwC 0 RX0 TX0 1 tyX0 [.null] := ⟨rfl, inX0, tyX0_ok, zw_98, zw_99, fun j hj => match j, hj with | 0, _ => rfl | j + 1, h => absurd h (by omega)⟩
theorem zi_RX10_41 : kwI RX10 41 yX0_init cX0_init 2 1 := ⟨⟨Or.inl zw_101, zw_102, zw_99, zw_103⟩, rfl, by decide +kernel⟩
theorem zf_RX10_42 : kwPF RX10 42 10 4 (.object "HatNet$Acts") := ⟨RX10, TX10, 15, tyX10, rfl, (Nat.le_of_ble_eq_true rfl), inX10, zw_104, tyX10_ok, nmX10, rfl, tyX10_ok 4 (Nat.le_of_ble_eq_true rfl), rfl⟩
theorem zc_X9 : kwC 9 RX9 TX9 10 tyX9 [.null, .null, .null, .null, .null, .null, .int 0, .int 0, .int 0, .int 0] := ⟨rfl, inX9, tyX9_ok, zw_105, zw_106, fun j hj => match j, hj with | 0, _ => rfl | 1, _ => rfl | 2, _ => rfl | 3, _ => rfl | 4, _ => rfl | 5, _ => rfl | 6, _ => rfl | 7, _ => rfl | 8, _ => rfl | 9, _ => rfl | j + 10, h => absurd h (by omega)⟩
theorem zg_RX10_21 : kwF RX10 21 10 1 := ⟨RX10, TX10, 15, rfl, (Nat.le_of_ble_eq_true rfl), inX10, zw_83⟩
theorem zi_RX10_48 : kwI RX10 48 yX9_init cX9_init 2 1 := ⟨⟨Or.inl zw_108, zw_109, zw_106, zw_110⟩, rfl, by decide +kernel⟩
theorem zf_RX10_51 : kwPF RX10 51 10 5 (.object "HatNet$Ways") := ⟨RX10, TX10, 15, tyX10, rfl, (Nat.le_of_ble_eq_true rfl), inX10, zw_111, tyX10_ok, nmX10, rfl, tyX10_ok 5 (Nat.le_of_ble_eq_true rfl), rfl⟩
theorem zc_X3 : kwC 3 RX3 TX3 3 tyX3 [.null, .int 0, .int 0] := ⟨rfl, inX3, tyX3_ok, zw_112, zw_113, fun j hj => match j, hj with | 0, _ => rfl | 1, _ => rfl | 2, _ => rfl | j + 3, h => absurd h (by omega)⟩
theorem zi_RX10_57 : kwI RX10 57 yX3_init cX3_init 2 0 := ⟨⟨Or.inl zw_115, zw_116, zw_113, zw_117⟩, rfl, by decide +kernel⟩
theorem zf_RX10_58 : kwPF RX10 58 10 6 (.object "HatNet$History") := ⟨RX10, TX10, 15, tyX10, rfl, (Nat.le_of_ble_eq_true rfl), inX10, zw_118, tyX10_ok, nmX10, rfl, tyX10_ok 6 (Nat.le_of_ble_eq_true rfl), rfl⟩
theorem zf_RX10_62 : kwPF RX10 62 10 7 (.array .byte) := ⟨RX10, TX10, 15, tyX10, rfl, (Nat.le_of_ble_eq_true rfl), inX10, zw_119, tyX10_ok, nmX10, rfl, tyX10_ok 7 (Nat.le_of_ble_eq_true rfl), rfl⟩
theorem zc_X6 : kwC 6 RX6 TX6 9 tyX6 [.null, .int 0, .int 0, .null, .int 0, .int 0, .null, .int 0, .int 0] := ⟨rfl, inX6, tyX6_ok, zw_120, zw_121, fun j hj => match j, hj with | 0, _ => rfl | 1, _ => rfl | 2, _ => rfl | 3, _ => rfl | 4, _ => rfl | 5, _ => rfl | 6, _ => rfl | 7, _ => rfl | 8, _ => rfl | j + 9, h => absurd h (by omega)⟩
theorem zg_RX10_62 : kwF RX10 62 10 7 := ⟨RX10, TX10, 15, rfl, (Nat.le_of_ble_eq_true rfl), inX10, zw_119⟩
theorem zi_RX10_68 : kwI RX10 68 yX6_init cX6_init 2 1 := ⟨⟨Or.inl zw_123, zw_124, zw_121, zw_125⟩, rfl, by decide +kernel⟩
theorem zf_RX10_71 : kwPF RX10 71 10 8 (.object "HatNet$Reader") := ⟨RX10, TX10, 15, tyX10, rfl, (Nat.le_of_ble_eq_true rfl), inX10, zw_126, tyX10_ok, nmX10, rfl, tyX10_ok 8 (Nat.le_of_ble_eq_true rfl), rfl⟩
theorem zc_X5 : kwC 5 RX5 TX5 4 tyX5 [.null, .int 0, .null, .int 0] := ⟨rfl, inX5, tyX5_ok, zw_127, zw_128, fun j hj => match j, hj with | 0, _ => rfl | 1, _ => rfl | 2, _ => rfl | 3, _ => rfl | j + 4, h => absurd h (by omega)⟩
theorem zi_RX10_77 : kwI RX10 77 yX5_init cX5_init 1 0 := ⟨⟨(Or.inr (by unfold nestI; decide)), zw_130, zw_128, zw_131⟩, rfl, by decide +kernel⟩
theorem zf_RX10_78 : kwPF RX10 78 10 9 (.object "HatNet$Printer") := ⟨RX10, TX10, 15, tyX10, rfl, (Nat.le_of_ble_eq_true rfl), inX10, zw_132, tyX10_ok, nmX10, rfl, tyX10_ok 9 (Nat.le_of_ble_eq_true rfl), rfl⟩
theorem zf_RX10_82 : kwPF RX10 82 10 10 (.object "HatNet$Game") := ⟨RX10, TX10, 15, tyX10, rfl, (Nat.le_of_ble_eq_true rfl), inX10, zw_133, tyX10_ok, nmX10, rfl, tyX10_ok 10 (Nat.le_of_ble_eq_true rfl), rfl⟩
theorem zp_RX10_85 : kwP RX10 85 10 11 .int := ⟨RX10, TX10, 15, tyX10, rfl, (Nat.le_of_ble_eq_true rfl), inX10, zw_134, tyX10_ok, nmX10, rfl, tyX10_ok 11 (Nat.le_of_ble_eq_true rfl)⟩
theorem zp_RX10_89 : kwP RX10 89 10 12 .int := ⟨RX10, TX10, 15, tyX10, rfl, (Nat.le_of_ble_eq_true rfl), inX10, zw_135, tyX10_ok, nmX10, rfl, tyX10_ok 12 (Nat.le_of_ble_eq_true rfl)⟩
theorem zp_RX10_92 : kwP RX10 92 10 13 .int := ⟨RX10, TX10, 15, tyX10, rfl, (Nat.le_of_ble_eq_true rfl), inX10, zw_136, tyX10_ok, nmX10, rfl, tyX10_ok 13 (Nat.le_of_ble_eq_true rfl)⟩
theorem zp_RX10_95 : kwP RX10 95 10 14 .int := ⟨RX10, TX10, 15, tyX10, rfl, (Nat.le_of_ble_eq_true rfl), inX10, zw_137, tyX10_ok, nmX10, rfl, tyX10_ok 14 (Nat.le_of_ble_eq_true rfl)⟩
theorem zo_RX11_1 : Cond.methodLink RX11 1 Lib.objectInit ∈ wsL_law ∧ Cond.instanceMethod Lib.objectInit ∈ wsL_law ∧ Cond.code Lib.objectInit ⟨#[0xb1]⟩ 1 none ∈ wsL_law := ⟨zw_138, zw_1, zw_2⟩
theorem zks_6157 : (Int16.ofInt (6157)).toInt32 = (6157 : Int32) := by decide +kernel
theorem zp_6157 : ¬ (6157 : Int32) < 0 ∧ (6157 : Int32).toNatClampNeg = 6157 := by decide +kernel
theorem zf_RX11_7 : kwPF RX11 7 11 2 (.array .int) := ⟨RX11, TX11, 36, tyX11, rfl, (Nat.le_of_ble_eq_true rfl), inX11, zw_139, tyX11_ok, nmX11, rfl, tyX11_ok 2 (Nat.le_of_ble_eq_true rfl), rfl⟩
theorem zf_RX11_13 : kwPF RX11 13 11 3 (.array .int) := ⟨RX11, TX11, 36, tyX11, rfl, (Nat.le_of_ble_eq_true rfl), inX11, zw_140, tyX11_ok, nmX11, rfl, tyX11_ok 3 (Nat.le_of_ble_eq_true rfl), rfl⟩
theorem zp_36942 : ¬ (36942 : Int32) < 0 ∧ (36942 : Int32).toNatClampNeg = 36942 := by decide +kernel
theorem zf_RX11_17 : kwPF RX11 17 11 4 (.array .int) := ⟨RX11, TX11, 36, tyX11, rfl, (Nat.le_of_ble_eq_true rfl), inX11, zw_142, tyX11_ok, nmX11, rfl, tyX11_ok 4 (Nat.le_of_ble_eq_true rfl), rfl⟩
theorem zf_RX11_20 : kwPF RX11 20 11 5 (.array .int) := ⟨RX11, TX11, 36, tyX11, rfl, (Nat.le_of_ble_eq_true rfl), inX11, zw_143, tyX11_ok, nmX11, rfl, tyX11_ok 5 (Nat.le_of_ble_eq_true rfl), rfl⟩
theorem zf_RX11_23 : kwPF RX11 23 11 7 (.array .int) := ⟨RX11, TX11, 36, tyX11, rfl, (Nat.le_of_ble_eq_true rfl), inX11, zw_144, tyX11_ok, nmX11, rfl, tyX11_ok 7 (Nat.le_of_ble_eq_true rfl), rfl⟩
theorem zf_RX11_26 : kwPF RX11 26 11 8 (.array .int) := ⟨RX11, TX11, 36, tyX11, rfl, (Nat.le_of_ble_eq_true rfl), inX11, zw_145, tyX11_ok, nmX11, rfl, tyX11_ok 8 (Nat.le_of_ble_eq_true rfl), rfl⟩
theorem zf_RX11_29 : kwPF RX11 29 11 9 (.array .int) := ⟨RX11, TX11, 36, tyX11, rfl, (Nat.le_of_ble_eq_true rfl), inX11, zw_146, tyX11_ok, nmX11, rfl, tyX11_ok 9 (Nat.le_of_ble_eq_true rfl), rfl⟩
theorem zf_RX11_32 : kwPF RX11 32 11 10 (.array .int) := ⟨RX11, TX11, 36, tyX11, rfl, (Nat.le_of_ble_eq_true rfl), inX11, zw_147, tyX11_ok, nmX11, rfl, tyX11_ok 10 (Nat.le_of_ble_eq_true rfl), rfl⟩
theorem zf_RX11_35 : kwPF RX11 35 11 13 (.array .int) := ⟨RX11, TX11, 36, tyX11, rfl, (Nat.le_of_ble_eq_true rfl), inX11, zw_148, tyX11_ok, nmX11, rfl, tyX11_ok 13 (Nat.le_of_ble_eq_true rfl), rfl⟩
theorem zf_RX11_38 : kwPF RX11 38 11 16 (.array .int) := ⟨RX11, TX11, 36, tyX11, rfl, (Nat.le_of_ble_eq_true rfl), inX11, zw_149, tyX11_ok, nmX11, rfl, tyX11_ok 16 (Nat.le_of_ble_eq_true rfl), rfl⟩
theorem zks_14000 : (Int16.ofInt (14000)).toInt32 = (14000 : Int32) := by decide +kernel
theorem zp_14000 : ¬ (14000 : Int32) < 0 ∧ (14000 : Int32).toNatClampNeg = 14000 := by decide +kernel
theorem zf_RX11_41 : kwPF RX11 41 11 17 (.array .int) := ⟨RX11, TX11, 36, tyX11, rfl, (Nat.le_of_ble_eq_true rfl), inX11, zw_150, tyX11_ok, nmX11, rfl, tyX11_ok 17 (Nat.le_of_ble_eq_true rfl), rfl⟩
theorem zf_RX11_44 : kwPF RX11 44 11 18 (.array .int) := ⟨RX11, TX11, 36, tyX11, rfl, (Nat.le_of_ble_eq_true rfl), inX11, zw_151, tyX11_ok, nmX11, rfl, tyX11_ok 18 (Nat.le_of_ble_eq_true rfl), rfl⟩
theorem zf_RX11_47 : kwPF RX11 47 11 21 (.array .byte) := ⟨RX11, TX11, 36, tyX11, rfl, (Nat.le_of_ble_eq_true rfl), inX11, zw_152, tyX11_ok, nmX11, rfl, tyX11_ok 21 (Nat.le_of_ble_eq_true rfl), rfl⟩
theorem zp_RX11_51 : kwP RX11 51 11 23 .int := ⟨RX11, TX11, 36, tyX11, rfl, (Nat.le_of_ble_eq_true rfl), inX11, zw_153, tyX11_ok, nmX11, rfl, tyX11_ok 23 (Nat.le_of_ble_eq_true rfl)⟩
theorem zp_RX11_55 : kwP RX11 55 11 24 .int := ⟨RX11, TX11, 36, tyX11, rfl, (Nat.le_of_ble_eq_true rfl), inX11, zw_154, tyX11_ok, nmX11, rfl, tyX11_ok 24 (Nat.le_of_ble_eq_true rfl)⟩
theorem zkb_10 : (Int8.ofInt (10)).toInt32 = (10 : Int32) := by decide +kernel
theorem zp_10 : ¬ (10 : Int32) < 0 ∧ (10 : Int32).toNatClampNeg = 10 := by decide +kernel
theorem zki_1 : Int32.ofInt (1) = (1 : Int32) := by decide +kernel
theorem zki_2 : Int32.ofInt (2) = (2 : Int32) := by decide +kernel
theorem zki_3 : Int32.ofInt (3) = (3 : Int32) := by decide +kernel
theorem zki_4 : Int32.ofInt (4) = (4 : Int32) := by decide +kernel
theorem zki_5 : Int32.ofInt (5) = (5 : Int32) := by decide +kernel
theorem zkb_8 : (Int8.ofInt (8)).toInt32 = (8 : Int32) := by decide +kernel
theorem zp_8 : ¬ (8 : Int32) < 0 ∧ (8 : Int32).toNatClampNeg = 8 := by decide +kernel
theorem zkb_9 : (Int8.ofInt (9)).toInt32 = (9 : Int32) := by decide +kernel
theorem zp_9 : ¬ (9 : Int32) < 0 ∧ (9 : Int32).toNatClampNeg = 9 := by decide +kernel
theorem zf_RX11_78 : kwPF RX11 78 11 35 (.array .long) := ⟨RX11, TX11, 36, tyX11, rfl, (Nat.le_of_ble_eq_true rfl), inX11, zw_165, tyX11_ok, nmX11, rfl, tyX11_ok 35 (Nat.le_of_ble_eq_true rfl), rfl⟩
