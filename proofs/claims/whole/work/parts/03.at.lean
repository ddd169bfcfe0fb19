set_option maxRecDepth 20000 in
theorem at_0_0 : am_at 0 0 = some (.aload_n 0, 1, 0, []) := rfl
set_option maxRecDepth 20000 in
theorem at_0_1 : am_at 0 1 = some (.invokespecial 1, 4, 1000, [69, 70, 71]) := rfl
set_option maxRecDepth 20000 in
theorem at_0_4 : am_at 0 4 = some (.aload_n 0, 5, 0, []) := rfl
set_option maxRecDepth 20000 in
theorem at_0_5 : am_at 0 5 = some (.new 7, 8, 3, [72, 73, 56]) := rfl
set_option maxRecDepth 20000 in
theorem at_0_8 : am_at 0 8 = some (.dup, 9, 0, []) := rfl
set_option maxRecDepth 20000 in
theorem at_0_9 : am_at 0 9 = some (.invokespecial 9, 12, 1, [1, 0, 3, 74, 75, 56]) := rfl
set_option maxRecDepth 20000 in
theorem at_0_12 : am_at 0 12 = some (.putfield 10, 15, 0, [7, 0, 3, 190]) := rfl
set_option maxRecDepth 20000 in
theorem at_0_15 : am_at 0 15 = some (.aload_n 0, 16, 0, []) := rfl
set_option maxRecDepth 20000 in
theorem at_0_16 : am_at 0 16 = some (.bipush 8, 18, 8, []) := rfl
set_option maxRecDepth 20000 in
theorem at_0_18 : am_at 0 18 = some (.anewarray 16, 21, 801, [186, 187]) := rfl
set_option maxRecDepth 20000 in
theorem at_0_21 : am_at 0 21 = some (.putfield 18, 24, 0, [7, 1, 3, 191]) := rfl
set_option maxRecDepth 20000 in
theorem at_0_24 : am_at 0 24 = some (.aload_n 0, 25, 0, []) := rfl
set_option maxRecDepth 20000 in
theorem at_0_25 : am_at 0 25 = some (.bipush 6, 27, 6, []) := rfl
set_option maxRecDepth 20000 in
theorem at_0_27 : am_at 0 27 = some (.anewarray 22, 30, 802, [188, 189]) := rfl
set_option maxRecDepth 20000 in
theorem at_0_30 : am_at 0 30 = some (.putfield 24, 33, 0, [7, 2, 3, 192]) := rfl
set_option maxRecDepth 20000 in
theorem at_0_33 : am_at 0 33 = some (.return_, 34, 0, []) := rfl
set_option maxRecDepth 20000 in
theorem at_1_0 : am_at 1 0 = some (.aload_n 0, 1, 0, []) := rfl
set_option maxRecDepth 20000 in
theorem at_1_1 : am_at 1 1 = some (.invokespecial 3, 4, 1000, [77, 70, 71]) := rfl
set_option maxRecDepth 20000 in
theorem at_1_4 : am_at 1 4 = some (.aload_n 0, 5, 0, []) := rfl
set_option maxRecDepth 20000 in
theorem at_1_5 : am_at 1 5 = some (.new 9, 8, 6, [78, 79, 57]) := rfl
set_option maxRecDepth 20000 in
theorem at_1_8 : am_at 1 8 = some (.dup, 9, 0, []) := rfl
set_option maxRecDepth 20000 in
theorem at_1_9 : am_at 1 9 = some (.invokespecial 11, 12, 2, [1, 0, 6, 80, 81, 57]) := rfl
set_option maxRecDepth 20000 in
theorem at_1_12 : am_at 1 12 = some (.putfield 12, 15, 0, [3, 0, 3, 166]) := rfl
set_option maxRecDepth 20000 in
theorem at_1_15 : am_at 1 15 = some (.aload_n 0, 16, 0, []) := rfl
set_option maxRecDepth 20000 in
theorem at_1_16 : am_at 1 16 = some (.new 18, 19, 2, [102, 103, 58]) := rfl
set_option maxRecDepth 20000 in
theorem at_1_19 : am_at 1 19 = some (.dup, 20, 0, []) := rfl
set_option maxRecDepth 20000 in
theorem at_1_20 : am_at 1 20 = some (.invokespecial 20, 23, 3, [1, 0, 2, 104, 105, 58]) := rfl
set_option maxRecDepth 20000 in
theorem at_1_23 : am_at 1 23 = some (.putfield 21, 26, 0, [3, 1, 3, 168]) := rfl
set_option maxRecDepth 20000 in
theorem at_1_26 : am_at 1 26 = some (.aload_n 0, 27, 0, []) := rfl
set_option maxRecDepth 20000 in
theorem at_1_27 : am_at 1 27 = some (.new 25, 30, 0, [146, 147, 59]) := rfl
set_option maxRecDepth 20000 in
theorem at_1_30 : am_at 1 30 = some (.dup, 31, 0, []) := rfl
set_option maxRecDepth 20000 in
theorem at_1_31 : am_at 1 31 = some (.invokespecial 27, 34, 4, [1, 0, 0, 148, 149, 59]) := rfl
set_option maxRecDepth 20000 in
theorem at_1_34 : am_at 1 34 = some (.putfield 28, 37, 0, [3, 2, 3, 170]) := rfl
set_option maxRecDepth 20000 in
theorem at_1_37 : am_at 1 37 = some (.aload_n 0, 38, 0, []) := rfl
set_option maxRecDepth 20000 in
theorem at_1_38 : am_at 1 38 = some (.bipush 30, 40, 30, []) := rfl
set_option maxRecDepth 20000 in
theorem at_1_40 : am_at 1 40 = some (.newarray .boolean, 42, 404, [185]) := rfl
set_option maxRecDepth 20000 in
theorem at_1_42 : am_at 1 42 = some (.putfield 32, 45, 0, [3, 4, 3, 173]) := rfl
set_option maxRecDepth 20000 in
theorem at_1_45 : am_at 1 45 = some (.return_, 46, 0, []) := rfl
set_option maxRecDepth 20000 in
theorem at_2_0 : am_at 2 0 = some (.aload_n 0, 1, 0, []) := rfl
set_option maxRecDepth 20000 in
theorem at_2_1 : am_at 2 1 = some (.invokespecial 3, 4, 1000, [83, 70, 71]) := rfl
set_option maxRecDepth 20000 in
theorem at_2_4 : am_at 2 4 = some (.aload_n 0, 5, 0, []) := rfl
set_option maxRecDepth 20000 in
theorem at_2_5 : am_at 2 5 = some (.bipush 12, 7, 12, []) := rfl
set_option maxRecDepth 20000 in
theorem at_2_7 : am_at 2 7 = some (.newarray .int, 9, 701, [100]) := rfl
set_option maxRecDepth 20000 in
theorem at_2_9 : am_at 2 9 = some (.putfield 9, 12, 0, [6, 1, 3, 86]) := rfl
set_option maxRecDepth 20000 in
theorem at_2_12 : am_at 2 12 = some (.aload_n 0, 13, 0, []) := rfl
set_option maxRecDepth 20000 in
theorem at_2_13 : am_at 2 13 = some (.bipush 12, 15, 12, []) := rfl
set_option maxRecDepth 20000 in
theorem at_2_15 : am_at 2 15 = some (.newarray .long, 17, 702, [101]) := rfl
set_option maxRecDepth 20000 in
theorem at_2_17 : am_at 2 17 = some (.putfield 15, 20, 0, [6, 2, 3, 88]) := rfl
set_option maxRecDepth 20000 in
theorem at_2_20 : am_at 2 20 = some (.aload_n 0, 21, 0, []) := rfl
set_option maxRecDepth 20000 in
theorem at_2_21 : am_at 2 21 = some (.bipush 72, 23, 72, []) := rfl
set_option maxRecDepth 20000 in
theorem at_2_23 : am_at 2 23 = some (.newarray .int, 25, 703, [100]) := rfl
set_option maxRecDepth 20000 in
theorem at_2_25 : am_at 2 25 = some (.putfield 19, 28, 0, [6, 3, 3, 90]) := rfl
set_option maxRecDepth 20000 in
theorem at_2_28 : am_at 2 28 = some (.return_, 29, 0, []) := rfl
set_option maxRecDepth 20000 in
theorem at_3_0 : am_at 3 0 = some (.aload_n 0, 1, 0, []) := rfl
set_option maxRecDepth 20000 in
theorem at_3_1 : am_at 3 1 = some (.invokespecial 3, 4, 1000, [107, 70, 71]) := rfl
set_option maxRecDepth 20000 in
theorem at_3_4 : am_at 3 4 = some (.aload_n 0, 5, 0, []) := rfl
set_option maxRecDepth 20000 in
theorem at_3_5 : am_at 3 5 = some (.bipush 10, 7, 10, []) := rfl
set_option maxRecDepth 20000 in
theorem at_3_7 : am_at 3 7 = some (.newarray .int, 9, 301, [100]) := rfl
set_option maxRecDepth 20000 in
theorem at_3_9 : am_at 3 9 = some (.putfield 9, 12, 0, [2, 1, 3, 111]) := rfl
set_option maxRecDepth 20000 in
theorem at_3_12 : am_at 3 12 = some (.aload_n 0, 13, 0, []) := rfl
set_option maxRecDepth 20000 in
theorem at_3_13 : am_at 3 13 = some (.bipush 10, 15, 10, []) := rfl
set_option maxRecDepth 20000 in
theorem at_3_15 : am_at 3 15 = some (.newarray .int, 17, 302, [100]) := rfl
set_option maxRecDepth 20000 in
theorem at_3_17 : am_at 3 17 = some (.putfield 15, 20, 0, [2, 2, 3, 113]) := rfl
set_option maxRecDepth 20000 in
theorem at_3_20 : am_at 3 20 = some (.aload_n 0, 21, 0, []) := rfl
set_option maxRecDepth 20000 in
theorem at_3_21 : am_at 3 21 = some (.bipush 10, 23, 10, []) := rfl
set_option maxRecDepth 20000 in
theorem at_3_23 : am_at 3 23 = some (.newarray .int, 25, 303, [100]) := rfl
set_option maxRecDepth 20000 in
theorem at_3_25 : am_at 3 25 = some (.putfield 18, 28, 0, [2, 3, 3, 115]) := rfl
set_option maxRecDepth 20000 in
theorem at_3_28 : am_at 3 28 = some (.aload_n 0, 29, 0, []) := rfl
set_option maxRecDepth 20000 in
theorem at_3_29 : am_at 3 29 = some (.bipush 10, 31, 10, []) := rfl
set_option maxRecDepth 20000 in
theorem at_3_31 : am_at 3 31 = some (.newarray .int, 33, 304, [100]) := rfl
set_option maxRecDepth 20000 in
theorem at_3_33 : am_at 3 33 = some (.putfield 21, 36, 0, [2, 4, 3, 116]) := rfl
set_option maxRecDepth 20000 in
theorem at_3_36 : am_at 3 36 = some (.aload_n 0, 37, 0, []) := rfl
set_option maxRecDepth 20000 in
theorem at_3_37 : am_at 3 37 = some (.bipush 10, 39, 10, []) := rfl
set_option maxRecDepth 20000 in
theorem at_3_39 : am_at 3 39 = some (.newarray .int, 41, 305, [100]) := rfl
set_option maxRecDepth 20000 in
theorem at_3_41 : am_at 3 41 = some (.putfield 24, 44, 0, [2, 5, 3, 117]) := rfl
set_option maxRecDepth 20000 in
theorem at_3_44 : am_at 3 44 = some (.aload_n 0, 45, 0, []) := rfl
set_option maxRecDepth 20000 in
theorem at_3_45 : am_at 3 45 = some (.bipush 10, 47, 10, []) := rfl
set_option maxRecDepth 20000 in
theorem at_3_47 : am_at 3 47 = some (.newarray .int, 49, 306, [100]) := rfl
set_option maxRecDepth 20000 in
theorem at_3_49 : am_at 3 49 = some (.putfield 27, 52, 0, [2, 6, 3, 118]) := rfl
set_option maxRecDepth 20000 in
theorem at_3_52 : am_at 3 52 = some (.aload_n 0, 53, 0, []) := rfl
set_option maxRecDepth 20000 in
theorem at_3_53 : am_at 3 53 = some (.bipush 10, 55, 10, []) := rfl
set_option maxRecDepth 20000 in
theorem at_3_55 : am_at 3 55 = some (.newarray .int, 57, 307, [100]) := rfl
set_option maxRecDepth 20000 in
theorem at_3_57 : am_at 3 57 = some (.putfield 30, 60, 0, [2, 7, 3, 119]) := rfl
set_option maxRecDepth 20000 in
theorem at_3_60 : am_at 3 60 = some (.aload_n 0, 61, 0, []) := rfl
set_option maxRecDepth 20000 in
theorem at_3_61 : am_at 3 61 = some (.bipush 10, 63, 10, []) := rfl
set_option maxRecDepth 20000 in
theorem at_3_63 : am_at 3 63 = some (.newarray .int, 65, 308, [100]) := rfl
set_option maxRecDepth 20000 in
theorem at_3_65 : am_at 3 65 = some (.putfield 33, 68, 0, [2, 8, 3, 121]) := rfl
set_option maxRecDepth 20000 in
theorem at_3_68 : am_at 3 68 = some (.aload_n 0, 69, 0, []) := rfl
set_option maxRecDepth 20000 in
theorem at_3_69 : am_at 3 69 = some (.bipush 10, 71, 10, []) := rfl
set_option maxRecDepth 20000 in
theorem at_3_71 : am_at 3 71 = some (.newarray .int, 73, 309, [100]) := rfl
set_option maxRecDepth 20000 in
theorem at_3_73 : am_at 3 73 = some (.putfield 36, 76, 0, [2, 9, 3, 123]) := rfl
set_option maxRecDepth 20000 in
theorem at_3_76 : am_at 3 76 = some (.return_, 77, 0, []) := rfl
set_option maxRecDepth 20000 in
theorem at_4_0 : am_at 4 0 = some (.aload_n 0, 1, 0, []) := rfl
set_option maxRecDepth 20000 in
theorem at_4_1 : am_at 4 1 = some (.invokespecial 3, 4, 1000, [151, 70, 71]) := rfl
set_option maxRecDepth 20000 in
theorem at_4_4 : am_at 4 4 = some (.aload_n 0, 5, 0, []) := rfl
set_option maxRecDepth 20000 in
theorem at_4_5 : am_at 4 5 = some (.bipush 40, 7, 40, []) := rfl
set_option maxRecDepth 20000 in
theorem at_4_7 : am_at 4 7 = some (.newarray .int, 9, 101, [100]) := rfl
set_option maxRecDepth 20000 in
theorem at_4_9 : am_at 4 9 = some (.putfield 9, 12, 0, [0, 1, 3, 155]) := rfl
set_option maxRecDepth 20000 in
theorem at_4_12 : am_at 4 12 = some (.aload_n 0, 13, 0, []) := rfl
set_option maxRecDepth 20000 in
theorem at_4_13 : am_at 4 13 = some (.bipush 40, 15, 40, []) := rfl
set_option maxRecDepth 20000 in
theorem at_4_15 : am_at 4 15 = some (.newarray .int, 17, 102, [100]) := rfl
set_option maxRecDepth 20000 in
theorem at_4_17 : am_at 4 17 = some (.putfield 15, 20, 0, [0, 2, 3, 157]) := rfl
set_option maxRecDepth 20000 in
theorem at_4_20 : am_at 4 20 = some (.return_, 21, 0, []) := rfl
set_option maxRecDepth 20000 in
theorem at_5_0 : am_at 5 0 = some (.iload_n 1, 1, 1, []) := rfl
set_option maxRecDepth 20000 in
theorem at_5_1 : am_at 5 1 = some (.iconst 1, 2, 1, []) := rfl
set_option maxRecDepth 20000 in
theorem at_5_2 : am_at 5 2 = some (.if_icmp .lt 19, 5, 21, []) := rfl
set_option maxRecDepth 20000 in
theorem at_5_5 : am_at 5 5 = some (.iload_n 1, 6, 1, []) := rfl
set_option maxRecDepth 20000 in
theorem at_5_6 : am_at 5 6 = some (.bipush 20, 8, 20, []) := rfl
set_option maxRecDepth 20000 in
theorem at_5_8 : am_at 5 8 = some (.if_icmp .gt 13, 11, 21, []) := rfl
set_option maxRecDepth 20000 in
theorem at_5_11 : am_at 5 11 = some (.iload_n 2, 12, 2, []) := rfl
set_option maxRecDepth 20000 in
theorem at_5_12 : am_at 5 12 = some (.ifCond .lt 9, 15, 21, []) := rfl
set_option maxRecDepth 20000 in
theorem at_5_15 : am_at 5 15 = some (.iload_n 2, 16, 2, []) := rfl
set_option maxRecDepth 20000 in
theorem at_5_16 : am_at 5 16 = some (.bipush 100, 18, 100, []) := rfl
set_option maxRecDepth 20000 in
theorem at_5_18 : am_at 5 18 = some (.if_icmp .le 5, 21, 23, []) := rfl
set_option maxRecDepth 20000 in
theorem at_5_21 : am_at 5 21 = some (.iconst (-1), 22, 4294967295, []) := rfl
set_option maxRecDepth 20000 in
theorem at_5_22 : am_at 5 22 = some (.ireturn, 23, 0, [0]) := rfl
set_option maxRecDepth 20000 in
theorem at_5_23 : am_at 5 23 = some (.aload_n 0, 24, 0, []) := rfl
set_option maxRecDepth 20000 in
theorem at_5_24 : am_at 5 24 = some (.getfield 10, 27, 0, [7, 0, 3, 190]) := rfl
set_option maxRecDepth 20000 in
theorem at_5_27 : am_at 5 27 = some (.getfield 28, 30, 0, [3, 1, 3, 169]) := rfl
set_option maxRecDepth 20000 in
theorem at_5_30 : am_at 5 30 = some (.getfield 32, 33, 0, [2, 0, 0, 109]) := rfl
set_option maxRecDepth 20000 in
theorem at_5_33 : am_at 5 33 = some (.bipush 10, 35, 10, []) := rfl
set_option maxRecDepth 20000 in
theorem at_5_35 : am_at 5 35 = some (.if_icmp .lt 6, 38, 41, []) := rfl
set_option maxRecDepth 20000 in
theorem at_5_38 : am_at 5 38 = some (.bipush (-3), 40, 4294967293, []) := rfl
set_option maxRecDepth 20000 in
theorem at_5_40 : am_at 5 40 = some (.ireturn, 41, 0, [0]) := rfl
set_option maxRecDepth 20000 in
theorem at_5_41 : am_at 5 41 = some (.aload_n 0, 42, 0, []) := rfl
set_option maxRecDepth 20000 in
theorem at_5_42 : am_at 5 42 = some (.getfield 10, 45, 0, [7, 0, 3, 190]) := rfl
set_option maxRecDepth 20000 in
theorem at_5_45 : am_at 5 45 = some (.getfield 28, 48, 0, [3, 1, 3, 169]) := rfl
set_option maxRecDepth 20000 in
theorem at_5_48 : am_at 5 48 = some (.iload_n 1, 49, 1, []) := rfl
set_option maxRecDepth 20000 in
theorem at_5_49 : am_at 5 49 = some (.iload_n 2, 50, 2, []) := rfl
set_option maxRecDepth 20000 in
theorem at_5_50 : am_at 5 50 = some (.invokevirtual 38, 53, 6, [0, 2, 2, 213, 214, 215, 58]) := rfl
set_option maxRecDepth 20000 in
theorem at_5_53 : am_at 5 53 = some (.ireturn, 54, 0, [0]) := rfl
set_option maxRecDepth 20000 in
theorem at_6_0 : am_at 6 0 = some (.aload_n 0, 1, 0, []) := rfl
set_option maxRecDepth 20000 in
theorem at_6_1 : am_at 6 1 = some (.getfield 9, 4, 0, [2, 1, 3, 111]) := rfl
set_option maxRecDepth 20000 in
theorem at_6_4 : am_at 6 4 = some (.aload_n 0, 5, 0, []) := rfl
set_option maxRecDepth 20000 in
theorem at_6_5 : am_at 6 5 = some (.getfield 39, 8, 0, [2, 0, 0, 108]) := rfl
set_option maxRecDepth 20000 in
theorem at_6_8 : am_at 6 8 = some (.iload_n 1, 9, 1, []) := rfl
set_option maxRecDepth 20000 in
theorem at_6_9 : am_at 6 9 = some (.iastore, 10, 0, []) := rfl
set_option maxRecDepth 20000 in
theorem at_6_10 : am_at 6 10 = some (.aload_n 0, 11, 0, []) := rfl
set_option maxRecDepth 20000 in
theorem at_6_11 : am_at 6 11 = some (.getfield 15, 14, 0, [2, 2, 3, 113]) := rfl
set_option maxRecDepth 20000 in
theorem at_6_14 : am_at 6 14 = some (.aload_n 0, 15, 0, []) := rfl
set_option maxRecDepth 20000 in
theorem at_6_15 : am_at 6 15 = some (.getfield 39, 18, 0, [2, 0, 0, 108]) := rfl
set_option maxRecDepth 20000 in
theorem at_6_18 : am_at 6 18 = some (.iload_n 2, 19, 2, []) := rfl
set_option maxRecDepth 20000 in
theorem at_6_19 : am_at 6 19 = some (.iastore, 20, 0, []) := rfl
set_option maxRecDepth 20000 in
theorem at_6_20 : am_at 6 20 = some (.aload_n 0, 21, 0, []) := rfl
set_option maxRecDepth 20000 in
theorem at_6_21 : am_at 6 21 = some (.getfield 30, 24, 0, [2, 7, 3, 119]) := rfl
set_option maxRecDepth 20000 in
theorem at_6_24 : am_at 6 24 = some (.aload_n 0, 25, 0, []) := rfl
set_option maxRecDepth 20000 in
theorem at_6_25 : am_at 6 25 = some (.getfield 39, 28, 0, [2, 0, 0, 108]) := rfl
set_option maxRecDepth 20000 in
theorem at_6_28 : am_at 6 28 = some (.bipush (-4), 30, 4294967292, []) := rfl
set_option maxRecDepth 20000 in
theorem at_6_30 : am_at 6 30 = some (.iastore, 31, 0, []) := rfl
set_option maxRecDepth 20000 in
theorem at_6_31 : am_at 6 31 = some (.aload_n 0, 32, 0, []) := rfl
set_option maxRecDepth 20000 in
theorem at_6_32 : am_at 6 32 = some (.dup, 33, 0, []) := rfl
set_option maxRecDepth 20000 in
theorem at_6_33 : am_at 6 33 = some (.getfield 39, 36, 0, [2, 0, 0, 108]) := rfl
set_option maxRecDepth 20000 in
theorem at_6_36 : am_at 6 36 = some (.iconst 1, 37, 1, []) := rfl
set_option maxRecDepth 20000 in
theorem at_6_37 : am_at 6 37 = some (.iadd, 38, 0, []) := rfl
set_option maxRecDepth 20000 in
theorem at_6_38 : am_at 6 38 = some (.putfield 39, 41, 0, [2, 0, 0, 108]) := rfl
set_option maxRecDepth 20000 in
theorem at_6_41 : am_at 6 41 = some (.aload_n 0, 42, 0, []) := rfl
set_option maxRecDepth 20000 in
theorem at_6_42 : am_at 6 42 = some (.getfield 39, 45, 0, [2, 0, 0, 108]) := rfl
set_option maxRecDepth 20000 in
theorem at_6_45 : am_at 6 45 = some (.iconst 1, 46, 1, []) := rfl
set_option maxRecDepth 20000 in
theorem at_6_46 : am_at 6 46 = some (.isub, 47, 0, []) := rfl
set_option maxRecDepth 20000 in
theorem at_6_47 : am_at 6 47 = some (.ireturn, 48, 0, [0]) := rfl
set_option maxRecDepth 20000 in
theorem at_7_0 : am_at 7 0 = some (.aload_n 0, 1, 0, []) := rfl
set_option maxRecDepth 20000 in
theorem at_7_1 : am_at 7 1 = some (.getfield 10, 4, 0, [7, 0, 3, 190]) := rfl
set_option maxRecDepth 20000 in
theorem at_7_4 : am_at 7 4 = some (.getfield 28, 7, 0, [3, 1, 3, 169]) := rfl
set_option maxRecDepth 20000 in
theorem at_7_7 : am_at 7 7 = some (.iload_n 1, 8, 1, []) := rfl
set_option maxRecDepth 20000 in
theorem at_7_8 : am_at 7 8 = some (.invokevirtual 42, 11, 8, [0, 1, 2, 221, 222, 223, 58]) := rfl
set_option maxRecDepth 20000 in
theorem at_7_11 : am_at 7 11 = some (.ifCond .eq 18, 14, 29, []) := rfl
set_option maxRecDepth 20000 in
theorem at_7_14 : am_at 7 14 = some (.iload_n 3, 15, 3, []) := rfl
set_option maxRecDepth 20000 in
theorem at_7_15 : am_at 7 15 = some (.invokestatic 46, 18, 9, [0, 1, 225, 226, 55]) := rfl
set_option maxRecDepth 20000 in
theorem at_7_18 : am_at 7 18 = some (.ifCond .eq 11, 21, 29, []) := rfl
set_option maxRecDepth 20000 in
theorem at_7_21 : am_at 7 21 = some (.iload 4, 23, 4, []) := rfl
set_option maxRecDepth 20000 in
theorem at_7_23 : am_at 7 23 = some (.invokestatic 46, 26, 9, [0, 1, 225, 226, 55]) := rfl
set_option maxRecDepth 20000 in
theorem at_7_26 : am_at 7 26 = some (.ifCond .ne 5, 29, 31, []) := rfl
set_option maxRecDepth 20000 in
theorem at_7_29 : am_at 7 29 = some (.iconst (-1), 30, 4294967295, []) := rfl
set_option maxRecDepth 20000 in
theorem at_7_30 : am_at 7 30 = some (.ireturn, 31, 0, [0]) := rfl
set_option maxRecDepth 20000 in
theorem at_7_31 : am_at 7 31 = some (.aload_n 0, 32, 0, []) := rfl
set_option maxRecDepth 20000 in
theorem at_7_32 : am_at 7 32 = some (.invokevirtual 49, 35, 10, [0, 0, 7, 228, 230, 0, 55]) := rfl
set_option maxRecDepth 20000 in
theorem at_7_35 : am_at 7 35 = some (.ifCond .eq 6, 38, 41, []) := rfl
set_option maxRecDepth 20000 in
theorem at_7_38 : am_at 7 38 = some (.bipush (-2), 40, 4294967294, []) := rfl
set_option maxRecDepth 20000 in
theorem at_7_40 : am_at 7 40 = some (.ireturn, 41, 0, [0]) := rfl
set_option maxRecDepth 20000 in
theorem at_7_41 : am_at 7 41 = some (.iload_n 2, 42, 2, []) := rfl
set_option maxRecDepth 20000 in
theorem at_7_42 : am_at 7 42 = some (.ifCond .eq 20, 45, 62, []) := rfl
set_option maxRecDepth 20000 in
theorem at_7_45 : am_at 7 45 = some (.aload_n 0, 46, 0, []) := rfl
set_option maxRecDepth 20000 in
theorem at_7_46 : am_at 7 46 = some (.getfield 10, 49, 0, [7, 0, 3, 190]) := rfl
set_option maxRecDepth 20000 in
theorem at_7_49 : am_at 7 49 = some (.getfield 28, 52, 0, [3, 1, 3, 169]) := rfl
set_option maxRecDepth 20000 in
theorem at_7_52 : am_at 7 52 = some (.iload_n 1, 53, 1, []) := rfl
set_option maxRecDepth 20000 in
theorem at_7_53 : am_at 7 53 = some (.iload_n 3, 54, 3, []) := rfl
set_option maxRecDepth 20000 in
theorem at_7_54 : am_at 7 54 = some (.iload 4, 56, 4, []) := rfl
set_option maxRecDepth 20000 in
theorem at_7_56 : am_at 7 56 = some (.invokevirtual 53, 59, 11, [0, 3, 2, 232, 233, 234, 58]) := rfl
set_option maxRecDepth 20000 in
theorem at_7_59 : am_at 7 59 = some (.goto 17, 62, 76, []) := rfl
set_option maxRecDepth 20000 in
theorem at_7_62 : am_at 7 62 = some (.aload_n 0, 63, 0, []) := rfl
set_option maxRecDepth 20000 in
theorem at_7_63 : am_at 7 63 = some (.getfield 10, 66, 0, [7, 0, 3, 190]) := rfl
set_option maxRecDepth 20000 in
theorem at_7_66 : am_at 7 66 = some (.getfield 28, 69, 0, [3, 1, 3, 169]) := rfl
set_option maxRecDepth 20000 in
theorem at_7_69 : am_at 7 69 = some (.iload_n 1, 70, 1, []) := rfl
set_option maxRecDepth 20000 in
theorem at_7_70 : am_at 7 70 = some (.iload_n 3, 71, 3, []) := rfl
set_option maxRecDepth 20000 in
theorem at_7_71 : am_at 7 71 = some (.iload 4, 73, 4, []) := rfl
set_option maxRecDepth 20000 in
theorem at_7_73 : am_at 7 73 = some (.invokevirtual 57, 76, 12, [0, 3, 2, 236, 237, 238, 58]) := rfl
set_option maxRecDepth 20000 in
theorem at_7_76 : am_at 7 76 = some (.iconst 1, 77, 1, []) := rfl
set_option maxRecDepth 20000 in
theorem at_7_77 : am_at 7 77 = some (.ireturn, 78, 0, [0]) := rfl
set_option maxRecDepth 20000 in
theorem at_8_0 : am_at 8 0 = some (.iload_n 1, 1, 1, []) := rfl
set_option maxRecDepth 20000 in
theorem at_8_1 : am_at 8 1 = some (.ifCond .lt 15, 4, 16, []) := rfl
set_option maxRecDepth 20000 in
theorem at_8_4 : am_at 8 4 = some (.iload_n 1, 5, 1, []) := rfl
set_option maxRecDepth 20000 in
theorem at_8_5 : am_at 8 5 = some (.aload_n 0, 6, 0, []) := rfl
set_option maxRecDepth 20000 in
theorem at_8_6 : am_at 8 6 = some (.getfield 39, 9, 0, [2, 0, 0, 108]) := rfl
set_option maxRecDepth 20000 in
theorem at_8_9 : am_at 8 9 = some (.if_icmp .ge 7, 12, 16, []) := rfl
set_option maxRecDepth 20000 in
theorem at_8_12 : am_at 8 12 = some (.iconst 1, 13, 1, []) := rfl
set_option maxRecDepth 20000 in
theorem at_8_13 : am_at 8 13 = some (.goto 4, 16, 17, []) := rfl
set_option maxRecDepth 20000 in
theorem at_8_16 : am_at 8 16 = some (.iconst 0, 17, 0, []) := rfl
set_option maxRecDepth 20000 in
theorem at_8_17 : am_at 8 17 = some (.ireturn, 18, 0, [1]) := rfl
set_option maxRecDepth 20000 in
theorem at_9_0 : am_at 9 0 = some (.iload_n 0, 1, 0, []) := rfl
set_option maxRecDepth 20000 in
theorem at_9_1 : am_at 9 1 = some (.ifCond .lt 14, 4, 15, []) := rfl
set_option maxRecDepth 20000 in
theorem at_9_4 : am_at 9 4 = some (.iload_n 0, 5, 0, []) := rfl
set_option maxRecDepth 20000 in
theorem at_9_5 : am_at 9 5 = some (.sipush 255, 8, 255, []) := rfl
set_option maxRecDepth 20000 in
theorem at_9_8 : am_at 9 8 = some (.if_icmp .gt 7, 11, 15, []) := rfl
set_option maxRecDepth 20000 in
theorem at_9_11 : am_at 9 11 = some (.iconst 1, 12, 1, []) := rfl
set_option maxRecDepth 20000 in
theorem at_9_12 : am_at 9 12 = some (.goto 4, 15, 16, []) := rfl
set_option maxRecDepth 20000 in
theorem at_9_15 : am_at 9 15 = some (.iconst 0, 16, 0, []) := rfl
set_option maxRecDepth 20000 in
theorem at_9_16 : am_at 9 16 = some (.ireturn, 17, 0, [1]) := rfl
set_option maxRecDepth 20000 in
theorem at_10_0 : am_at 10 0 = some (.iconst 0, 1, 0, []) := rfl
set_option maxRecDepth 20000 in
theorem at_10_1 : am_at 10 1 = some (.istore_n 1, 2, 1, []) := rfl
set_option maxRecDepth 20000 in
theorem at_10_2 : am_at 10 2 = some (.iload_n 1, 3, 1, []) := rfl
set_option maxRecDepth 20000 in
theorem at_10_3 : am_at 10 3 = some (.aload_n 0, 4, 0, []) := rfl
set_option maxRecDepth 20000 in
theorem at_10_4 : am_at 10 4 = some (.getfield 100, 7, 0, [7, 4, 0, 194]) := rfl
set_option maxRecDepth 20000 in
theorem at_10_7 : am_at 10 7 = some (.if_icmp .ge 23, 10, 30, []) := rfl
set_option maxRecDepth 20000 in
theorem at_10_10 : am_at 10 10 = some (.aload_n 0, 11, 0, []) := rfl
set_option maxRecDepth 20000 in
theorem at_10_11 : am_at 10 11 = some (.getfield 24, 14, 0, [7, 2, 3, 192]) := rfl
set_option maxRecDepth 20000 in
theorem at_10_14 : am_at 10 14 = some (.iload_n 1, 15, 1, []) := rfl
set_option maxRecDepth 20000 in
theorem at_10_15 : am_at 10 15 = some (.aaload, 16, 0, []) := rfl
set_option maxRecDepth 20000 in
theorem at_10_16 : am_at 10 16 = some (.getfield 186, 19, 0, [1, 0, 3, 356]) := rfl
set_option maxRecDepth 20000 in
theorem at_10_19 : am_at 10 19 = some (.ifnull 5, 22, 24, []) := rfl
set_option maxRecDepth 20000 in
theorem at_10_22 : am_at 10 22 = some (.iconst 1, 23, 1, []) := rfl
set_option maxRecDepth 20000 in
theorem at_10_23 : am_at 10 23 = some (.ireturn, 24, 0, [1]) := rfl
set_option maxRecDepth 20000 in
theorem at_10_24 : am_at 10 24 = some (.iinc 1 1, 27, 1, []) := rfl
set_option maxRecDepth 20000 in
theorem at_10_27 : am_at 10 27 = some (.goto (-25), 30, 2, []) := rfl
set_option maxRecDepth 20000 in
theorem at_10_30 : am_at 10 30 = some (.iconst 0, 31, 0, []) := rfl
set_option maxRecDepth 20000 in
theorem at_10_31 : am_at 10 31 = some (.ireturn, 32, 0, [1]) := rfl
set_option maxRecDepth 20000 in
theorem at_11_0 : am_at 11 0 = some (.aload_n 0, 1, 0, []) := rfl
set_option maxRecDepth 20000 in
theorem at_11_1 : am_at 11 1 = some (.getfield 24, 4, 0, [2, 5, 3, 117]) := rfl
set_option maxRecDepth 20000 in
theorem at_11_4 : am_at 11 4 = some (.iload_n 1, 5, 1, []) := rfl
set_option maxRecDepth 20000 in
theorem at_11_5 : am_at 11 5 = some (.iload_n 2, 6, 2, []) := rfl
set_option maxRecDepth 20000 in
theorem at_11_6 : am_at 11 6 = some (.iastore, 7, 0, []) := rfl
set_option maxRecDepth 20000 in
theorem at_11_7 : am_at 11 7 = some (.aload_n 0, 8, 0, []) := rfl
set_option maxRecDepth 20000 in
theorem at_11_8 : am_at 11 8 = some (.getfield 27, 11, 0, [2, 6, 3, 118]) := rfl
set_option maxRecDepth 20000 in
theorem at_11_11 : am_at 11 11 = some (.iload_n 1, 12, 1, []) := rfl
set_option maxRecDepth 20000 in
theorem at_11_12 : am_at 11 12 = some (.iload_n 3, 13, 3, []) := rfl
set_option maxRecDepth 20000 in
theorem at_11_13 : am_at 11 13 = some (.iastore, 14, 0, []) := rfl
set_option maxRecDepth 20000 in
theorem at_11_14 : am_at 11 14 = some (.return_, 15, 0, []) := rfl
set_option maxRecDepth 20000 in
theorem at_12_0 : am_at 12 0 = some (.aload_n 0, 1, 0, []) := rfl
set_option maxRecDepth 20000 in
theorem at_12_1 : am_at 12 1 = some (.getfield 18, 4, 0, [2, 3, 3, 115]) := rfl
set_option maxRecDepth 20000 in
theorem at_12_4 : am_at 12 4 = some (.iload_n 1, 5, 1, []) := rfl
set_option maxRecDepth 20000 in
theorem at_12_5 : am_at 12 5 = some (.iload_n 2, 6, 2, []) := rfl
set_option maxRecDepth 20000 in
theorem at_12_6 : am_at 12 6 = some (.iastore, 7, 0, []) := rfl
set_option maxRecDepth 20000 in
theorem at_12_7 : am_at 12 7 = some (.aload_n 0, 8, 0, []) := rfl
set_option maxRecDepth 20000 in
theorem at_12_8 : am_at 12 8 = some (.getfield 21, 11, 0, [2, 4, 3, 116]) := rfl
set_option maxRecDepth 20000 in
theorem at_12_11 : am_at 12 11 = some (.iload_n 1, 12, 1, []) := rfl
set_option maxRecDepth 20000 in
theorem at_12_12 : am_at 12 12 = some (.iload_n 3, 13, 3, []) := rfl
set_option maxRecDepth 20000 in
theorem at_12_13 : am_at 12 13 = some (.iastore, 14, 0, []) := rfl
set_option maxRecDepth 20000 in
theorem at_12_14 : am_at 12 14 = some (.return_, 15, 0, []) := rfl
set_option maxRecDepth 20000 in
theorem at_13_0 : am_at 13 0 = some (.aload_n 0, 1, 0, []) := rfl
set_option maxRecDepth 20000 in
theorem at_13_1 : am_at 13 1 = some (.getfield 10, 4, 0, [7, 0, 3, 190]) := rfl
set_option maxRecDepth 20000 in
theorem at_13_4 : am_at 13 4 = some (.getfield 28, 7, 0, [3, 1, 3, 169]) := rfl
set_option maxRecDepth 20000 in
theorem at_13_7 : am_at 13 7 = some (.iload_n 1, 8, 1, []) := rfl
set_option maxRecDepth 20000 in
theorem at_13_8 : am_at 13 8 = some (.invokevirtual 42, 11, 8, [0, 1, 2, 221, 222, 223, 58]) := rfl
set_option maxRecDepth 20000 in
theorem at_13_11 : am_at 13 11 = some (.ifCond .eq 16, 14, 27, []) := rfl
set_option maxRecDepth 20000 in
theorem at_13_14 : am_at 13 14 = some (.iload_n 2, 15, 2, []) := rfl
set_option maxRecDepth 20000 in
theorem at_13_15 : am_at 13 15 = some (.bipush (-4), 17, 4294967292, []) := rfl
set_option maxRecDepth 20000 in
theorem at_13_17 : am_at 13 17 = some (.if_icmp .eq 12, 20, 29, []) := rfl
set_option maxRecDepth 20000 in
theorem at_13_20 : am_at 13 20 = some (.iload_n 2, 21, 2, []) := rfl
set_option maxRecDepth 20000 in
theorem at_13_21 : am_at 13 21 = some (.invokestatic 60, 24, 14, [0, 1, 244, 245, 55]) := rfl
set_option maxRecDepth 20000 in
theorem at_13_24 : am_at 13 24 = some (.ifCond .ne 5, 27, 29, []) := rfl
set_option maxRecDepth 20000 in
theorem at_13_27 : am_at 13 27 = some (.iconst (-1), 28, 4294967295, []) := rfl
set_option maxRecDepth 20000 in
theorem at_13_28 : am_at 13 28 = some (.ireturn, 29, 0, [0]) := rfl
set_option maxRecDepth 20000 in
theorem at_13_29 : am_at 13 29 = some (.aload_n 0, 30, 0, []) := rfl
set_option maxRecDepth 20000 in
theorem at_13_30 : am_at 13 30 = some (.invokevirtual 49, 33, 10, [0, 0, 7, 228, 230, 0, 55]) := rfl
set_option maxRecDepth 20000 in
theorem at_13_33 : am_at 13 33 = some (.ifCond .eq 6, 36, 39, []) := rfl
set_option maxRecDepth 20000 in
theorem at_13_36 : am_at 13 36 = some (.bipush (-2), 38, 4294967294, []) := rfl
set_option maxRecDepth 20000 in
theorem at_13_38 : am_at 13 38 = some (.ireturn, 39, 0, [0]) := rfl
set_option maxRecDepth 20000 in
theorem at_13_39 : am_at 13 39 = some (.aload_n 0, 40, 0, []) := rfl
set_option maxRecDepth 20000 in
theorem at_13_40 : am_at 13 40 = some (.getfield 10, 43, 0, [7, 0, 3, 190]) := rfl
set_option maxRecDepth 20000 in
theorem at_13_43 : am_at 13 43 = some (.getfield 28, 46, 0, [3, 1, 3, 169]) := rfl
set_option maxRecDepth 20000 in
theorem at_13_46 : am_at 13 46 = some (.iload_n 1, 47, 1, []) := rfl
set_option maxRecDepth 20000 in
theorem at_13_47 : am_at 13 47 = some (.iload_n 2, 48, 2, []) := rfl
set_option maxRecDepth 20000 in
theorem at_13_48 : am_at 13 48 = some (.iload_n 3, 49, 3, []) := rfl
set_option maxRecDepth 20000 in
theorem at_13_49 : am_at 13 49 = some (.iload 4, 51, 4, []) := rfl
set_option maxRecDepth 20000 in
theorem at_13_51 : am_at 13 51 = some (.invokevirtual 63, 54, 15, [0, 4, 2, 247, 248, 249, 58]) := rfl
set_option maxRecDepth 20000 in
theorem at_13_54 : am_at 13 54 = some (.iconst 1, 55, 1, []) := rfl
set_option maxRecDepth 20000 in
theorem at_13_55 : am_at 13 55 = some (.ireturn, 56, 0, [0]) := rfl
set_option maxRecDepth 20000 in
theorem at_14_0 : am_at 14 0 = some (.iload_n 0, 1, 0, []) := rfl
set_option maxRecDepth 20000 in
theorem at_14_1 : am_at 14 1 = some (.ifCond .lt 13, 4, 14, []) := rfl
set_option maxRecDepth 20000 in
theorem at_14_4 : am_at 14 4 = some (.iload_n 0, 5, 0, []) := rfl
set_option maxRecDepth 20000 in
theorem at_14_5 : am_at 14 5 = some (.bipush 12, 7, 12, []) := rfl
set_option maxRecDepth 20000 in
theorem at_14_7 : am_at 14 7 = some (.if_icmp .ge 7, 10, 14, []) := rfl
set_option maxRecDepth 20000 in
theorem at_14_10 : am_at 14 10 = some (.iconst 1, 11, 1, []) := rfl
set_option maxRecDepth 20000 in
theorem at_14_11 : am_at 14 11 = some (.goto 4, 14, 15, []) := rfl
set_option maxRecDepth 20000 in
theorem at_14_14 : am_at 14 14 = some (.iconst 0, 15, 0, []) := rfl
set_option maxRecDepth 20000 in
theorem at_14_15 : am_at 14 15 = some (.ireturn, 16, 0, [1]) := rfl
set_option maxRecDepth 20000 in
theorem at_15_0 : am_at 15 0 = some (.aload_n 0, 1, 0, []) := rfl
set_option maxRecDepth 20000 in
theorem at_15_1 : am_at 15 1 = some (.getfield 30, 4, 0, [2, 7, 3, 119]) := rfl
set_option maxRecDepth 20000 in
theorem at_15_4 : am_at 15 4 = some (.iload_n 1, 5, 1, []) := rfl
set_option maxRecDepth 20000 in
theorem at_15_5 : am_at 15 5 = some (.iload_n 2, 6, 2, []) := rfl
set_option maxRecDepth 20000 in
theorem at_15_6 : am_at 15 6 = some (.iastore, 7, 0, []) := rfl
set_option maxRecDepth 20000 in
theorem at_15_7 : am_at 15 7 = some (.aload_n 0, 8, 0, []) := rfl
set_option maxRecDepth 20000 in
theorem at_15_8 : am_at 15 8 = some (.getfield 33, 11, 0, [2, 8, 3, 121]) := rfl
set_option maxRecDepth 20000 in
theorem at_15_11 : am_at 15 11 = some (.iload_n 1, 12, 1, []) := rfl
set_option maxRecDepth 20000 in
theorem at_15_12 : am_at 15 12 = some (.iload_n 3, 13, 3, []) := rfl
set_option maxRecDepth 20000 in
theorem at_15_13 : am_at 15 13 = some (.iastore, 14, 0, []) := rfl
set_option maxRecDepth 20000 in
theorem at_15_14 : am_at 15 14 = some (.aload_n 0, 15, 0, []) := rfl
set_option maxRecDepth 20000 in
theorem at_15_15 : am_at 15 15 = some (.getfield 36, 18, 0, [2, 9, 3, 123]) := rfl
set_option maxRecDepth 20000 in
theorem at_15_18 : am_at 15 18 = some (.iload_n 1, 19, 1, []) := rfl
set_option maxRecDepth 20000 in
theorem at_15_19 : am_at 15 19 = some (.iload 4, 21, 4, []) := rfl
set_option maxRecDepth 20000 in
theorem at_15_21 : am_at 15 21 = some (.iastore, 22, 0, []) := rfl
set_option maxRecDepth 20000 in
theorem at_15_22 : am_at 15 22 = some (.return_, 23, 0, []) := rfl
set_option maxRecDepth 20000 in
theorem at_16_0 : am_at 16 0 = some (.aload_n 0, 1, 0, []) := rfl
set_option maxRecDepth 20000 in
theorem at_16_1 : am_at 16 1 = some (.getfield 67, 4, 0, [7, 5, 3, 195]) := rfl
set_option maxRecDepth 20000 in
theorem at_16_4 : am_at 16 4 = some (.ifnull 6, 7, 10, []) := rfl
set_option maxRecDepth 20000 in
theorem at_16_7 : am_at 16 7 = some (.bipush (-2), 9, 4294967294, []) := rfl
set_option maxRecDepth 20000 in
theorem at_16_9 : am_at 16 9 = some (.ireturn, 10, 0, [0]) := rfl
set_option maxRecDepth 20000 in
theorem at_16_10 : am_at 16 10 = some (.aload_n 0, 11, 0, []) := rfl
set_option maxRecDepth 20000 in
theorem at_16_11 : am_at 16 11 = some (.getfield 71, 14, 0, [7, 3, 0, 193]) := rfl
set_option maxRecDepth 20000 in
theorem at_16_14 : am_at 16 14 = some (.bipush 8, 16, 8, []) := rfl
set_option maxRecDepth 20000 in
theorem at_16_16 : am_at 16 16 = some (.if_icmp .lt 6, 19, 22, []) := rfl
set_option maxRecDepth 20000 in
theorem at_16_19 : am_at 16 19 = some (.bipush (-3), 21, 4294967293, []) := rfl
set_option maxRecDepth 20000 in
theorem at_16_21 : am_at 16 21 = some (.ireturn, 22, 0, [0]) := rfl
set_option maxRecDepth 20000 in
theorem at_16_22 : am_at 16 22 = some (.aload_n 0, 23, 0, []) := rfl
set_option maxRecDepth 20000 in
theorem at_16_23 : am_at 16 23 = some (.getfield 18, 26, 0, [7, 1, 3, 191]) := rfl
set_option maxRecDepth 20000 in
theorem at_16_26 : am_at 16 26 = some (.aload_n 0, 27, 0, []) := rfl
set_option maxRecDepth 20000 in
theorem at_16_27 : am_at 16 27 = some (.getfield 71, 30, 0, [7, 3, 0, 193]) := rfl
set_option maxRecDepth 20000 in
theorem at_16_30 : am_at 16 30 = some (.aaload, 31, 0, []) := rfl
set_option maxRecDepth 20000 in
theorem at_16_31 : am_at 16 31 = some (.ifnonnull 19, 34, 50, []) := rfl
set_option maxRecDepth 20000 in
theorem at_16_34 : am_at 16 34 = some (.aload_n 0, 35, 0, []) := rfl
set_option maxRecDepth 20000 in
theorem at_16_35 : am_at 16 35 = some (.getfield 18, 38, 0, [7, 1, 3, 191]) := rfl
set_option maxRecDepth 20000 in
theorem at_16_38 : am_at 16 38 = some (.aload_n 0, 39, 0, []) := rfl
set_option maxRecDepth 20000 in
theorem at_16_39 : am_at 16 39 = some (.getfield 71, 42, 0, [7, 3, 0, 193]) := rfl
set_option maxRecDepth 20000 in
theorem at_16_42 : am_at 16 42 = some (.new 16, 45, 5, [186, 255, 61]) := rfl
set_option maxRecDepth 20000 in
theorem at_16_45 : am_at 16 45 = some (.dup, 46, 0, []) := rfl
set_option maxRecDepth 20000 in
theorem at_16_46 : am_at 16 46 = some (.invokespecial 74, 49, 17, [1, 0, 5, 256, 257, 61]) := rfl
set_option maxRecDepth 20000 in
theorem at_16_49 : am_at 16 49 = some (.aastore, 50, 0, []) := rfl
set_option maxRecDepth 20000 in
theorem at_16_50 : am_at 16 50 = some (.aload_n 0, 51, 0, []) := rfl
set_option maxRecDepth 20000 in
theorem at_16_51 : am_at 16 51 = some (.aload_n 0, 52, 0, []) := rfl
set_option maxRecDepth 20000 in
theorem at_16_52 : am_at 16 52 = some (.getfield 18, 55, 0, [7, 1, 3, 191]) := rfl
set_option maxRecDepth 20000 in
theorem at_16_55 : am_at 16 55 = some (.aload_n 0, 56, 0, []) := rfl
set_option maxRecDepth 20000 in
theorem at_16_56 : am_at 16 56 = some (.getfield 71, 59, 0, [7, 3, 0, 193]) := rfl
set_option maxRecDepth 20000 in
theorem at_16_59 : am_at 16 59 = some (.aaload, 60, 0, []) := rfl
set_option maxRecDepth 20000 in
theorem at_16_60 : am_at 16 60 = some (.putfield 67, 63, 0, [7, 5, 3, 195]) := rfl
set_option maxRecDepth 20000 in
theorem at_16_63 : am_at 16 63 = some (.aload_n 0, 64, 0, []) := rfl
set_option maxRecDepth 20000 in
theorem at_16_64 : am_at 16 64 = some (.getfield 67, 67, 0, [7, 5, 3, 195]) := rfl
set_option maxRecDepth 20000 in
theorem at_16_67 : am_at 16 67 = some (.invokevirtual 75, 70, 18, [0, 0, 5, 306, 307, 308, 61]) := rfl
set_option maxRecDepth 20000 in
theorem at_16_70 : am_at 16 70 = some (.aload_n 0, 71, 0, []) := rfl
set_option maxRecDepth 20000 in
theorem at_16_71 : am_at 16 71 = some (.getfield 71, 74, 0, [7, 3, 0, 193]) := rfl
set_option maxRecDepth 20000 in
theorem at_16_74 : am_at 16 74 = some (.ireturn, 75, 0, [0]) := rfl
set_option maxRecDepth 20000 in
theorem at_17_0 : am_at 17 0 = some (.aload_n 0, 1, 0, []) := rfl
set_option maxRecDepth 20000 in
theorem at_17_1 : am_at 17 1 = some (.invokespecial 3, 4, 1000, [259, 70, 71]) := rfl
set_option maxRecDepth 20000 in
theorem at_17_4 : am_at 17 4 = some (.aload_n 0, 5, 0, []) := rfl
set_option maxRecDepth 20000 in
theorem at_17_5 : am_at 17 5 = some (.bipush 30, 7, 30, []) := rfl
set_option maxRecDepth 20000 in
theorem at_17_7 : am_at 17 7 = some (.newarray .int, 9, 602, [100]) := rfl
set_option maxRecDepth 20000 in
theorem at_17_9 : am_at 17 9 = some (.putfield 9, 12, 0, [5, 2, 3, 266]) := rfl
set_option maxRecDepth 20000 in
theorem at_17_12 : am_at 17 12 = some (.aload_n 0, 13, 0, []) := rfl
set_option maxRecDepth 20000 in
theorem at_17_13 : am_at 17 13 = some (.bipush 30, 15, 30, []) := rfl
set_option maxRecDepth 20000 in
theorem at_17_15 : am_at 17 15 = some (.newarray .int, 17, 603, [100]) := rfl
set_option maxRecDepth 20000 in
theorem at_17_17 : am_at 17 17 = some (.putfield 15, 20, 0, [5, 3, 3, 270]) := rfl
set_option maxRecDepth 20000 in
theorem at_17_20 : am_at 17 20 = some (.aload_n 0, 21, 0, []) := rfl
set_option maxRecDepth 20000 in
theorem at_17_21 : am_at 17 21 = some (.bipush 30, 23, 30, []) := rfl
set_option maxRecDepth 20000 in
theorem at_17_23 : am_at 17 23 = some (.newarray .int, 25, 604, [100]) := rfl
set_option maxRecDepth 20000 in
theorem at_17_25 : am_at 17 25 = some (.putfield 18, 28, 0, [5, 4, 3, 274]) := rfl
set_option maxRecDepth 20000 in
theorem at_17_28 : am_at 17 28 = some (.aload_n 0, 29, 0, []) := rfl
set_option maxRecDepth 20000 in
theorem at_17_29 : am_at 17 29 = some (.bipush 30, 31, 30, []) := rfl
set_option maxRecDepth 20000 in
theorem at_17_31 : am_at 17 31 = some (.newarray .int, 33, 605, [100]) := rfl
set_option maxRecDepth 20000 in
theorem at_17_33 : am_at 17 33 = some (.putfield 21, 36, 0, [5, 5, 3, 277]) := rfl
set_option maxRecDepth 20000 in
theorem at_17_36 : am_at 17 36 = some (.aload_n 0, 37, 0, []) := rfl
set_option maxRecDepth 20000 in
theorem at_17_37 : am_at 17 37 = some (.bipush 30, 39, 30, []) := rfl
set_option maxRecDepth 20000 in
theorem at_17_39 : am_at 17 39 = some (.newarray .int, 41, 606, [100]) := rfl
set_option maxRecDepth 20000 in
theorem at_17_41 : am_at 17 41 = some (.putfield 24, 44, 0, [5, 6, 3, 280]) := rfl
set_option maxRecDepth 20000 in
theorem at_17_44 : am_at 17 44 = some (.aload_n 0, 45, 0, []) := rfl
set_option maxRecDepth 20000 in
theorem at_17_45 : am_at 17 45 = some (.bipush 30, 47, 30, []) := rfl
set_option maxRecDepth 20000 in
theorem at_17_47 : am_at 17 47 = some (.newarray .int, 49, 607, [100]) := rfl
set_option maxRecDepth 20000 in
theorem at_17_49 : am_at 17 49 = some (.putfield 27, 52, 0, [5, 7, 3, 283]) := rfl
set_option maxRecDepth 20000 in
theorem at_17_52 : am_at 17 52 = some (.aload_n 0, 53, 0, []) := rfl
set_option maxRecDepth 20000 in
theorem at_17_53 : am_at 17 53 = some (.bipush 30, 55, 30, []) := rfl
set_option maxRecDepth 20000 in
theorem at_17_55 : am_at 17 55 = some (.newarray .int, 57, 608, [100]) := rfl
set_option maxRecDepth 20000 in
theorem at_17_57 : am_at 17 57 = some (.putfield 30, 60, 0, [5, 8, 3, 286]) := rfl
set_option maxRecDepth 20000 in
theorem at_17_60 : am_at 17 60 = some (.return_, 61, 0, []) := rfl
set_option maxRecDepth 20000 in
theorem at_18_0 : am_at 18 0 = some (.aload_n 0, 1, 0, []) := rfl
set_option maxRecDepth 20000 in
theorem at_18_1 : am_at 18 1 = some (.iconst 0, 2, 0, []) := rfl
set_option maxRecDepth 20000 in
theorem at_18_2 : am_at 18 2 = some (.putfield 33, 5, 0, [5, 0, 0, 260]) := rfl
set_option maxRecDepth 20000 in
theorem at_18_5 : am_at 18 5 = some (.aload_n 0, 6, 0, []) := rfl
set_option maxRecDepth 20000 in
theorem at_18_6 : am_at 18 6 = some (.iconst 1, 7, 1, []) := rfl
set_option maxRecDepth 20000 in
theorem at_18_7 : am_at 18 7 = some (.putfield 37, 10, 0, [5, 1, 0, 264]) := rfl
set_option maxRecDepth 20000 in
theorem at_18_10 : am_at 18 10 = some (.return_, 11, 0, []) := rfl
set_option maxRecDepth 20000 in
theorem at_19_0 : am_at 19 0 = some (.aload_n 0, 1, 0, []) := rfl
set_option maxRecDepth 20000 in
theorem at_19_1 : am_at 19 1 = some (.iload_n 1, 2, 1, []) := rfl
set_option maxRecDepth 20000 in
theorem at_19_2 : am_at 19 2 = some (.iload_n 2, 3, 2, []) := rfl
set_option maxRecDepth 20000 in
theorem at_19_3 : am_at 19 3 = some (.iload_n 3, 4, 3, []) := rfl
set_option maxRecDepth 20000 in
theorem at_19_4 : am_at 19 4 = some (.iload 4, 6, 4, []) := rfl
set_option maxRecDepth 20000 in
theorem at_19_6 : am_at 19 6 = some (.invokevirtual 78, 9, 20, [0, 4, 7, 314, 316, 1, 55]) := rfl
set_option maxRecDepth 20000 in
theorem at_19_9 : am_at 19 9 = some (.ifCond .ne 5, 12, 14, []) := rfl
set_option maxRecDepth 20000 in
theorem at_19_12 : am_at 19 12 = some (.iconst (-1), 13, 4294967295, []) := rfl
set_option maxRecDepth 20000 in
theorem at_19_13 : am_at 19 13 = some (.ireturn, 14, 0, [0]) := rfl
set_option maxRecDepth 20000 in
theorem at_19_14 : am_at 19 14 = some (.aload_n 0, 15, 0, []) := rfl
set_option maxRecDepth 20000 in
theorem at_19_15 : am_at 19 15 = some (.getfield 67, 18, 0, [7, 5, 3, 195]) := rfl
set_option maxRecDepth 20000 in
theorem at_19_18 : am_at 19 18 = some (.ifnonnull 6, 21, 24, []) := rfl
set_option maxRecDepth 20000 in
theorem at_19_21 : am_at 19 21 = some (.bipush (-2), 23, 4294967294, []) := rfl
set_option maxRecDepth 20000 in
theorem at_19_23 : am_at 19 23 = some (.ireturn, 24, 0, [0]) := rfl
set_option maxRecDepth 20000 in
theorem at_19_24 : am_at 19 24 = some (.aload_n 0, 25, 0, []) := rfl
set_option maxRecDepth 20000 in
theorem at_19_25 : am_at 19 25 = some (.getfield 67, 28, 0, [7, 5, 3, 195]) := rfl
set_option maxRecDepth 20000 in
theorem at_19_28 : am_at 19 28 = some (.iload_n 1, 29, 1, []) := rfl
set_option maxRecDepth 20000 in
theorem at_19_29 : am_at 19 29 = some (.iload_n 2, 30, 2, []) := rfl
set_option maxRecDepth 20000 in
theorem at_19_30 : am_at 19 30 = some (.invokestatic 82, 33, 22, [0, 2, 321, 322, 55]) := rfl
set_option maxRecDepth 20000 in
theorem at_19_33 : am_at 19 33 = some (.invokevirtual 85, 36, 23, [0, 1, 5, 324, 325, 326, 61]) := rfl
set_option maxRecDepth 20000 in
theorem at_19_36 : am_at 19 36 = some (.ifCond .ne 6, 39, 42, []) := rfl
set_option maxRecDepth 20000 in
theorem at_19_39 : am_at 19 39 = some (.bipush (-3), 41, 4294967293, []) := rfl
set_option maxRecDepth 20000 in
theorem at_19_41 : am_at 19 41 = some (.ireturn, 42, 0, [0]) := rfl
set_option maxRecDepth 20000 in
theorem at_19_42 : am_at 19 42 = some (.aload_n 0, 43, 0, []) := rfl
set_option maxRecDepth 20000 in
theorem at_19_43 : am_at 19 43 = some (.getfield 67, 46, 0, [7, 5, 3, 195]) := rfl
set_option maxRecDepth 20000 in
theorem at_19_46 : am_at 19 46 = some (.iload_n 1, 47, 1, []) := rfl
set_option maxRecDepth 20000 in
theorem at_19_47 : am_at 19 47 = some (.iload_n 2, 48, 2, []) := rfl
set_option maxRecDepth 20000 in
theorem at_19_48 : am_at 19 48 = some (.iload_n 3, 49, 3, []) := rfl
set_option maxRecDepth 20000 in
theorem at_19_49 : am_at 19 49 = some (.iload 4, 51, 4, []) := rfl
set_option maxRecDepth 20000 in
theorem at_19_51 : am_at 19 51 = some (.invokevirtual 88, 54, 24, [0, 4, 5, 328, 329, 330, 61]) := rfl
set_option maxRecDepth 20000 in
theorem at_19_54 : am_at 19 54 = some (.aload_n 0, 55, 0, []) := rfl
set_option maxRecDepth 20000 in
theorem at_19_55 : am_at 19 55 = some (.getfield 67, 58, 0, [7, 5, 3, 195]) := rfl
set_option maxRecDepth 20000 in
theorem at_19_58 : am_at 19 58 = some (.getfield 91, 61, 0, [5, 1, 0, 265]) := rfl
set_option maxRecDepth 20000 in
theorem at_19_61 : am_at 19 61 = some (.istore 5, 63, 5, []) := rfl
set_option maxRecDepth 20000 in
theorem at_19_63 : am_at 19 63 = some (.iload 5, 65, 5, []) := rfl
set_option maxRecDepth 20000 in
theorem at_19_65 : am_at 19 65 = some (.ifCond .ne 25, 68, 90, []) := rfl
set_option maxRecDepth 20000 in
theorem at_19_68 : am_at 19 68 = some (.aload_n 0, 69, 0, []) := rfl
set_option maxRecDepth 20000 in
theorem at_19_69 : am_at 19 69 = some (.getfield 67, 72, 0, [7, 5, 3, 195]) := rfl
set_option maxRecDepth 20000 in
theorem at_19_72 : am_at 19 72 = some (.invokevirtual 94, 75, 26, [0, 0, 5, 337, 338, 339, 61]) := rfl
set_option maxRecDepth 20000 in
theorem at_19_75 : am_at 19 75 = some (.aload_n 0, 76, 0, []) := rfl
set_option maxRecDepth 20000 in
theorem at_19_76 : am_at 19 76 = some (.aconst_null, 77, 0, []) := rfl
set_option maxRecDepth 20000 in
theorem at_19_77 : am_at 19 77 = some (.putfield 67, 80, 0, [7, 5, 3, 195]) := rfl
set_option maxRecDepth 20000 in
theorem at_19_80 : am_at 19 80 = some (.aload_n 0, 81, 0, []) := rfl
set_option maxRecDepth 20000 in
theorem at_19_81 : am_at 19 81 = some (.dup, 82, 0, []) := rfl
set_option maxRecDepth 20000 in
theorem at_19_82 : am_at 19 82 = some (.getfield 71, 85, 0, [7, 3, 0, 193]) := rfl
set_option maxRecDepth 20000 in
theorem at_19_85 : am_at 19 85 = some (.iconst 1, 86, 1, []) := rfl
set_option maxRecDepth 20000 in
theorem at_19_86 : am_at 19 86 = some (.iadd, 87, 0, []) := rfl
set_option maxRecDepth 20000 in
theorem at_19_87 : am_at 19 87 = some (.putfield 71, 90, 0, [7, 3, 0, 193]) := rfl
set_option maxRecDepth 20000 in
theorem at_19_90 : am_at 19 90 = some (.iload 5, 92, 5, []) := rfl
set_option maxRecDepth 20000 in
theorem at_19_92 : am_at 19 92 = some (.ireturn, 93, 0, [0]) := rfl
set_option maxRecDepth 20000 in
theorem at_20_0 : am_at 20 0 = some (.iload_n 1, 1, 1, []) := rfl
set_option maxRecDepth 20000 in
theorem at_20_1 : am_at 20 1 = some (.tableswitch 224 0 9 #[55, 84, 92, 92, 118, 84, 150, 92, 176, 195], 56, 225, [56, 85, 93, 93, 119, 85, 151, 93, 177, 196]) := rfl
set_option maxRecDepth 20000 in
theorem at_20_56 : am_at 20 56 = some (.aload_n 0, 57, 0, []) := rfl
set_option maxRecDepth 20000 in
theorem at_20_57 : am_at 20 57 = some (.getfield 10, 60, 0, [7, 0, 3, 190]) := rfl
set_option maxRecDepth 20000 in
theorem at_20_60 : am_at 20 60 = some (.getfield 28, 63, 0, [3, 1, 3, 169]) := rfl
set_option maxRecDepth 20000 in
theorem at_20_63 : am_at 20 63 = some (.iload_n 2, 64, 2, []) := rfl
set_option maxRecDepth 20000 in
theorem at_20_64 : am_at 20 64 = some (.invokevirtual 42, 67, 8, [0, 1, 2, 221, 222, 223, 58]) := rfl
set_option maxRecDepth 20000 in
theorem at_20_67 : am_at 20 67 = some (.ifCond .eq 16, 70, 83, []) := rfl
set_option maxRecDepth 20000 in
theorem at_20_70 : am_at 20 70 = some (.iload_n 3, 71, 3, []) := rfl
set_option maxRecDepth 20000 in
theorem at_20_71 : am_at 20 71 = some (.ifCond .ne 12, 74, 83, []) := rfl
set_option maxRecDepth 20000 in
theorem at_20_74 : am_at 20 74 = some (.iload 4, 76, 4, []) := rfl
set_option maxRecDepth 20000 in
theorem at_20_76 : am_at 20 76 = some (.ifCond .ne 7, 79, 83, []) := rfl
set_option maxRecDepth 20000 in
theorem at_20_79 : am_at 20 79 = some (.iconst 1, 80, 1, []) := rfl
set_option maxRecDepth 20000 in
theorem at_20_80 : am_at 20 80 = some (.goto 4, 83, 84, []) := rfl
set_option maxRecDepth 20000 in
theorem at_20_83 : am_at 20 83 = some (.iconst 0, 84, 0, []) := rfl
set_option maxRecDepth 20000 in
theorem at_20_84 : am_at 20 84 = some (.ireturn, 85, 0, [1]) := rfl
set_option maxRecDepth 20000 in
theorem at_20_85 : am_at 20 85 = some (.iload_n 2, 86, 2, []) := rfl
set_option maxRecDepth 20000 in
theorem at_20_86 : am_at 20 86 = some (.iload_n 3, 87, 3, []) := rfl
set_option maxRecDepth 20000 in
theorem at_20_87 : am_at 20 87 = some (.iload 4, 89, 4, []) := rfl
set_option maxRecDepth 20000 in
theorem at_20_89 : am_at 20 89 = some (.invokestatic 216, 92, 21, [0, 3, 318, 319, 55]) := rfl
set_option maxRecDepth 20000 in
theorem at_20_92 : am_at 20 92 = some (.ireturn, 93, 0, [1]) := rfl
set_option maxRecDepth 20000 in
theorem at_20_93 : am_at 20 93 = some (.iload_n 2, 94, 2, []) := rfl
set_option maxRecDepth 20000 in
theorem at_20_94 : am_at 20 94 = some (.iconst 1, 95, 1, []) := rfl
set_option maxRecDepth 20000 in
theorem at_20_95 : am_at 20 95 = some (.if_icmp .lt 22, 98, 117, []) := rfl
set_option maxRecDepth 20000 in
theorem at_20_98 : am_at 20 98 = some (.iload_n 2, 99, 2, []) := rfl
set_option maxRecDepth 20000 in
theorem at_20_99 : am_at 20 99 = some (.bipush 6, 101, 6, []) := rfl
set_option maxRecDepth 20000 in
theorem at_20_101 : am_at 20 101 = some (.if_icmp .gt 16, 104, 117, []) := rfl
set_option maxRecDepth 20000 in
theorem at_20_104 : am_at 20 104 = some (.iload_n 3, 105, 3, []) := rfl
set_option maxRecDepth 20000 in
theorem at_20_105 : am_at 20 105 = some (.ifCond .ne 12, 108, 117, []) := rfl
set_option maxRecDepth 20000 in
theorem at_20_108 : am_at 20 108 = some (.iload 4, 110, 4, []) := rfl
set_option maxRecDepth 20000 in
theorem at_20_110 : am_at 20 110 = some (.ifCond .ne 7, 113, 117, []) := rfl
set_option maxRecDepth 20000 in
theorem at_20_113 : am_at 20 113 = some (.iconst 1, 114, 1, []) := rfl
set_option maxRecDepth 20000 in
theorem at_20_114 : am_at 20 114 = some (.goto 4, 117, 118, []) := rfl
set_option maxRecDepth 20000 in
theorem at_20_117 : am_at 20 117 = some (.iconst 0, 118, 0, []) := rfl
set_option maxRecDepth 20000 in
theorem at_20_118 : am_at 20 118 = some (.ireturn, 119, 0, [1]) := rfl
set_option maxRecDepth 20000 in
theorem at_20_119 : am_at 20 119 = some (.iload_n 2, 120, 2, []) := rfl
set_option maxRecDepth 20000 in
theorem at_20_120 : am_at 20 120 = some (.iconst 1, 121, 1, []) := rfl
set_option maxRecDepth 20000 in
theorem at_20_121 : am_at 20 121 = some (.if_icmp .lt 28, 124, 149, []) := rfl
set_option maxRecDepth 20000 in
theorem at_20_124 : am_at 20 124 = some (.iload_n 2, 125, 2, []) := rfl
set_option maxRecDepth 20000 in
theorem at_20_125 : am_at 20 125 = some (.bipush 6, 127, 6, []) := rfl
set_option maxRecDepth 20000 in
theorem at_20_127 : am_at 20 127 = some (.if_icmp .gt 22, 130, 149, []) := rfl
set_option maxRecDepth 20000 in
theorem at_20_130 : am_at 20 130 = some (.iload_n 3, 131, 3, []) := rfl
set_option maxRecDepth 20000 in
theorem at_20_131 : am_at 20 131 = some (.iconst 1, 132, 1, []) := rfl
set_option maxRecDepth 20000 in
theorem at_20_132 : am_at 20 132 = some (.if_icmp .lt 17, 135, 149, []) := rfl
set_option maxRecDepth 20000 in
theorem at_20_135 : am_at 20 135 = some (.iload_n 3, 136, 3, []) := rfl
set_option maxRecDepth 20000 in
theorem at_20_136 : am_at 20 136 = some (.iload_n 2, 137, 2, []) := rfl
set_option maxRecDepth 20000 in
theorem at_20_137 : am_at 20 137 = some (.if_icmp .gt 12, 140, 149, []) := rfl
set_option maxRecDepth 20000 in
theorem at_20_140 : am_at 20 140 = some (.iload 4, 142, 4, []) := rfl
set_option maxRecDepth 20000 in
theorem at_20_142 : am_at 20 142 = some (.ifCond .ne 7, 145, 149, []) := rfl
set_option maxRecDepth 20000 in
theorem at_20_145 : am_at 20 145 = some (.iconst 1, 146, 1, []) := rfl
set_option maxRecDepth 20000 in
theorem at_20_146 : am_at 20 146 = some (.goto 4, 149, 150, []) := rfl
set_option maxRecDepth 20000 in
theorem at_20_149 : am_at 20 149 = some (.iconst 0, 150, 0, []) := rfl
set_option maxRecDepth 20000 in
theorem at_20_150 : am_at 20 150 = some (.ireturn, 151, 0, [1]) := rfl
set_option maxRecDepth 20000 in
theorem at_20_151 : am_at 20 151 = some (.iload_n 2, 152, 2, []) := rfl
set_option maxRecDepth 20000 in
theorem at_20_152 : am_at 20 152 = some (.iconst 1, 153, 1, []) := rfl
set_option maxRecDepth 20000 in
theorem at_20_153 : am_at 20 153 = some (.if_icmp .lt 22, 156, 175, []) := rfl
set_option maxRecDepth 20000 in
theorem at_20_156 : am_at 20 156 = some (.iload_n 2, 157, 2, []) := rfl
set_option maxRecDepth 20000 in
theorem at_20_157 : am_at 20 157 = some (.bipush 50, 159, 50, []) := rfl
set_option maxRecDepth 20000 in
theorem at_20_159 : am_at 20 159 = some (.if_icmp .gt 16, 162, 175, []) := rfl
set_option maxRecDepth 20000 in
theorem at_20_162 : am_at 20 162 = some (.iload_n 3, 163, 3, []) := rfl
set_option maxRecDepth 20000 in
theorem at_20_163 : am_at 20 163 = some (.ifCond .ne 12, 166, 175, []) := rfl
set_option maxRecDepth 20000 in
theorem at_20_166 : am_at 20 166 = some (.iload 4, 168, 4, []) := rfl
set_option maxRecDepth 20000 in
theorem at_20_168 : am_at 20 168 = some (.ifCond .ne 7, 171, 175, []) := rfl
set_option maxRecDepth 20000 in
theorem at_20_171 : am_at 20 171 = some (.iconst 1, 172, 1, []) := rfl
set_option maxRecDepth 20000 in
theorem at_20_172 : am_at 20 172 = some (.goto 4, 175, 176, []) := rfl
set_option maxRecDepth 20000 in
theorem at_20_175 : am_at 20 175 = some (.iconst 0, 176, 0, []) := rfl
set_option maxRecDepth 20000 in
theorem at_20_176 : am_at 20 176 = some (.ireturn, 177, 0, [1]) := rfl
set_option maxRecDepth 20000 in
theorem at_20_177 : am_at 20 177 = some (.iload_n 2, 178, 2, []) := rfl
set_option maxRecDepth 20000 in
theorem at_20_178 : am_at 20 178 = some (.ifCond .ne 16, 181, 194, []) := rfl
set_option maxRecDepth 20000 in
theorem at_20_181 : am_at 20 181 = some (.iload_n 3, 182, 3, []) := rfl
set_option maxRecDepth 20000 in
theorem at_20_182 : am_at 20 182 = some (.ifCond .ne 12, 185, 194, []) := rfl
set_option maxRecDepth 20000 in
theorem at_20_185 : am_at 20 185 = some (.iload 4, 187, 4, []) := rfl
set_option maxRecDepth 20000 in
theorem at_20_187 : am_at 20 187 = some (.ifCond .ne 7, 190, 194, []) := rfl
set_option maxRecDepth 20000 in
theorem at_20_190 : am_at 20 190 = some (.iconst 1, 191, 1, []) := rfl
set_option maxRecDepth 20000 in
theorem at_20_191 : am_at 20 191 = some (.goto 4, 194, 195, []) := rfl
set_option maxRecDepth 20000 in
theorem at_20_194 : am_at 20 194 = some (.iconst 0, 195, 0, []) := rfl
set_option maxRecDepth 20000 in
theorem at_20_195 : am_at 20 195 = some (.ireturn, 196, 0, [1]) := rfl
set_option maxRecDepth 20000 in
theorem at_20_196 : am_at 20 196 = some (.iload_n 2, 197, 2, []) := rfl
set_option maxRecDepth 20000 in
theorem at_20_197 : am_at 20 197 = some (.ifCond .eq 26, 200, 223, []) := rfl
set_option maxRecDepth 20000 in
theorem at_20_200 : am_at 20 200 = some (.iload_n 2, 201, 2, []) := rfl
set_option maxRecDepth 20000 in
theorem at_20_201 : am_at 20 201 = some (.invokestatic 46, 204, 9, [0, 1, 225, 226, 55]) := rfl
set_option maxRecDepth 20000 in
theorem at_20_204 : am_at 20 204 = some (.ifCond .eq 19, 207, 223, []) := rfl
set_option maxRecDepth 20000 in
theorem at_20_207 : am_at 20 207 = some (.iload_n 3, 208, 3, []) := rfl
set_option maxRecDepth 20000 in
theorem at_20_208 : am_at 20 208 = some (.invokestatic 46, 211, 9, [0, 1, 225, 226, 55]) := rfl
set_option maxRecDepth 20000 in
theorem at_20_211 : am_at 20 211 = some (.ifCond .eq 12, 214, 223, []) := rfl
set_option maxRecDepth 20000 in
theorem at_20_214 : am_at 20 214 = some (.iload 4, 216, 4, []) := rfl
set_option maxRecDepth 20000 in
theorem at_20_216 : am_at 20 216 = some (.ifCond .ne 7, 219, 223, []) := rfl
set_option maxRecDepth 20000 in
theorem at_20_219 : am_at 20 219 = some (.iconst 1, 220, 1, []) := rfl
set_option maxRecDepth 20000 in
theorem at_20_220 : am_at 20 220 = some (.goto 4, 223, 224, []) := rfl
set_option maxRecDepth 20000 in
theorem at_20_223 : am_at 20 223 = some (.iconst 0, 224, 0, []) := rfl
set_option maxRecDepth 20000 in
theorem at_20_224 : am_at 20 224 = some (.ireturn, 225, 0, [1]) := rfl
set_option maxRecDepth 20000 in
theorem at_20_225 : am_at 20 225 = some (.iconst 0, 226, 0, []) := rfl
set_option maxRecDepth 20000 in
theorem at_20_226 : am_at 20 226 = some (.ireturn, 227, 0, [1]) := rfl
set_option maxRecDepth 20000 in
theorem at_21_0 : am_at 21 0 = some (.iload_n 0, 1, 0, []) := rfl
set_option maxRecDepth 20000 in
theorem at_21_1 : am_at 21 1 = some (.iconst 4, 2, 4, []) := rfl
set_option maxRecDepth 20000 in
theorem at_21_2 : am_at 21 2 = some (.if_icmp .ne 23, 5, 25, []) := rfl
set_option maxRecDepth 20000 in
theorem at_21_5 : am_at 21 5 = some (.iload_n 1, 6, 1, []) := rfl
set_option maxRecDepth 20000 in
theorem at_21_6 : am_at 21 6 = some (.ifCond .ne 17, 9, 23, []) := rfl
set_option maxRecDepth 20000 in
theorem at_21_9 : am_at 21 9 = some (.iload_n 2, 10, 2, []) := rfl
set_option maxRecDepth 20000 in
theorem at_21_10 : am_at 21 10 = some (.ifCond .lt 13, 13, 23, []) := rfl
set_option maxRecDepth 20000 in
theorem at_21_13 : am_at 21 13 = some (.iload_n 2, 14, 2, []) := rfl
set_option maxRecDepth 20000 in
theorem at_21_14 : am_at 21 14 = some (.bipush 8, 16, 8, []) := rfl
set_option maxRecDepth 20000 in
theorem at_21_16 : am_at 21 16 = some (.if_icmp .ge 7, 19, 23, []) := rfl
set_option maxRecDepth 20000 in
theorem at_21_19 : am_at 21 19 = some (.iconst 1, 20, 1, []) := rfl
set_option maxRecDepth 20000 in
theorem at_21_20 : am_at 21 20 = some (.goto 4, 23, 24, []) := rfl
set_option maxRecDepth 20000 in
theorem at_21_23 : am_at 21 23 = some (.iconst 0, 24, 0, []) := rfl
set_option maxRecDepth 20000 in
theorem at_21_24 : am_at 21 24 = some (.ireturn, 25, 0, [1]) := rfl
set_option maxRecDepth 20000 in
theorem at_21_25 : am_at 21 25 = some (.iload_n 0, 26, 0, []) := rfl
set_option maxRecDepth 20000 in
theorem at_21_26 : am_at 21 26 = some (.ifCond .lt 19, 29, 45, []) := rfl
set_option maxRecDepth 20000 in
theorem at_21_29 : am_at 21 29 = some (.iload_n 0, 30, 0, []) := rfl
set_option maxRecDepth 20000 in
theorem at_21_30 : am_at 21 30 = some (.iconst 3, 31, 3, []) := rfl
set_option maxRecDepth 20000 in
theorem at_21_31 : am_at 21 31 = some (.if_icmp .gt 14, 34, 45, []) := rfl
set_option maxRecDepth 20000 in
theorem at_21_34 : am_at 21 34 = some (.iload_n 1, 35, 1, []) := rfl
set_option maxRecDepth 20000 in
theorem at_21_35 : am_at 21 35 = some (.invokestatic 60, 38, 14, [0, 1, 244, 245, 55]) := rfl
set_option maxRecDepth 20000 in
theorem at_21_38 : am_at 21 38 = some (.ifCond .eq 7, 41, 45, []) := rfl
set_option maxRecDepth 20000 in
theorem at_21_41 : am_at 21 41 = some (.iconst 1, 42, 1, []) := rfl
set_option maxRecDepth 20000 in
theorem at_21_42 : am_at 21 42 = some (.goto 4, 45, 46, []) := rfl
set_option maxRecDepth 20000 in
theorem at_21_45 : am_at 21 45 = some (.iconst 0, 46, 0, []) := rfl
set_option maxRecDepth 20000 in
theorem at_21_46 : am_at 21 46 = some (.ireturn, 47, 0, [1]) := rfl
set_option maxRecDepth 20000 in
theorem at_22_0 : am_at 22 0 = some (.iload_n 0, 1, 0, []) := rfl
set_option maxRecDepth 20000 in
theorem at_22_1 : am_at 22 1 = some (.tableswitch 47 2 8 #[43, 43, 43, 45, 45, 43, 45], 44, 48, [44, 44, 44, 46, 46, 44, 46]) := rfl
set_option maxRecDepth 20000 in
theorem at_22_44 : am_at 22 44 = some (.iload_n 1, 45, 1, []) := rfl
set_option maxRecDepth 20000 in
theorem at_22_45 : am_at 22 45 = some (.ireturn, 46, 0, [0]) := rfl
set_option maxRecDepth 20000 in
theorem at_22_46 : am_at 22 46 = some (.iconst 1, 47, 1, []) := rfl
set_option maxRecDepth 20000 in
theorem at_22_47 : am_at 22 47 = some (.ireturn, 48, 0, [0]) := rfl
set_option maxRecDepth 20000 in
theorem at_22_48 : am_at 22 48 = some (.iconst 0, 49, 0, []) := rfl
set_option maxRecDepth 20000 in
theorem at_22_49 : am_at 22 49 = some (.ireturn, 50, 0, [0]) := rfl
set_option maxRecDepth 20000 in
theorem at_23_0 : am_at 23 0 = some (.aload_n 0, 1, 0, []) := rfl
set_option maxRecDepth 20000 in
theorem at_23_1 : am_at 23 1 = some (.getfield 33, 4, 0, [5, 0, 0, 260]) := rfl
set_option maxRecDepth 20000 in
theorem at_23_4 : am_at 23 4 = some (.aload_n 0, 5, 0, []) := rfl
set_option maxRecDepth 20000 in
theorem at_23_5 : am_at 23 5 = some (.getfield 37, 8, 0, [5, 1, 0, 264]) := rfl
set_option maxRecDepth 20000 in
theorem at_23_8 : am_at 23 8 = some (.iadd, 9, 0, []) := rfl
set_option maxRecDepth 20000 in
theorem at_23_9 : am_at 23 9 = some (.iload_n 1, 10, 1, []) := rfl
set_option maxRecDepth 20000 in
theorem at_23_10 : am_at 23 10 = some (.iadd, 11, 0, []) := rfl
set_option maxRecDepth 20000 in
theorem at_23_11 : am_at 23 11 = some (.bipush 30, 13, 30, []) := rfl
set_option maxRecDepth 20000 in
theorem at_23_13 : am_at 23 13 = some (.if_icmp .gt 7, 16, 20, []) := rfl
set_option maxRecDepth 20000 in
theorem at_23_16 : am_at 23 16 = some (.iconst 1, 17, 1, []) := rfl
set_option maxRecDepth 20000 in
theorem at_23_17 : am_at 23 17 = some (.goto 4, 20, 21, []) := rfl
set_option maxRecDepth 20000 in
theorem at_23_20 : am_at 23 20 = some (.iconst 0, 21, 0, []) := rfl
set_option maxRecDepth 20000 in
theorem at_23_21 : am_at 23 21 = some (.ireturn, 22, 0, [1]) := rfl
set_option maxRecDepth 20000 in
theorem at_24_0 : am_at 24 0 = some (.aload_n 0, 1, 0, []) := rfl
set_option maxRecDepth 20000 in
theorem at_24_1 : am_at 24 1 = some (.invokevirtual 40, 4, 25, [0, 0, 5, 332, 334, 2, 61]) := rfl
set_option maxRecDepth 20000 in
theorem at_24_4 : am_at 24 4 = some (.istore 5, 6, 5, []) := rfl
set_option maxRecDepth 20000 in
theorem at_24_6 : am_at 24 6 = some (.iload 5, 8, 5, []) := rfl
set_option maxRecDepth 20000 in
theorem at_24_8 : am_at 24 8 = some (.bipush (-4), 10, 4294967292, []) := rfl
set_option maxRecDepth 20000 in
theorem at_24_10 : am_at 24 10 = some (.if_icmp .eq 14, 13, 24, []) := rfl
set_option maxRecDepth 20000 in
theorem at_24_13 : am_at 24 13 = some (.aload_n 0, 14, 0, []) := rfl
set_option maxRecDepth 20000 in
theorem at_24_14 : am_at 24 14 = some (.getfield 30, 17, 0, [5, 8, 3, 286]) := rfl
set_option maxRecDepth 20000 in
theorem at_24_17 : am_at 24 17 = some (.iload 5, 19, 5, []) := rfl
set_option maxRecDepth 20000 in
theorem at_24_19 : am_at 24 19 = some (.dup2, 20, 0, []) := rfl
set_option maxRecDepth 20000 in
theorem at_24_20 : am_at 24 20 = some (.iaload, 21, 0, []) := rfl
set_option maxRecDepth 20000 in
theorem at_24_21 : am_at 24 21 = some (.iconst 1, 22, 1, []) := rfl
set_option maxRecDepth 20000 in
theorem at_24_22 : am_at 24 22 = some (.isub, 23, 0, []) := rfl
set_option maxRecDepth 20000 in
theorem at_24_23 : am_at 24 23 = some (.iastore, 24, 0, []) := rfl
set_option maxRecDepth 20000 in
theorem at_24_24 : am_at 24 24 = some (.aload_n 0, 25, 0, []) := rfl
set_option maxRecDepth 20000 in
theorem at_24_25 : am_at 24 25 = some (.getfield 9, 28, 0, [5, 2, 3, 266]) := rfl
set_option maxRecDepth 20000 in
theorem at_24_28 : am_at 24 28 = some (.aload_n 0, 29, 0, []) := rfl
set_option maxRecDepth 20000 in
theorem at_24_29 : am_at 24 29 = some (.getfield 33, 32, 0, [5, 0, 0, 260]) := rfl
set_option maxRecDepth 20000 in
theorem at_24_32 : am_at 24 32 = some (.iload_n 1, 33, 1, []) := rfl
set_option maxRecDepth 20000 in
theorem at_24_33 : am_at 24 33 = some (.iastore, 34, 0, []) := rfl
set_option maxRecDepth 20000 in
theorem at_24_34 : am_at 24 34 = some (.aload_n 0, 35, 0, []) := rfl
set_option maxRecDepth 20000 in
theorem at_24_35 : am_at 24 35 = some (.getfield 15, 38, 0, [5, 3, 3, 270]) := rfl
set_option maxRecDepth 20000 in
theorem at_24_38 : am_at 24 38 = some (.aload_n 0, 39, 0, []) := rfl
set_option maxRecDepth 20000 in
theorem at_24_39 : am_at 24 39 = some (.getfield 33, 42, 0, [5, 0, 0, 260]) := rfl
set_option maxRecDepth 20000 in
theorem at_24_42 : am_at 24 42 = some (.iload_n 2, 43, 2, []) := rfl
set_option maxRecDepth 20000 in
theorem at_24_43 : am_at 24 43 = some (.iastore, 44, 0, []) := rfl
set_option maxRecDepth 20000 in
theorem at_24_44 : am_at 24 44 = some (.aload_n 0, 45, 0, []) := rfl
set_option maxRecDepth 20000 in
theorem at_24_45 : am_at 24 45 = some (.getfield 18, 48, 0, [5, 4, 3, 274]) := rfl
set_option maxRecDepth 20000 in
theorem at_24_48 : am_at 24 48 = some (.aload_n 0, 49, 0, []) := rfl
set_option maxRecDepth 20000 in
theorem at_24_49 : am_at 24 49 = some (.getfield 33, 52, 0, [5, 0, 0, 260]) := rfl
set_option maxRecDepth 20000 in
theorem at_24_52 : am_at 24 52 = some (.iload_n 3, 53, 3, []) := rfl
set_option maxRecDepth 20000 in
theorem at_24_53 : am_at 24 53 = some (.iastore, 54, 0, []) := rfl
set_option maxRecDepth 20000 in
theorem at_24_54 : am_at 24 54 = some (.aload_n 0, 55, 0, []) := rfl
set_option maxRecDepth 20000 in
theorem at_24_55 : am_at 24 55 = some (.getfield 21, 58, 0, [5, 5, 3, 277]) := rfl
set_option maxRecDepth 20000 in
theorem at_24_58 : am_at 24 58 = some (.aload_n 0, 59, 0, []) := rfl
set_option maxRecDepth 20000 in
theorem at_24_59 : am_at 24 59 = some (.getfield 33, 62, 0, [5, 0, 0, 260]) := rfl
set_option maxRecDepth 20000 in
theorem at_24_62 : am_at 24 62 = some (.iload 4, 64, 4, []) := rfl
set_option maxRecDepth 20000 in
theorem at_24_64 : am_at 24 64 = some (.iastore, 65, 0, []) := rfl
set_option maxRecDepth 20000 in
theorem at_24_65 : am_at 24 65 = some (.aload_n 0, 66, 0, []) := rfl
set_option maxRecDepth 20000 in
theorem at_24_66 : am_at 24 66 = some (.getfield 24, 69, 0, [5, 6, 3, 280]) := rfl
set_option maxRecDepth 20000 in
theorem at_24_69 : am_at 24 69 = some (.aload_n 0, 70, 0, []) := rfl
set_option maxRecDepth 20000 in
theorem at_24_70 : am_at 24 70 = some (.getfield 33, 73, 0, [5, 0, 0, 260]) := rfl
set_option maxRecDepth 20000 in
theorem at_24_73 : am_at 24 73 = some (.iload 5, 75, 5, []) := rfl
set_option maxRecDepth 20000 in
theorem at_24_75 : am_at 24 75 = some (.iastore, 76, 0, []) := rfl
set_option maxRecDepth 20000 in
theorem at_24_76 : am_at 24 76 = some (.aload_n 0, 77, 0, []) := rfl
set_option maxRecDepth 20000 in
theorem at_24_77 : am_at 24 77 = some (.getfield 30, 80, 0, [5, 8, 3, 286]) := rfl
set_option maxRecDepth 20000 in
theorem at_24_80 : am_at 24 80 = some (.aload_n 0, 81, 0, []) := rfl
set_option maxRecDepth 20000 in
theorem at_24_81 : am_at 24 81 = some (.getfield 33, 84, 0, [5, 0, 0, 260]) := rfl
set_option maxRecDepth 20000 in
theorem at_24_84 : am_at 24 84 = some (.iload_n 1, 85, 1, []) := rfl
set_option maxRecDepth 20000 in
theorem at_24_85 : am_at 24 85 = some (.iload_n 2, 86, 2, []) := rfl
set_option maxRecDepth 20000 in
theorem at_24_86 : am_at 24 86 = some (.invokestatic 44, 89, 22, [1, 2, 336, 322, 55]) := rfl
set_option maxRecDepth 20000 in
theorem at_24_89 : am_at 24 89 = some (.iastore, 90, 0, []) := rfl
set_option maxRecDepth 20000 in
theorem at_24_90 : am_at 24 90 = some (.aload_n 0, 91, 0, []) := rfl
set_option maxRecDepth 20000 in
theorem at_24_91 : am_at 24 91 = some (.dup, 92, 0, []) := rfl
set_option maxRecDepth 20000 in
theorem at_24_92 : am_at 24 92 = some (.getfield 37, 95, 0, [5, 1, 0, 264]) := rfl
set_option maxRecDepth 20000 in
theorem at_24_95 : am_at 24 95 = some (.aload_n 0, 96, 0, []) := rfl
set_option maxRecDepth 20000 in
theorem at_24_96 : am_at 24 96 = some (.getfield 30, 99, 0, [5, 8, 3, 286]) := rfl
set_option maxRecDepth 20000 in
theorem at_24_99 : am_at 24 99 = some (.aload_n 0, 100, 0, []) := rfl
set_option maxRecDepth 20000 in
theorem at_24_100 : am_at 24 100 = some (.getfield 33, 103, 0, [5, 0, 0, 260]) := rfl
set_option maxRecDepth 20000 in
theorem at_24_103 : am_at 24 103 = some (.iaload, 104, 0, []) := rfl
set_option maxRecDepth 20000 in
theorem at_24_104 : am_at 24 104 = some (.iconst 1, 105, 1, []) := rfl
set_option maxRecDepth 20000 in
theorem at_24_105 : am_at 24 105 = some (.isub, 106, 0, []) := rfl
set_option maxRecDepth 20000 in
theorem at_24_106 : am_at 24 106 = some (.iadd, 107, 0, []) := rfl
set_option maxRecDepth 20000 in
theorem at_24_107 : am_at 24 107 = some (.putfield 37, 110, 0, [5, 1, 0, 264]) := rfl
set_option maxRecDepth 20000 in
theorem at_24_110 : am_at 24 110 = some (.aload_n 0, 111, 0, []) := rfl
set_option maxRecDepth 20000 in
theorem at_24_111 : am_at 24 111 = some (.dup, 112, 0, []) := rfl
set_option maxRecDepth 20000 in
theorem at_24_112 : am_at 24 112 = some (.getfield 33, 115, 0, [5, 0, 0, 260]) := rfl
set_option maxRecDepth 20000 in
theorem at_24_115 : am_at 24 115 = some (.iconst 1, 116, 1, []) := rfl
set_option maxRecDepth 20000 in
theorem at_24_116 : am_at 24 116 = some (.iadd, 117, 0, []) := rfl
set_option maxRecDepth 20000 in
theorem at_24_117 : am_at 24 117 = some (.putfield 33, 120, 0, [5, 0, 0, 260]) := rfl
set_option maxRecDepth 20000 in
theorem at_24_120 : am_at 24 120 = some (.return_, 121, 0, []) := rfl
set_option maxRecDepth 20000 in
theorem at_25_0 : am_at 25 0 = some (.aload_n 0, 1, 0, []) := rfl
set_option maxRecDepth 20000 in
theorem at_25_1 : am_at 25 1 = some (.getfield 33, 4, 0, [5, 0, 0, 260]) := rfl
set_option maxRecDepth 20000 in
theorem at_25_4 : am_at 25 4 = some (.iconst 1, 5, 1, []) := rfl
set_option maxRecDepth 20000 in
theorem at_25_5 : am_at 25 5 = some (.isub, 6, 0, []) := rfl
set_option maxRecDepth 20000 in
theorem at_25_6 : am_at 25 6 = some (.istore_n 1, 7, 1, []) := rfl
set_option maxRecDepth 20000 in
theorem at_25_7 : am_at 25 7 = some (.iload_n 1, 8, 1, []) := rfl
set_option maxRecDepth 20000 in
theorem at_25_8 : am_at 25 8 = some (.ifCond .lt 20, 11, 28, []) := rfl
set_option maxRecDepth 20000 in
theorem at_25_11 : am_at 25 11 = some (.aload_n 0, 12, 0, []) := rfl
set_option maxRecDepth 20000 in
theorem at_25_12 : am_at 25 12 = some (.getfield 30, 15, 0, [5, 8, 3, 286]) := rfl
set_option maxRecDepth 20000 in
theorem at_25_15 : am_at 25 15 = some (.iload_n 1, 16, 1, []) := rfl
set_option maxRecDepth 20000 in
theorem at_25_16 : am_at 25 16 = some (.iaload, 17, 0, []) := rfl
set_option maxRecDepth 20000 in
theorem at_25_17 : am_at 25 17 = some (.ifCond .le 5, 20, 22, []) := rfl
set_option maxRecDepth 20000 in
theorem at_25_20 : am_at 25 20 = some (.iload_n 1, 21, 1, []) := rfl
set_option maxRecDepth 20000 in
theorem at_25_21 : am_at 25 21 = some (.ireturn, 22, 0, [0]) := rfl
set_option maxRecDepth 20000 in
theorem at_25_22 : am_at 25 22 = some (.iinc 1 (-1), 25, 1, []) := rfl
set_option maxRecDepth 20000 in
theorem at_25_25 : am_at 25 25 = some (.goto (-18), 28, 7, []) := rfl
set_option maxRecDepth 20000 in
theorem at_25_28 : am_at 25 28 = some (.bipush (-4), 30, 4294967292, []) := rfl
set_option maxRecDepth 20000 in
theorem at_25_30 : am_at 25 30 = some (.ireturn, 31, 0, [0]) := rfl
set_option maxRecDepth 20000 in
theorem at_26_0 : am_at 26 0 = some (.iconst 0, 1, 0, []) := rfl
set_option maxRecDepth 20000 in
theorem at_26_1 : am_at 26 1 = some (.istore_n 1, 2, 1, []) := rfl
set_option maxRecDepth 20000 in
theorem at_26_2 : am_at 26 2 = some (.iload_n 1, 3, 1, []) := rfl
set_option maxRecDepth 20000 in
theorem at_26_3 : am_at 26 3 = some (.aload_n 0, 4, 0, []) := rfl
set_option maxRecDepth 20000 in
theorem at_26_4 : am_at 26 4 = some (.getfield 33, 7, 0, [5, 0, 0, 260]) := rfl
set_option maxRecDepth 20000 in
theorem at_26_7 : am_at 26 7 = some (.if_icmp .ge 16, 10, 23, []) := rfl
set_option maxRecDepth 20000 in
theorem at_26_10 : am_at 26 10 = some (.aload_n 0, 11, 0, []) := rfl
set_option maxRecDepth 20000 in
theorem at_26_11 : am_at 26 11 = some (.getfield 27, 14, 0, [5, 7, 3, 283]) := rfl
set_option maxRecDepth 20000 in
theorem at_26_14 : am_at 26 14 = some (.iload_n 1, 15, 1, []) := rfl
set_option maxRecDepth 20000 in
theorem at_26_15 : am_at 26 15 = some (.iconst 1, 16, 1, []) := rfl
set_option maxRecDepth 20000 in
theorem at_26_16 : am_at 26 16 = some (.iastore, 17, 0, []) := rfl
set_option maxRecDepth 20000 in
theorem at_26_17 : am_at 26 17 = some (.iinc 1 1, 20, 1, []) := rfl
set_option maxRecDepth 20000 in
theorem at_26_20 : am_at 26 20 = some (.goto (-18), 23, 2, []) := rfl
set_option maxRecDepth 20000 in
theorem at_26_23 : am_at 26 23 = some (.aload_n 0, 24, 0, []) := rfl
set_option maxRecDepth 20000 in
theorem at_26_24 : am_at 26 24 = some (.getfield 33, 27, 0, [5, 0, 0, 260]) := rfl
set_option maxRecDepth 20000 in
theorem at_26_27 : am_at 26 27 = some (.iconst 1, 28, 1, []) := rfl
set_option maxRecDepth 20000 in
theorem at_26_28 : am_at 26 28 = some (.isub, 29, 0, []) := rfl
set_option maxRecDepth 20000 in
theorem at_26_29 : am_at 26 29 = some (.istore_n 1, 30, 1, []) := rfl
set_option maxRecDepth 20000 in
theorem at_26_30 : am_at 26 30 = some (.iload_n 1, 31, 1, []) := rfl
set_option maxRecDepth 20000 in
theorem at_26_31 : am_at 26 31 = some (.ifCond .lt 40, 34, 71, []) := rfl
set_option maxRecDepth 20000 in
theorem at_26_34 : am_at 26 34 = some (.aload_n 0, 35, 0, []) := rfl
set_option maxRecDepth 20000 in
theorem at_26_35 : am_at 26 35 = some (.getfield 24, 38, 0, [5, 6, 3, 280]) := rfl
set_option maxRecDepth 20000 in
theorem at_26_38 : am_at 26 38 = some (.iload_n 1, 39, 1, []) := rfl
set_option maxRecDepth 20000 in
theorem at_26_39 : am_at 26 39 = some (.iaload, 40, 0, []) := rfl
set_option maxRecDepth 20000 in
theorem at_26_40 : am_at 26 40 = some (.bipush (-4), 42, 4294967292, []) := rfl
set_option maxRecDepth 20000 in
theorem at_26_42 : am_at 26 42 = some (.if_icmp .eq 23, 45, 65, []) := rfl
set_option maxRecDepth 20000 in
theorem at_26_45 : am_at 26 45 = some (.aload_n 0, 46, 0, []) := rfl
set_option maxRecDepth 20000 in
theorem at_26_46 : am_at 26 46 = some (.getfield 27, 49, 0, [5, 7, 3, 283]) := rfl
set_option maxRecDepth 20000 in
theorem at_26_49 : am_at 26 49 = some (.aload_n 0, 50, 0, []) := rfl
set_option maxRecDepth 20000 in
theorem at_26_50 : am_at 26 50 = some (.getfield 24, 53, 0, [5, 6, 3, 280]) := rfl
set_option maxRecDepth 20000 in
theorem at_26_53 : am_at 26 53 = some (.iload_n 1, 54, 1, []) := rfl
set_option maxRecDepth 20000 in
theorem at_26_54 : am_at 26 54 = some (.iaload, 55, 0, []) := rfl
set_option maxRecDepth 20000 in
theorem at_26_55 : am_at 26 55 = some (.dup2, 56, 0, []) := rfl
set_option maxRecDepth 20000 in
theorem at_26_56 : am_at 26 56 = some (.iaload, 57, 0, []) := rfl
set_option maxRecDepth 20000 in
theorem at_26_57 : am_at 26 57 = some (.aload_n 0, 58, 0, []) := rfl
set_option maxRecDepth 20000 in
theorem at_26_58 : am_at 26 58 = some (.getfield 27, 61, 0, [5, 7, 3, 283]) := rfl
set_option maxRecDepth 20000 in
theorem at_26_61 : am_at 26 61 = some (.iload_n 1, 62, 1, []) := rfl
set_option maxRecDepth 20000 in
theorem at_26_62 : am_at 26 62 = some (.iaload, 63, 0, []) := rfl
set_option maxRecDepth 20000 in
theorem at_26_63 : am_at 26 63 = some (.iadd, 64, 0, []) := rfl
set_option maxRecDepth 20000 in
theorem at_26_64 : am_at 26 64 = some (.iastore, 65, 0, []) := rfl
set_option maxRecDepth 20000 in
theorem at_26_65 : am_at 26 65 = some (.iinc 1 (-1), 68, 1, []) := rfl
set_option maxRecDepth 20000 in
theorem at_26_68 : am_at 26 68 = some (.goto (-38), 71, 30, []) := rfl
set_option maxRecDepth 20000 in
theorem at_26_71 : am_at 26 71 = some (.return_, 72, 0, []) := rfl
set_option maxRecDepth 20000 in
theorem at_27_0 : am_at 27 0 = some (.aload_n 0, 1, 0, []) := rfl
set_option maxRecDepth 20000 in
theorem at_27_1 : am_at 27 1 = some (.getfield 67, 4, 0, [7, 5, 3, 195]) := rfl
set_option maxRecDepth 20000 in
theorem at_27_4 : am_at 27 4 = some (.ifnonnull 6, 7, 10, []) := rfl
set_option maxRecDepth 20000 in
theorem at_27_7 : am_at 27 7 = some (.bipush (-2), 9, 4294967294, []) := rfl
set_option maxRecDepth 20000 in
theorem at_27_9 : am_at 27 9 = some (.ireturn, 10, 0, [0]) := rfl
set_option maxRecDepth 20000 in
theorem at_27_10 : am_at 27 10 = some (.aload_n 0, 11, 0, []) := rfl
set_option maxRecDepth 20000 in
theorem at_27_11 : am_at 27 11 = some (.getfield 67, 14, 0, [7, 5, 3, 195]) := rfl
set_option maxRecDepth 20000 in
theorem at_27_14 : am_at 27 14 = some (.getfield 97, 17, 0, [5, 0, 0, 263]) := rfl
set_option maxRecDepth 20000 in
theorem at_27_17 : am_at 27 17 = some (.istore_n 1, 18, 1, []) := rfl
set_option maxRecDepth 20000 in
theorem at_27_18 : am_at 27 18 = some (.aload_n 0, 19, 0, []) := rfl
set_option maxRecDepth 20000 in
theorem at_27_19 : am_at 27 19 = some (.aconst_null, 20, 0, []) := rfl
set_option maxRecDepth 20000 in
theorem at_27_20 : am_at 27 20 = some (.putfield 67, 23, 0, [7, 5, 3, 195]) := rfl
set_option maxRecDepth 20000 in
theorem at_27_23 : am_at 27 23 = some (.iload_n 1, 24, 1, []) := rfl
set_option maxRecDepth 20000 in
theorem at_27_24 : am_at 27 24 = some (.ireturn, 25, 0, [0]) := rfl
set_option maxRecDepth 20000 in
theorem at_28_0 : am_at 28 0 = some (.aload_n 0, 1, 0, []) := rfl
set_option maxRecDepth 20000 in
theorem at_28_1 : am_at 28 1 = some (.getfield 100, 4, 0, [7, 4, 0, 194]) := rfl
set_option maxRecDepth 20000 in
theorem at_28_4 : am_at 28 4 = some (.bipush 6, 6, 6, []) := rfl
set_option maxRecDepth 20000 in
theorem at_28_6 : am_at 28 6 = some (.if_icmp .lt 6, 9, 12, []) := rfl
set_option maxRecDepth 20000 in
theorem at_28_9 : am_at 28 9 = some (.bipush (-3), 11, 4294967293, []) := rfl
set_option maxRecDepth 20000 in
theorem at_28_11 : am_at 28 11 = some (.ireturn, 12, 0, [0]) := rfl
set_option maxRecDepth 20000 in
theorem at_28_12 : am_at 28 12 = some (.aload_n 0, 13, 0, []) := rfl
set_option maxRecDepth 20000 in
theorem at_28_13 : am_at 28 13 = some (.getfield 24, 16, 0, [7, 2, 3, 192]) := rfl
set_option maxRecDepth 20000 in
theorem at_28_16 : am_at 28 16 = some (.aload_n 0, 17, 0, []) := rfl
set_option maxRecDepth 20000 in
theorem at_28_17 : am_at 28 17 = some (.getfield 100, 20, 0, [7, 4, 0, 194]) := rfl
set_option maxRecDepth 20000 in
theorem at_28_20 : am_at 28 20 = some (.new 22, 23, 1, [188, 349, 62]) := rfl
set_option maxRecDepth 20000 in
theorem at_28_23 : am_at 28 23 = some (.dup, 24, 0, []) := rfl
set_option maxRecDepth 20000 in
theorem at_28_24 : am_at 28 24 = some (.invokespecial 103, 27, 29, [0, 0, 1, 350, 351, 62]) := rfl
set_option maxRecDepth 20000 in
theorem at_28_27 : am_at 28 27 = some (.aastore, 28, 0, []) := rfl
set_option maxRecDepth 20000 in
theorem at_28_28 : am_at 28 28 = some (.aload_n 0, 29, 0, []) := rfl
set_option maxRecDepth 20000 in
theorem at_28_29 : am_at 28 29 = some (.dup, 30, 0, []) := rfl
set_option maxRecDepth 20000 in
theorem at_28_30 : am_at 28 30 = some (.getfield 100, 33, 0, [7, 4, 0, 194]) := rfl
set_option maxRecDepth 20000 in
theorem at_28_33 : am_at 28 33 = some (.iconst 1, 34, 1, []) := rfl
set_option maxRecDepth 20000 in
theorem at_28_34 : am_at 28 34 = some (.iadd, 35, 0, []) := rfl
set_option maxRecDepth 20000 in
theorem at_28_35 : am_at 28 35 = some (.putfield 100, 38, 0, [7, 4, 0, 194]) := rfl
set_option maxRecDepth 20000 in
theorem at_28_38 : am_at 28 38 = some (.aload_n 0, 39, 0, []) := rfl
set_option maxRecDepth 20000 in
theorem at_28_39 : am_at 28 39 = some (.getfield 100, 42, 0, [7, 4, 0, 194]) := rfl
set_option maxRecDepth 20000 in
theorem at_28_42 : am_at 28 42 = some (.iconst 1, 43, 1, []) := rfl
set_option maxRecDepth 20000 in
theorem at_28_43 : am_at 28 43 = some (.isub, 44, 0, []) := rfl
set_option maxRecDepth 20000 in
theorem at_28_44 : am_at 28 44 = some (.ireturn, 45, 0, [0]) := rfl
set_option maxRecDepth 20000 in
theorem at_29_0 : am_at 29 0 = some (.aload_n 0, 1, 0, []) := rfl
set_option maxRecDepth 20000 in
theorem at_29_1 : am_at 29 1 = some (.invokespecial 3, 4, 1000, [353, 70, 71]) := rfl
set_option maxRecDepth 20000 in
theorem at_29_4 : am_at 29 4 = some (.aload_n 0, 5, 0, []) := rfl
set_option maxRecDepth 20000 in
theorem at_29_5 : am_at 29 5 = some (.bipush 30, 7, 30, []) := rfl
set_option maxRecDepth 20000 in
theorem at_29_7 : am_at 29 7 = some (.newarray .int, 9, 201, [100]) := rfl
set_option maxRecDepth 20000 in
theorem at_29_9 : am_at 29 9 = some (.putfield 9, 12, 0, [1, 1, 3, 357]) := rfl
set_option maxRecDepth 20000 in
theorem at_29_12 : am_at 29 12 = some (.aload_n 0, 13, 0, []) := rfl
set_option maxRecDepth 20000 in
theorem at_29_13 : am_at 29 13 = some (.bipush 30, 15, 30, []) := rfl
set_option maxRecDepth 20000 in
theorem at_29_15 : am_at 29 15 = some (.newarray .int, 17, 202, [100]) := rfl
set_option maxRecDepth 20000 in
theorem at_29_17 : am_at 29 17 = some (.putfield 15, 20, 0, [1, 2, 3, 360]) := rfl
set_option maxRecDepth 20000 in
theorem at_29_20 : am_at 29 20 = some (.aload_n 0, 21, 0, []) := rfl
set_option maxRecDepth 20000 in
theorem at_29_21 : am_at 29 21 = some (.bipush 30, 23, 30, []) := rfl
set_option maxRecDepth 20000 in
theorem at_29_23 : am_at 29 23 = some (.newarray .int, 25, 203, [100]) := rfl
set_option maxRecDepth 20000 in
theorem at_29_25 : am_at 29 25 = some (.putfield 18, 28, 0, [1, 3, 3, 362]) := rfl
set_option maxRecDepth 20000 in
theorem at_29_28 : am_at 29 28 = some (.aload_n 0, 29, 0, []) := rfl
set_option maxRecDepth 20000 in
theorem at_29_29 : am_at 29 29 = some (.bipush 30, 31, 30, []) := rfl
set_option maxRecDepth 20000 in
theorem at_29_31 : am_at 29 31 = some (.newarray .int, 33, 204, [100]) := rfl
set_option maxRecDepth 20000 in
theorem at_29_33 : am_at 29 33 = some (.putfield 21, 36, 0, [1, 4, 3, 365]) := rfl
set_option maxRecDepth 20000 in
theorem at_29_36 : am_at 29 36 = some (.aload_n 0, 37, 0, []) := rfl
set_option maxRecDepth 20000 in
theorem at_29_37 : am_at 29 37 = some (.bipush 30, 39, 30, []) := rfl
set_option maxRecDepth 20000 in
theorem at_29_39 : am_at 29 39 = some (.newarray .int, 41, 205, [100]) := rfl
set_option maxRecDepth 20000 in
theorem at_29_41 : am_at 29 41 = some (.putfield 24, 44, 0, [1, 5, 3, 367]) := rfl
set_option maxRecDepth 20000 in
theorem at_29_44 : am_at 29 44 = some (.aload_n 0, 45, 0, []) := rfl
set_option maxRecDepth 20000 in
theorem at_29_45 : am_at 29 45 = some (.sipush 360, 48, 360, []) := rfl
set_option maxRecDepth 20000 in
theorem at_29_48 : am_at 29 48 = some (.newarray .int, 50, 206, [100]) := rfl
set_option maxRecDepth 20000 in
theorem at_29_50 : am_at 29 50 = some (.putfield 27, 53, 0, [1, 6, 3, 369]) := rfl
set_option maxRecDepth 20000 in
theorem at_29_53 : am_at 29 53 = some (.aload_n 0, 54, 0, []) := rfl
set_option maxRecDepth 20000 in
theorem at_29_54 : am_at 29 54 = some (.bipush 30, 56, 30, []) := rfl
set_option maxRecDepth 20000 in
theorem at_29_56 : am_at 29 56 = some (.newarray .int, 58, 207, [100]) := rfl
set_option maxRecDepth 20000 in
theorem at_29_58 : am_at 29 58 = some (.putfield 30, 61, 0, [1, 7, 3, 370]) := rfl
set_option maxRecDepth 20000 in
theorem at_29_61 : am_at 29 61 = some (.aload_n 0, 62, 0, []) := rfl
set_option maxRecDepth 20000 in
theorem at_29_62 : am_at 29 62 = some (.bipush 30, 64, 30, []) := rfl
set_option maxRecDepth 20000 in
theorem at_29_64 : am_at 29 64 = some (.newarray .boolean, 66, 208, [185]) := rfl
set_option maxRecDepth 20000 in
theorem at_29_66 : am_at 29 66 = some (.putfield 33, 69, 0, [1, 8, 3, 372]) := rfl
set_option maxRecDepth 20000 in
theorem at_29_69 : am_at 29 69 = some (.aload_n 0, 70, 0, []) := rfl
set_option maxRecDepth 20000 in
theorem at_29_70 : am_at 29 70 = some (.bipush 9, 72, 9, []) := rfl
set_option maxRecDepth 20000 in
theorem at_29_72 : am_at 29 72 = some (.newarray .int, 74, 209, [100]) := rfl
set_option maxRecDepth 20000 in
theorem at_29_74 : am_at 29 74 = some (.putfield 37, 77, 0, [1, 9, 3, 374]) := rfl
set_option maxRecDepth 20000 in
theorem at_29_77 : am_at 29 77 = some (.aload_n 0, 78, 0, []) := rfl
set_option maxRecDepth 20000 in
theorem at_29_78 : am_at 29 78 = some (.getfield 37, 81, 0, [1, 9, 3, 374]) := rfl
set_option maxRecDepth 20000 in
theorem at_29_81 : am_at 29 81 = some (.bipush 6, 83, 6, []) := rfl
set_option maxRecDepth 20000 in
theorem at_29_83 : am_at 29 83 = some (.bipush (-4), 85, 4294967292, []) := rfl
set_option maxRecDepth 20000 in
theorem at_29_85 : am_at 29 85 = some (.iastore, 86, 0, []) := rfl
set_option maxRecDepth 20000 in
theorem at_29_86 : am_at 29 86 = some (.aload_n 0, 87, 0, []) := rfl
set_option maxRecDepth 20000 in
theorem at_29_87 : am_at 29 87 = some (.getfield 37, 90, 0, [1, 9, 3, 374]) := rfl
set_option maxRecDepth 20000 in
theorem at_29_90 : am_at 29 90 = some (.bipush 8, 92, 8, []) := rfl
set_option maxRecDepth 20000 in
theorem at_29_92 : am_at 29 92 = some (.bipush (-4), 94, 4294967292, []) := rfl
set_option maxRecDepth 20000 in
theorem at_29_94 : am_at 29 94 = some (.iastore, 95, 0, []) := rfl
set_option maxRecDepth 20000 in
theorem at_29_95 : am_at 29 95 = some (.return_, 96, 0, []) := rfl
set_option maxRecDepth 20000 in
theorem at_30_0 : am_at 30 0 = some (.aload_n 0, 1, 0, []) := rfl
set_option maxRecDepth 20000 in
theorem at_30_1 : am_at 30 1 = some (.iload_n 1, 2, 1, []) := rfl
set_option maxRecDepth 20000 in
theorem at_30_2 : am_at 30 2 = some (.invokevirtual 104, 5, 31, [0, 1, 7, 402, 404, 3, 55]) := rfl
set_option maxRecDepth 20000 in
theorem at_30_5 : am_at 30 5 = some (.astore_n 3, 6, 3, []) := rfl
set_option maxRecDepth 20000 in
theorem at_30_6 : am_at 30 6 = some (.aload_n 0, 7, 0, []) := rfl
set_option maxRecDepth 20000 in
theorem at_30_7 : am_at 30 7 = some (.iload_n 2, 8, 2, []) := rfl
set_option maxRecDepth 20000 in
theorem at_30_8 : am_at 30 8 = some (.invokevirtual 108, 11, 32, [0, 1, 7, 406, 408, 4, 55]) := rfl
set_option maxRecDepth 20000 in
theorem at_30_11 : am_at 30 11 = some (.astore 4, 13, 4, []) := rfl
set_option maxRecDepth 20000 in
theorem at_30_13 : am_at 30 13 = some (.aload_n 3, 14, 3, []) := rfl
set_option maxRecDepth 20000 in
theorem at_30_14 : am_at 30 14 = some (.ifnull 14, 17, 28, []) := rfl
set_option maxRecDepth 20000 in
theorem at_30_17 : am_at 30 17 = some (.iload_n 2, 18, 2, []) := rfl
set_option maxRecDepth 20000 in
theorem at_30_18 : am_at 30 18 = some (.bipush (-4), 20, 4294967292, []) := rfl
set_option maxRecDepth 20000 in
theorem at_30_20 : am_at 30 20 = some (.if_icmp .eq 10, 23, 30, []) := rfl
set_option maxRecDepth 20000 in
theorem at_30_23 : am_at 30 23 = some (.aload 4, 25, 4, []) := rfl
set_option maxRecDepth 20000 in
theorem at_30_25 : am_at 30 25 = some (.ifnonnull 5, 28, 30, []) := rfl
set_option maxRecDepth 20000 in
theorem at_30_28 : am_at 30 28 = some (.iconst (-1), 29, 4294967295, []) := rfl
set_option maxRecDepth 20000 in
theorem at_30_29 : am_at 30 29 = some (.ireturn, 30, 0, [0]) := rfl
set_option maxRecDepth 20000 in
theorem at_30_30 : am_at 30 30 = some (.aload_n 0, 31, 0, []) := rfl
set_option maxRecDepth 20000 in
theorem at_30_31 : am_at 30 31 = some (.getfield 10, 34, 0, [7, 0, 3, 190]) := rfl
set_option maxRecDepth 20000 in
theorem at_30_34 : am_at 30 34 = some (.aload_n 3, 35, 3, []) := rfl
set_option maxRecDepth 20000 in
theorem at_30_35 : am_at 30 35 = some (.invokevirtual 112, 38, 33, [0, 1, 3, 410, 411, 412, 56]) := rfl
set_option maxRecDepth 20000 in
theorem at_30_38 : am_at 30 38 = some (.istore 5, 40, 5, []) := rfl
set_option maxRecDepth 20000 in
theorem at_30_40 : am_at 30 40 = some (.aload_n 3, 41, 3, []) := rfl
set_option maxRecDepth 20000 in
theorem at_30_41 : am_at 30 41 = some (.aload 4, 43, 4, []) := rfl
set_option maxRecDepth 20000 in
theorem at_30_43 : am_at 30 43 = some (.iload_n 2, 44, 2, []) := rfl
set_option maxRecDepth 20000 in
theorem at_30_44 : am_at 30 44 = some (.invokevirtual 116, 47, 38, [0, 2, 1, 432, 433, 434, 62]) := rfl
set_option maxRecDepth 20000 in
theorem at_30_47 : am_at 30 47 = some (.iload 5, 49, 5, []) := rfl
set_option maxRecDepth 20000 in
theorem at_30_49 : am_at 30 49 = some (.ireturn, 50, 0, [0]) := rfl
set_option maxRecDepth 20000 in
theorem at_31_0 : am_at 31 0 = some (.iload_n 1, 1, 1, []) := rfl
set_option maxRecDepth 20000 in
theorem at_31_1 : am_at 31 1 = some (.ifCond .lt 20, 4, 21, []) := rfl
set_option maxRecDepth 20000 in
theorem at_31_4 : am_at 31 4 = some (.iload_n 1, 5, 1, []) := rfl
set_option maxRecDepth 20000 in
theorem at_31_5 : am_at 31 5 = some (.aload_n 0, 6, 0, []) := rfl
set_option maxRecDepth 20000 in
theorem at_31_6 : am_at 31 6 = some (.getfield 100, 9, 0, [7, 4, 0, 194]) := rfl
set_option maxRecDepth 20000 in
theorem at_31_9 : am_at 31 9 = some (.if_icmp .ge 12, 12, 21, []) := rfl
set_option maxRecDepth 20000 in
theorem at_31_12 : am_at 31 12 = some (.aload_n 0, 13, 0, []) := rfl
set_option maxRecDepth 20000 in
theorem at_31_13 : am_at 31 13 = some (.getfield 24, 16, 0, [7, 2, 3, 192]) := rfl
set_option maxRecDepth 20000 in
theorem at_31_16 : am_at 31 16 = some (.iload_n 1, 17, 1, []) := rfl
set_option maxRecDepth 20000 in
theorem at_31_17 : am_at 31 17 = some (.aaload, 18, 0, []) := rfl
set_option maxRecDepth 20000 in
theorem at_31_18 : am_at 31 18 = some (.goto 4, 21, 22, []) := rfl
set_option maxRecDepth 20000 in
theorem at_31_21 : am_at 31 21 = some (.aconst_null, 22, 0, []) := rfl
set_option maxRecDepth 20000 in
theorem at_31_22 : am_at 31 22 = some (.areturn, 23, 0, []) := rfl
set_option maxRecDepth 20000 in
theorem at_32_0 : am_at 32 0 = some (.iload_n 1, 1, 1, []) := rfl
set_option maxRecDepth 20000 in
theorem at_32_1 : am_at 32 1 = some (.ifCond .lt 20, 4, 21, []) := rfl
set_option maxRecDepth 20000 in
theorem at_32_4 : am_at 32 4 = some (.iload_n 1, 5, 1, []) := rfl
set_option maxRecDepth 20000 in
theorem at_32_5 : am_at 32 5 = some (.aload_n 0, 6, 0, []) := rfl
set_option maxRecDepth 20000 in
theorem at_32_6 : am_at 32 6 = some (.getfield 71, 9, 0, [7, 3, 0, 193]) := rfl
set_option maxRecDepth 20000 in
theorem at_32_9 : am_at 32 9 = some (.if_icmp .ge 12, 12, 21, []) := rfl
set_option maxRecDepth 20000 in
theorem at_32_12 : am_at 32 12 = some (.aload_n 0, 13, 0, []) := rfl
set_option maxRecDepth 20000 in
theorem at_32_13 : am_at 32 13 = some (.getfield 18, 16, 0, [7, 1, 3, 191]) := rfl
set_option maxRecDepth 20000 in
theorem at_32_16 : am_at 32 16 = some (.iload_n 1, 17, 1, []) := rfl
set_option maxRecDepth 20000 in
theorem at_32_17 : am_at 32 17 = some (.aaload, 18, 0, []) := rfl
set_option maxRecDepth 20000 in
theorem at_32_18 : am_at 32 18 = some (.goto 4, 21, 22, []) := rfl
set_option maxRecDepth 20000 in
theorem at_32_21 : am_at 32 21 = some (.aconst_null, 22, 0, []) := rfl
set_option maxRecDepth 20000 in
theorem at_32_22 : am_at 32 22 = some (.areturn, 23, 0, []) := rfl
set_option maxRecDepth 20000 in
theorem at_33_0 : am_at 33 0 = some (.iconst 0, 1, 0, []) := rfl
set_option maxRecDepth 20000 in
theorem at_33_1 : am_at 33 1 = some (.istore_n 2, 2, 2, []) := rfl
set_option maxRecDepth 20000 in
theorem at_33_2 : am_at 33 2 = some (.aload_n 1, 3, 1, []) := rfl
set_option maxRecDepth 20000 in
theorem at_33_3 : am_at 33 3 = some (.getfield 36, 6, 0, [1, 0, 3, 354]) := rfl
set_option maxRecDepth 20000 in
theorem at_33_6 : am_at 33 6 = some (.ifnonnull 7, 9, 13, []) := rfl
set_option maxRecDepth 20000 in
theorem at_33_9 : am_at 33 9 = some (.iconst 0, 10, 0, []) := rfl
set_option maxRecDepth 20000 in
theorem at_33_10 : am_at 33 10 = some (.goto 10, 13, 20, []) := rfl
set_option maxRecDepth 20000 in
theorem at_33_13 : am_at 33 13 = some (.aload_n 1, 14, 1, []) := rfl
set_option maxRecDepth 20000 in
theorem at_33_14 : am_at 33 14 = some (.getfield 36, 17, 0, [1, 0, 3, 354]) := rfl
set_option maxRecDepth 20000 in
theorem at_33_17 : am_at 33 17 = some (.getfield 57, 20, 0, [5, 0, 0, 262]) := rfl
set_option maxRecDepth 20000 in
theorem at_33_20 : am_at 33 20 = some (.istore_n 3, 21, 3, []) := rfl
set_option maxRecDepth 20000 in
theorem at_33_21 : am_at 33 21 = some (.iconst 0, 22, 0, []) := rfl
set_option maxRecDepth 20000 in
theorem at_33_22 : am_at 33 22 = some (.istore 4, 24, 4, []) := rfl
set_option maxRecDepth 20000 in
theorem at_33_24 : am_at 33 24 = some (.iload 4, 26, 4, []) := rfl
set_option maxRecDepth 20000 in
theorem at_33_26 : am_at 33 26 = some (.iload_n 3, 27, 3, []) := rfl
set_option maxRecDepth 20000 in
theorem at_33_27 : am_at 33 27 = some (.if_icmp .ge 29, 30, 56, []) := rfl
set_option maxRecDepth 20000 in
theorem at_33_30 : am_at 33 30 = some (.aload_n 1, 31, 1, []) := rfl
set_option maxRecDepth 20000 in
theorem at_33_31 : am_at 33 31 = some (.getfield 62, 34, 0, [1, 3, 3, 363]) := rfl
set_option maxRecDepth 20000 in
theorem at_33_34 : am_at 33 34 = some (.iload 4, 36, 4, []) := rfl
set_option maxRecDepth 20000 in
theorem at_33_36 : am_at 33 36 = some (.iaload, 37, 0, []) := rfl
set_option maxRecDepth 20000 in
theorem at_33_37 : am_at 33 37 = some (.ifCond .le 13, 40, 50, []) := rfl
set_option maxRecDepth 20000 in
theorem at_33_40 : am_at 33 40 = some (.aload_n 0, 41, 0, []) := rfl
set_option maxRecDepth 20000 in
theorem at_33_41 : am_at 33 41 = some (.aload_n 1, 42, 1, []) := rfl
set_option maxRecDepth 20000 in
theorem at_33_42 : am_at 33 42 = some (.iload 4, 44, 4, []) := rfl
set_option maxRecDepth 20000 in
theorem at_33_44 : am_at 33 44 = some (.invokevirtual 66, 47, 34, [0, 2, 3, 414, 416, 5, 56]) := rfl
set_option maxRecDepth 20000 in
theorem at_33_47 : am_at 33 47 = some (.iinc 2 1, 50, 2, []) := rfl
set_option maxRecDepth 20000 in
theorem at_33_50 : am_at 33 50 = some (.iinc 4 1, 53, 4, []) := rfl
set_option maxRecDepth 20000 in
theorem at_33_53 : am_at 33 53 = some (.goto (-29), 56, 24, []) := rfl
set_option maxRecDepth 20000 in
theorem at_33_56 : am_at 33 56 = some (.iload_n 2, 57, 2, []) := rfl
set_option maxRecDepth 20000 in
theorem at_33_57 : am_at 33 57 = some (.ireturn, 58, 0, [0]) := rfl
set_option maxRecDepth 20000 in
theorem at_34_0 : am_at 34 0 = some (.aload_n 1, 1, 1, []) := rfl
set_option maxRecDepth 20000 in
theorem at_34_1 : am_at 34 1 = some (.iload_n 2, 2, 2, []) := rfl
set_option maxRecDepth 20000 in
theorem at_34_2 : am_at 34 2 = some (.invokevirtual 87, 5, 35, [0, 1, 1, 418, 419, 420, 62]) := rfl
set_option maxRecDepth 20000 in
theorem at_34_5 : am_at 34 5 = some (.istore_n 3, 6, 3, []) := rfl
set_option maxRecDepth 20000 in
theorem at_34_6 : am_at 34 6 = some (.aload_n 1, 7, 1, []) := rfl
set_option maxRecDepth 20000 in
theorem at_34_7 : am_at 34 7 = some (.getfield 62, 10, 0, [1, 3, 3, 363]) := rfl
set_option maxRecDepth 20000 in
theorem at_34_10 : am_at 34 10 = some (.iload_n 2, 11, 2, []) := rfl
set_option maxRecDepth 20000 in
theorem at_34_11 : am_at 34 11 = some (.iconst 0, 12, 0, []) := rfl
set_option maxRecDepth 20000 in
theorem at_34_12 : am_at 34 12 = some (.iastore, 13, 0, []) := rfl
set_option maxRecDepth 20000 in
theorem at_34_13 : am_at 34 13 = some (.aload_n 1, 14, 1, []) := rfl
set_option maxRecDepth 20000 in
theorem at_34_14 : am_at 34 14 = some (.getfield 160, 17, 0, [1, 9, 3, 375]) := rfl
set_option maxRecDepth 20000 in
theorem at_34_17 : am_at 34 17 = some (.iconst 2, 18, 2, []) := rfl
set_option maxRecDepth 20000 in
theorem at_34_18 : am_at 34 18 = some (.dup2, 19, 0, []) := rfl
set_option maxRecDepth 20000 in
theorem at_34_19 : am_at 34 19 = some (.iaload, 20, 0, []) := rfl
set_option maxRecDepth 20000 in
theorem at_34_20 : am_at 34 20 = some (.iconst 1, 21, 1, []) := rfl
set_option maxRecDepth 20000 in
theorem at_34_21 : am_at 34 21 = some (.iadd, 22, 0, []) := rfl
set_option maxRecDepth 20000 in
theorem at_34_22 : am_at 34 22 = some (.iastore, 23, 0, []) := rfl
set_option maxRecDepth 20000 in
theorem at_34_23 : am_at 34 23 = some (.aload_n 0, 24, 0, []) := rfl
set_option maxRecDepth 20000 in
theorem at_34_24 : am_at 34 24 = some (.getfield 21, 27, 0, [3, 1, 3, 168]) := rfl
set_option maxRecDepth 20000 in
theorem at_34_27 : am_at 34 27 = some (.iload_n 3, 28, 3, []) := rfl
set_option maxRecDepth 20000 in
theorem at_34_28 : am_at 34 28 = some (.invokevirtual 150, 31, 8, [0, 1, 2, 426, 222, 223, 58]) := rfl
set_option maxRecDepth 20000 in
theorem at_34_31 : am_at 34 31 = some (.ifCond .eq 28, 34, 59, []) := rfl
set_option maxRecDepth 20000 in
theorem at_34_34 : am_at 34 34 = some (.aload_n 0, 35, 0, []) := rfl
set_option maxRecDepth 20000 in
theorem at_34_35 : am_at 34 35 = some (.getfield 12, 38, 0, [3, 0, 3, 166]) := rfl
set_option maxRecDepth 20000 in
theorem at_34_38 : am_at 34 38 = some (.aload_n 0, 39, 0, []) := rfl
set_option maxRecDepth 20000 in
theorem at_34_39 : am_at 34 39 = some (.getfield 21, 42, 0, [3, 1, 3, 168]) := rfl
set_option maxRecDepth 20000 in
theorem at_34_42 : am_at 34 42 = some (.getfield 167, 45, 0, [2, 7, 3, 120]) := rfl
set_option maxRecDepth 20000 in
theorem at_34_45 : am_at 34 45 = some (.iload_n 3, 46, 3, []) := rfl
set_option maxRecDepth 20000 in
theorem at_34_46 : am_at 34 46 = some (.iaload, 47, 0, []) := rfl
set_option maxRecDepth 20000 in
theorem at_34_47 : am_at 34 47 = some (.aload_n 0, 48, 0, []) := rfl
set_option maxRecDepth 20000 in
theorem at_34_48 : am_at 34 48 = some (.getfield 21, 51, 0, [3, 1, 3, 168]) := rfl
set_option maxRecDepth 20000 in
theorem at_34_51 : am_at 34 51 = some (.getfield 226, 54, 0, [2, 9, 3, 124]) := rfl
set_option maxRecDepth 20000 in
theorem at_34_54 : am_at 34 54 = some (.iload_n 3, 55, 3, []) := rfl
set_option maxRecDepth 20000 in
theorem at_34_55 : am_at 34 55 = some (.iaload, 56, 0, []) := rfl
set_option maxRecDepth 20000 in
theorem at_34_56 : am_at 34 56 = some (.invokevirtual 173, 59, 37, [0, 2, 6, 427, 428, 429, 57]) := rfl
set_option maxRecDepth 20000 in
theorem at_34_59 : am_at 34 59 = some (.return_, 60, 0, []) := rfl
set_option maxRecDepth 20000 in
theorem at_35_0 : am_at 35 0 = some (.aload_n 0, 1, 0, []) := rfl
set_option maxRecDepth 20000 in
theorem at_35_1 : am_at 35 1 = some (.getfield 40, 4, 0, [1, 0, 3, 355]) := rfl
set_option maxRecDepth 20000 in
theorem at_35_4 : am_at 35 4 = some (.getfield 58, 7, 0, [5, 2, 3, 268]) := rfl
set_option maxRecDepth 20000 in
theorem at_35_7 : am_at 35 7 = some (.iload_n 1, 8, 1, []) := rfl
set_option maxRecDepth 20000 in
theorem at_35_8 : am_at 35 8 = some (.iaload, 9, 0, []) := rfl
set_option maxRecDepth 20000 in
theorem at_35_9 : am_at 35 9 = some (.ifCond .ne 15, 12, 24, []) := rfl
set_option maxRecDepth 20000 in
theorem at_35_12 : am_at 35 12 = some (.aload_n 0, 13, 0, []) := rfl
set_option maxRecDepth 20000 in
theorem at_35_13 : am_at 35 13 = some (.getfield 40, 16, 0, [1, 0, 3, 355]) := rfl
set_option maxRecDepth 20000 in
theorem at_35_16 : am_at 35 16 = some (.getfield 61, 19, 0, [5, 3, 3, 272]) := rfl
set_option maxRecDepth 20000 in
theorem at_35_19 : am_at 35 19 = some (.iload_n 1, 20, 1, []) := rfl
set_option maxRecDepth 20000 in
theorem at_35_20 : am_at 35 20 = some (.iaload, 21, 0, []) := rfl
set_option maxRecDepth 20000 in
theorem at_35_21 : am_at 35 21 = some (.goto 14, 24, 35, []) := rfl
set_option maxRecDepth 20000 in
theorem at_35_24 : am_at 35 24 = some (.aload_n 0, 25, 0, []) := rfl
set_option maxRecDepth 20000 in
theorem at_35_25 : am_at 35 25 = some (.iload_n 1, 26, 1, []) := rfl
set_option maxRecDepth 20000 in
theorem at_35_26 : am_at 35 26 = some (.aload_n 0, 27, 0, []) := rfl
set_option maxRecDepth 20000 in
theorem at_35_27 : am_at 35 27 = some (.getfield 21, 30, 0, [1, 4, 3, 365]) := rfl
set_option maxRecDepth 20000 in
theorem at_35_30 : am_at 35 30 = some (.iload_n 1, 31, 1, []) := rfl
set_option maxRecDepth 20000 in
theorem at_35_31 : am_at 35 31 = some (.iaload, 32, 0, []) := rfl
set_option maxRecDepth 20000 in
theorem at_35_32 : am_at 35 32 = some (.invokevirtual 64, 35, 36, [0, 2, 1, 422, 423, 424, 62]) := rfl
set_option maxRecDepth 20000 in
theorem at_35_35 : am_at 35 35 = some (.ireturn, 36, 0, [0]) := rfl
set_option maxRecDepth 20000 in
theorem at_36_0 : am_at 36 0 = some (.iload_n 2, 1, 2, []) := rfl
set_option maxRecDepth 20000 in
theorem at_36_1 : am_at 36 1 = some (.ifCond .lt 27, 4, 28, []) := rfl
set_option maxRecDepth 20000 in
theorem at_36_4 : am_at 36 4 = some (.iload_n 2, 5, 2, []) := rfl
set_option maxRecDepth 20000 in
theorem at_36_5 : am_at 36 5 = some (.aload_n 0, 6, 0, []) := rfl
set_option maxRecDepth 20000 in
theorem at_36_6 : am_at 36 6 = some (.getfield 24, 9, 0, [1, 5, 3, 367]) := rfl
set_option maxRecDepth 20000 in
theorem at_36_9 : am_at 36 9 = some (.iload_n 1, 10, 1, []) := rfl
set_option maxRecDepth 20000 in
theorem at_36_10 : am_at 36 10 = some (.iaload, 11, 0, []) := rfl
set_option maxRecDepth 20000 in
theorem at_36_11 : am_at 36 11 = some (.if_icmp .ge 17, 14, 28, []) := rfl
set_option maxRecDepth 20000 in
theorem at_36_14 : am_at 36 14 = some (.aload_n 0, 15, 0, []) := rfl
set_option maxRecDepth 20000 in
theorem at_36_15 : am_at 36 15 = some (.getfield 27, 18, 0, [1, 6, 3, 369]) := rfl
set_option maxRecDepth 20000 in
theorem at_36_18 : am_at 36 18 = some (.iload_n 1, 19, 1, []) := rfl
set_option maxRecDepth 20000 in
theorem at_36_19 : am_at 36 19 = some (.bipush 12, 21, 12, []) := rfl
set_option maxRecDepth 20000 in
theorem at_36_21 : am_at 36 21 = some (.imul, 22, 0, []) := rfl
set_option maxRecDepth 20000 in
theorem at_36_22 : am_at 36 22 = some (.iload_n 2, 23, 2, []) := rfl
set_option maxRecDepth 20000 in
theorem at_36_23 : am_at 36 23 = some (.iadd, 24, 0, []) := rfl
set_option maxRecDepth 20000 in
theorem at_36_24 : am_at 36 24 = some (.iaload, 25, 0, []) := rfl
set_option maxRecDepth 20000 in
theorem at_36_25 : am_at 36 25 = some (.goto 5, 28, 30, []) := rfl
set_option maxRecDepth 20000 in
theorem at_36_28 : am_at 36 28 = some (.bipush (-4), 30, 4294967292, []) := rfl
set_option maxRecDepth 20000 in
theorem at_36_30 : am_at 36 30 = some (.ireturn, 31, 0, [0]) := rfl
set_option maxRecDepth 20000 in
theorem at_37_0 : am_at 37 0 = some (.iload_n 1, 1, 1, []) := rfl
set_option maxRecDepth 20000 in
theorem at_37_1 : am_at 37 1 = some (.invokestatic 26, 4, 14, [1, 1, 431, 245, 55]) := rfl
set_option maxRecDepth 20000 in
theorem at_37_4 : am_at 37 4 = some (.ifCond .ne 4, 7, 8, []) := rfl
set_option maxRecDepth 20000 in
theorem at_37_7 : am_at 37 7 = some (.return_, 8, 0, []) := rfl
set_option maxRecDepth 20000 in
theorem at_37_8 : am_at 37 8 = some (.aload_n 0, 9, 0, []) := rfl
set_option maxRecDepth 20000 in
theorem at_37_9 : am_at 37 9 = some (.getfield 9, 12, 0, [6, 1, 3, 86]) := rfl
set_option maxRecDepth 20000 in
theorem at_37_12 : am_at 37 12 = some (.iload_n 1, 13, 1, []) := rfl
set_option maxRecDepth 20000 in
theorem at_37_13 : am_at 37 13 = some (.iaload, 14, 0, []) := rfl
set_option maxRecDepth 20000 in
theorem at_37_14 : am_at 37 14 = some (.ifCond .ne 21, 17, 35, []) := rfl
set_option maxRecDepth 20000 in
theorem at_37_17 : am_at 37 17 = some (.aload_n 0, 18, 0, []) := rfl
set_option maxRecDepth 20000 in
theorem at_37_18 : am_at 37 18 = some (.getfield 9, 21, 0, [6, 1, 3, 86]) := rfl
set_option maxRecDepth 20000 in
theorem at_37_21 : am_at 37 21 = some (.iload_n 1, 22, 1, []) := rfl
set_option maxRecDepth 20000 in
theorem at_37_22 : am_at 37 22 = some (.iconst 1, 23, 1, []) := rfl
set_option maxRecDepth 20000 in
theorem at_37_23 : am_at 37 23 = some (.iastore, 24, 0, []) := rfl
set_option maxRecDepth 20000 in
theorem at_37_24 : am_at 37 24 = some (.aload_n 0, 25, 0, []) := rfl
set_option maxRecDepth 20000 in
theorem at_37_25 : am_at 37 25 = some (.getfield 15, 28, 0, [6, 2, 3, 88]) := rfl
set_option maxRecDepth 20000 in
theorem at_37_28 : am_at 37 28 = some (.iload_n 1, 29, 1, []) := rfl
set_option maxRecDepth 20000 in
theorem at_37_29 : am_at 37 29 = some (.iload_n 2, 30, 2, []) := rfl
set_option maxRecDepth 20000 in
theorem at_37_30 : am_at 37 30 = some (.i2l, 31, 0, []) := rfl
set_option maxRecDepth 20000 in
theorem at_37_31 : am_at 37 31 = some (.lastore, 32, 0, []) := rfl
set_option maxRecDepth 20000 in
theorem at_37_32 : am_at 37 32 = some (.goto 24, 35, 56, []) := rfl
set_option maxRecDepth 20000 in
theorem at_37_35 : am_at 37 35 = some (.aload_n 0, 36, 0, []) := rfl
set_option maxRecDepth 20000 in
theorem at_37_36 : am_at 37 36 = some (.getfield 9, 39, 0, [6, 1, 3, 86]) := rfl
set_option maxRecDepth 20000 in
theorem at_37_39 : am_at 37 39 = some (.iload_n 1, 40, 1, []) := rfl
set_option maxRecDepth 20000 in
theorem at_37_40 : am_at 37 40 = some (.iaload, 41, 0, []) := rfl
set_option maxRecDepth 20000 in
theorem at_37_41 : am_at 37 41 = some (.iconst 1, 42, 1, []) := rfl
set_option maxRecDepth 20000 in
theorem at_37_42 : am_at 37 42 = some (.if_icmp .ne 14, 45, 56, []) := rfl
set_option maxRecDepth 20000 in
theorem at_37_45 : am_at 37 45 = some (.aload_n 0, 46, 0, []) := rfl
set_option maxRecDepth 20000 in
theorem at_37_46 : am_at 37 46 = some (.getfield 15, 49, 0, [6, 2, 3, 88]) := rfl
set_option maxRecDepth 20000 in
theorem at_37_49 : am_at 37 49 = some (.iload_n 1, 50, 1, []) := rfl
set_option maxRecDepth 20000 in
theorem at_37_50 : am_at 37 50 = some (.dup2, 51, 0, []) := rfl
set_option maxRecDepth 20000 in
theorem at_37_51 : am_at 37 51 = some (.laload, 52, 0, []) := rfl
set_option maxRecDepth 20000 in
theorem at_37_52 : am_at 37 52 = some (.iload_n 2, 53, 2, []) := rfl
set_option maxRecDepth 20000 in
theorem at_37_53 : am_at 37 53 = some (.i2l, 54, 0, []) := rfl
set_option maxRecDepth 20000 in
theorem at_37_54 : am_at 37 54 = some (.ladd, 55, 0, []) := rfl
set_option maxRecDepth 20000 in
theorem at_37_55 : am_at 37 55 = some (.lastore, 56, 0, []) := rfl
set_option maxRecDepth 20000 in
theorem at_37_56 : am_at 37 56 = some (.return_, 57, 0, []) := rfl
set_option maxRecDepth 20000 in
theorem at_38_0 : am_at 38 0 = some (.aload_n 0, 1, 0, []) := rfl
set_option maxRecDepth 20000 in
theorem at_38_1 : am_at 38 1 = some (.aload_n 1, 2, 1, []) := rfl
set_option maxRecDepth 20000 in
theorem at_38_2 : am_at 38 2 = some (.putfield 40, 5, 0, [1, 0, 3, 355]) := rfl
set_option maxRecDepth 20000 in
theorem at_38_5 : am_at 38 5 = some (.aload_n 0, 6, 0, []) := rfl
set_option maxRecDepth 20000 in
theorem at_38_6 : am_at 38 6 = some (.getfield 37, 9, 0, [1, 9, 3, 374]) := rfl
set_option maxRecDepth 20000 in
theorem at_38_9 : am_at 38 9 = some (.bipush 8, 11, 8, []) := rfl
set_option maxRecDepth 20000 in
theorem at_38_11 : am_at 38 11 = some (.iload_n 2, 12, 2, []) := rfl
set_option maxRecDepth 20000 in
theorem at_38_12 : am_at 38 12 = some (.iastore, 13, 0, []) := rfl
set_option maxRecDepth 20000 in
theorem at_38_13 : am_at 38 13 = some (.iconst 0, 14, 0, []) := rfl
set_option maxRecDepth 20000 in
theorem at_38_14 : am_at 38 14 = some (.istore_n 3, 15, 3, []) := rfl
set_option maxRecDepth 20000 in
theorem at_38_15 : am_at 38 15 = some (.iload_n 3, 16, 3, []) := rfl
set_option maxRecDepth 20000 in
theorem at_38_16 : am_at 38 16 = some (.bipush 30, 18, 30, []) := rfl
set_option maxRecDepth 20000 in
theorem at_38_18 : am_at 38 18 = some (.if_icmp .ge 44, 21, 62, []) := rfl
set_option maxRecDepth 20000 in
theorem at_38_21 : am_at 38 21 = some (.aload_n 0, 22, 0, []) := rfl
set_option maxRecDepth 20000 in
theorem at_38_22 : am_at 38 22 = some (.getfield 9, 25, 0, [1, 1, 3, 357]) := rfl
set_option maxRecDepth 20000 in
theorem at_38_25 : am_at 38 25 = some (.iload_n 3, 26, 3, []) := rfl
set_option maxRecDepth 20000 in
theorem at_38_26 : am_at 38 26 = some (.iconst 0, 27, 0, []) := rfl
set_option maxRecDepth 20000 in
theorem at_38_27 : am_at 38 27 = some (.iastore, 28, 0, []) := rfl
set_option maxRecDepth 20000 in
theorem at_38_28 : am_at 38 28 = some (.aload_n 0, 29, 0, []) := rfl
set_option maxRecDepth 20000 in
theorem at_38_29 : am_at 38 29 = some (.getfield 15, 32, 0, [1, 2, 3, 360]) := rfl
set_option maxRecDepth 20000 in
theorem at_38_32 : am_at 38 32 = some (.iload_n 3, 33, 3, []) := rfl
set_option maxRecDepth 20000 in
theorem at_38_33 : am_at 38 33 = some (.iconst 0, 34, 0, []) := rfl
set_option maxRecDepth 20000 in
theorem at_38_34 : am_at 38 34 = some (.iastore, 35, 0, []) := rfl
set_option maxRecDepth 20000 in
theorem at_38_35 : am_at 38 35 = some (.aload_n 0, 36, 0, []) := rfl
set_option maxRecDepth 20000 in
theorem at_38_36 : am_at 38 36 = some (.getfield 18, 39, 0, [1, 3, 3, 362]) := rfl
set_option maxRecDepth 20000 in
theorem at_38_39 : am_at 38 39 = some (.iload_n 3, 40, 3, []) := rfl
set_option maxRecDepth 20000 in
theorem at_38_40 : am_at 38 40 = some (.iconst 0, 41, 0, []) := rfl
set_option maxRecDepth 20000 in
theorem at_38_41 : am_at 38 41 = some (.iastore, 42, 0, []) := rfl
set_option maxRecDepth 20000 in
theorem at_38_42 : am_at 38 42 = some (.aload_n 0, 43, 0, []) := rfl
set_option maxRecDepth 20000 in
theorem at_38_43 : am_at 38 43 = some (.getfield 21, 46, 0, [1, 4, 3, 365]) := rfl
set_option maxRecDepth 20000 in
theorem at_38_46 : am_at 38 46 = some (.iload_n 3, 47, 3, []) := rfl
set_option maxRecDepth 20000 in
theorem at_38_47 : am_at 38 47 = some (.iconst 0, 48, 0, []) := rfl
set_option maxRecDepth 20000 in
theorem at_38_48 : am_at 38 48 = some (.iastore, 49, 0, []) := rfl
set_option maxRecDepth 20000 in
theorem at_38_49 : am_at 38 49 = some (.aload_n 0, 50, 0, []) := rfl
set_option maxRecDepth 20000 in
theorem at_38_50 : am_at 38 50 = some (.getfield 24, 53, 0, [1, 5, 3, 367]) := rfl
set_option maxRecDepth 20000 in
theorem at_38_53 : am_at 38 53 = some (.iload_n 3, 54, 3, []) := rfl
set_option maxRecDepth 20000 in
theorem at_38_54 : am_at 38 54 = some (.iconst 0, 55, 0, []) := rfl
set_option maxRecDepth 20000 in
theorem at_38_55 : am_at 38 55 = some (.iastore, 56, 0, []) := rfl
set_option maxRecDepth 20000 in
theorem at_38_56 : am_at 38 56 = some (.iinc 3 1, 59, 3, []) := rfl
set_option maxRecDepth 20000 in
theorem at_38_59 : am_at 38 59 = some (.goto (-44), 62, 15, []) := rfl
set_option maxRecDepth 20000 in
theorem at_38_62 : am_at 38 62 = some (.return_, 63, 0, []) := rfl
set_option maxRecDepth 20000 in
theorem at_39_0 : am_at 39 0 = some (.aload_n 0, 1, 0, []) := rfl
set_option maxRecDepth 20000 in
theorem at_39_1 : am_at 39 1 = some (.iload_n 1, 2, 1, []) := rfl
set_option maxRecDepth 20000 in
theorem at_39_2 : am_at 39 2 = some (.invokevirtual 104, 5, 31, [0, 1, 7, 402, 404, 3, 55]) := rfl
set_option maxRecDepth 20000 in
theorem at_39_5 : am_at 39 5 = some (.astore_n 2, 6, 2, []) := rfl
set_option maxRecDepth 20000 in
theorem at_39_6 : am_at 39 6 = some (.aload_n 2, 7, 2, []) := rfl
set_option maxRecDepth 20000 in
theorem at_39_7 : am_at 39 7 = some (.ifnonnull 5, 10, 12, []) := rfl
set_option maxRecDepth 20000 in
theorem at_39_10 : am_at 39 10 = some (.iconst (-1), 11, 4294967295, []) := rfl
set_option maxRecDepth 20000 in
theorem at_39_11 : am_at 39 11 = some (.ireturn, 12, 0, [0]) := rfl
set_option maxRecDepth 20000 in
theorem at_39_12 : am_at 39 12 = some (.aload_n 0, 13, 0, []) := rfl
set_option maxRecDepth 20000 in
theorem at_39_13 : am_at 39 13 = some (.getfield 10, 16, 0, [7, 0, 3, 190]) := rfl
set_option maxRecDepth 20000 in
theorem at_39_16 : am_at 39 16 = some (.aload_n 2, 17, 2, []) := rfl
set_option maxRecDepth 20000 in
theorem at_39_17 : am_at 39 17 = some (.invokevirtual 120, 20, 40, [0, 1, 3, 440, 441, 442, 56]) := rfl
set_option maxRecDepth 20000 in
theorem at_39_20 : am_at 39 20 = some (.ireturn, 21, 0, [0]) := rfl
set_option maxRecDepth 20000 in
theorem at_40_0 : am_at 40 0 = some (.aload_n 1, 1, 1, []) := rfl
set_option maxRecDepth 20000 in
theorem at_40_1 : am_at 40 1 = some (.getfield 36, 4, 0, [1, 0, 3, 354]) := rfl
set_option maxRecDepth 20000 in
theorem at_40_4 : am_at 40 4 = some (.ifnonnull 6, 7, 10, []) := rfl
set_option maxRecDepth 20000 in
theorem at_40_7 : am_at 40 7 = some (.bipush (-2), 9, 4294967294, []) := rfl
set_option maxRecDepth 20000 in
theorem at_40_9 : am_at 40 9 = some (.ireturn, 10, 0, [0]) := rfl
set_option maxRecDepth 20000 in
theorem at_40_10 : am_at 40 10 = some (.aload_n 0, 11, 0, []) := rfl
set_option maxRecDepth 20000 in
theorem at_40_11 : am_at 40 11 = some (.getfield 28, 14, 0, [3, 2, 3, 170]) := rfl
set_option maxRecDepth 20000 in
theorem at_40_14 : am_at 40 14 = some (.iconst 0, 15, 0, []) := rfl
set_option maxRecDepth 20000 in
theorem at_40_15 : am_at 40 15 = some (.putfield 42, 18, 0, [0, 0, 0, 153]) := rfl
set_option maxRecDepth 20000 in
theorem at_40_18 : am_at 40 18 = some (.aload_n 1, 19, 1, []) := rfl
set_option maxRecDepth 20000 in
theorem at_40_19 : am_at 40 19 = some (.invokevirtual 46, 22, 41, [0, 0, 1, 444, 445, 446, 62]) := rfl
set_option maxRecDepth 20000 in
theorem at_40_22 : am_at 40 22 = some (.aload_n 0, 23, 0, []) := rfl
set_option maxRecDepth 20000 in
theorem at_40_23 : am_at 40 23 = some (.aload_n 1, 24, 1, []) := rfl
set_option maxRecDepth 20000 in
theorem at_40_24 : am_at 40 24 = some (.iconst 0, 25, 0, []) := rfl
set_option maxRecDepth 20000 in
theorem at_40_25 : am_at 40 25 = some (.iconst 0, 26, 0, []) := rfl
set_option maxRecDepth 20000 in
theorem at_40_26 : am_at 40 26 = some (.invokevirtual 49, 29, 42, [0, 3, 3, 448, 450, 6, 56]) := rfl
set_option maxRecDepth 20000 in
theorem at_40_29 : am_at 40 29 = some (.istore_n 2, 30, 2, []) := rfl
set_option maxRecDepth 20000 in
theorem at_40_30 : am_at 40 30 = some (.aload_n 0, 31, 0, []) := rfl
set_option maxRecDepth 20000 in
theorem at_40_31 : am_at 40 31 = some (.aload_n 1, 32, 1, []) := rfl
set_option maxRecDepth 20000 in
theorem at_40_32 : am_at 40 32 = some (.invokevirtual 53, 35, 74, [0, 1, 3, 618, 620, 23, 56]) := rfl
set_option maxRecDepth 20000 in
theorem at_40_35 : am_at 40 35 = some (.iload_n 2, 36, 2, []) := rfl
set_option maxRecDepth 20000 in
theorem at_40_36 : am_at 40 36 = some (.ireturn, 37, 0, [0]) := rfl
set_option maxRecDepth 20000 in
theorem at_41_0 : am_at 41 0 = some (.aload_n 0, 1, 0, []) := rfl
set_option maxRecDepth 20000 in
theorem at_41_1 : am_at 41 1 = some (.getfield 37, 4, 0, [1, 9, 3, 374]) := rfl
set_option maxRecDepth 20000 in
theorem at_41_4 : am_at 41 4 = some (.iconst 0, 5, 0, []) := rfl
set_option maxRecDepth 20000 in
theorem at_41_5 : am_at 41 5 = some (.dup2, 6, 0, []) := rfl
set_option maxRecDepth 20000 in
theorem at_41_6 : am_at 41 6 = some (.iaload, 7, 0, []) := rfl
set_option maxRecDepth 20000 in
theorem at_41_7 : am_at 41 7 = some (.iconst 1, 8, 1, []) := rfl
set_option maxRecDepth 20000 in
theorem at_41_8 : am_at 41 8 = some (.iadd, 9, 0, []) := rfl
set_option maxRecDepth 20000 in
theorem at_41_9 : am_at 41 9 = some (.iastore, 10, 0, []) := rfl
set_option maxRecDepth 20000 in
theorem at_41_10 : am_at 41 10 = some (.iconst 0, 11, 0, []) := rfl
set_option maxRecDepth 20000 in
theorem at_41_11 : am_at 41 11 = some (.istore_n 1, 12, 1, []) := rfl
set_option maxRecDepth 20000 in
theorem at_41_12 : am_at 41 12 = some (.iload_n 1, 13, 1, []) := rfl
set_option maxRecDepth 20000 in
theorem at_41_13 : am_at 41 13 = some (.bipush 30, 15, 30, []) := rfl
set_option maxRecDepth 20000 in
theorem at_41_15 : am_at 41 15 = some (.if_icmp .ge 16, 18, 31, []) := rfl
set_option maxRecDepth 20000 in
theorem at_41_18 : am_at 41 18 = some (.aload_n 0, 19, 0, []) := rfl
set_option maxRecDepth 20000 in
theorem at_41_19 : am_at 41 19 = some (.getfield 33, 22, 0, [1, 8, 3, 372]) := rfl
set_option maxRecDepth 20000 in
theorem at_41_22 : am_at 41 22 = some (.iload_n 1, 23, 1, []) := rfl
set_option maxRecDepth 20000 in
theorem at_41_23 : am_at 41 23 = some (.iconst 0, 24, 0, []) := rfl
set_option maxRecDepth 20000 in
theorem at_41_24 : am_at 41 24 = some (.bastore, 25, 0, []) := rfl
set_option maxRecDepth 20000 in
theorem at_41_25 : am_at 41 25 = some (.iinc 1 1, 28, 1, []) := rfl
set_option maxRecDepth 20000 in
theorem at_41_28 : am_at 41 28 = some (.goto (-16), 31, 12, []) := rfl
set_option maxRecDepth 20000 in
theorem at_41_31 : am_at 41 31 = some (.return_, 32, 0, []) := rfl
set_option maxRecDepth 20000 in
theorem at_42_0 : am_at 42 0 = some (.iload_n 3, 1, 3, []) := rfl
set_option maxRecDepth 20000 in
theorem at_42_1 : am_at 42 1 = some (.bipush 30, 3, 30, []) := rfl
set_option maxRecDepth 20000 in
theorem at_42_3 : am_at 42 3 = some (.if_icmp .ge 11, 6, 14, []) := rfl
set_option maxRecDepth 20000 in
theorem at_42_6 : am_at 42 6 = some (.aload_n 1, 7, 1, []) := rfl
set_option maxRecDepth 20000 in
theorem at_42_7 : am_at 42 7 = some (.iload_n 2, 8, 2, []) := rfl
set_option maxRecDepth 20000 in
theorem at_42_8 : am_at 42 8 = some (.invokevirtual 70, 11, 43, [0, 1, 1, 452, 453, 454, 62]) := rfl
set_option maxRecDepth 20000 in
theorem at_42_11 : am_at 42 11 = some (.ifCond .ne 5, 14, 16, []) := rfl
set_option maxRecDepth 20000 in
theorem at_42_14 : am_at 42 14 = some (.iconst 2, 15, 2, []) := rfl
set_option maxRecDepth 20000 in
theorem at_42_15 : am_at 42 15 = some (.ireturn, 16, 0, [0]) := rfl
set_option maxRecDepth 20000 in
theorem at_42_16 : am_at 42 16 = some (.aload_n 0, 17, 0, []) := rfl
set_option maxRecDepth 20000 in
theorem at_42_17 : am_at 42 17 = some (.aload_n 1, 18, 1, []) := rfl
set_option maxRecDepth 20000 in
theorem at_42_18 : am_at 42 18 = some (.iload_n 2, 19, 2, []) := rfl
set_option maxRecDepth 20000 in
theorem at_42_19 : am_at 42 19 = some (.iload_n 3, 20, 3, []) := rfl
set_option maxRecDepth 20000 in
theorem at_42_20 : am_at 42 20 = some (.invokevirtual 74, 23, 44, [0, 3, 3, 456, 458, 7, 56]) := rfl
set_option maxRecDepth 20000 in
theorem at_42_23 : am_at 42 23 = some (.istore 4, 25, 4, []) := rfl
set_option maxRecDepth 20000 in
theorem at_42_25 : am_at 42 25 = some (.aload_n 1, 26, 1, []) := rfl
set_option maxRecDepth 20000 in
theorem at_42_26 : am_at 42 26 = some (.iload_n 2, 27, 2, []) := rfl
set_option maxRecDepth 20000 in
theorem at_42_27 : am_at 42 27 = some (.iload 4, 29, 4, []) := rfl
set_option maxRecDepth 20000 in
theorem at_42_29 : am_at 42 29 = some (.invokevirtual 77, 32, 72, [0, 2, 1, 610, 611, 612, 62]) := rfl
set_option maxRecDepth 20000 in
theorem at_42_32 : am_at 42 32 = some (.aload_n 0, 33, 0, []) := rfl
set_option maxRecDepth 20000 in
theorem at_42_33 : am_at 42 33 = some (.getfield 28, 36, 0, [3, 2, 3, 170]) := rfl
set_option maxRecDepth 20000 in
theorem at_42_36 : am_at 42 36 = some (.iload_n 2, 37, 2, []) := rfl
set_option maxRecDepth 20000 in
theorem at_42_37 : am_at 42 37 = some (.iload 4, 39, 4, []) := rfl
set_option maxRecDepth 20000 in
theorem at_42_39 : am_at 42 39 = some (.invokevirtual 81, 42, 73, [0, 2, 0, 614, 615, 616, 59]) := rfl
set_option maxRecDepth 20000 in
theorem at_42_42 : am_at 42 42 = some (.iload 4, 44, 4, []) := rfl
set_option maxRecDepth 20000 in
theorem at_42_44 : am_at 42 44 = some (.ireturn, 45, 0, [0]) := rfl
set_option maxRecDepth 20000 in
theorem at_43_0 : am_at 43 0 = some (.aload_n 0, 1, 0, []) := rfl
set_option maxRecDepth 20000 in
theorem at_43_1 : am_at 43 1 = some (.getfield 40, 4, 0, [1, 0, 3, 355]) := rfl
set_option maxRecDepth 20000 in
theorem at_43_4 : am_at 43 4 = some (.ifnull 22, 7, 26, []) := rfl
set_option maxRecDepth 20000 in
theorem at_43_7 : am_at 43 7 = some (.iload_n 1, 8, 1, []) := rfl
set_option maxRecDepth 20000 in
theorem at_43_8 : am_at 43 8 = some (.ifCond .lt 18, 11, 26, []) := rfl
set_option maxRecDepth 20000 in
theorem at_43_11 : am_at 43 11 = some (.iload_n 1, 12, 1, []) := rfl
set_option maxRecDepth 20000 in
theorem at_43_12 : am_at 43 12 = some (.aload_n 0, 13, 0, []) := rfl
set_option maxRecDepth 20000 in
theorem at_43_13 : am_at 43 13 = some (.getfield 40, 16, 0, [1, 0, 3, 355]) := rfl
set_option maxRecDepth 20000 in
theorem at_43_16 : am_at 43 16 = some (.getfield 44, 19, 0, [5, 0, 0, 261]) := rfl
set_option maxRecDepth 20000 in
theorem at_43_19 : am_at 43 19 = some (.if_icmp .ge 7, 22, 26, []) := rfl
set_option maxRecDepth 20000 in
theorem at_43_22 : am_at 43 22 = some (.iconst 1, 23, 1, []) := rfl
set_option maxRecDepth 20000 in
theorem at_43_23 : am_at 43 23 = some (.goto 4, 26, 27, []) := rfl
set_option maxRecDepth 20000 in
theorem at_43_26 : am_at 43 26 = some (.iconst 0, 27, 0, []) := rfl
set_option maxRecDepth 20000 in
theorem at_43_27 : am_at 43 27 = some (.ireturn, 28, 0, [1]) := rfl
set_option maxRecDepth 20000 in
theorem at_44_0 : am_at 44 0 = some (.aload_n 1, 1, 1, []) := rfl
set_option maxRecDepth 20000 in
theorem at_44_1 : am_at 44 1 = some (.getfield 36, 4, 0, [1, 0, 3, 354]) := rfl
set_option maxRecDepth 20000 in
theorem at_44_4 : am_at 44 4 = some (.getfield 84, 7, 0, [5, 2, 3, 267]) := rfl
set_option maxRecDepth 20000 in
theorem at_44_7 : am_at 44 7 = some (.iload_n 2, 8, 2, []) := rfl
set_option maxRecDepth 20000 in
theorem at_44_8 : am_at 44 8 = some (.iaload, 9, 0, []) := rfl
set_option maxRecDepth 20000 in
theorem at_44_9 : am_at 44 9 = some (.tableswitch 152 0 8 #[51, 63, 78, 87, 96, 104, 129, 78, 137], 60, 161, [60, 72, 87, 96, 105, 113, 138, 87, 146]) := rfl
set_option maxRecDepth 20000 in
theorem at_44_60 : am_at 44 60 = some (.aload_n 0, 61, 0, []) := rfl
set_option maxRecDepth 20000 in
theorem at_44_61 : am_at 44 61 = some (.aload_n 1, 62, 1, []) := rfl
set_option maxRecDepth 20000 in
theorem at_44_62 : am_at 44 62 = some (.iload_n 2, 63, 2, []) := rfl
set_option maxRecDepth 20000 in
theorem at_44_63 : am_at 44 63 = some (.aload_n 1, 64, 1, []) := rfl
set_option maxRecDepth 20000 in
theorem at_44_64 : am_at 44 64 = some (.iload_n 2, 65, 2, []) := rfl
set_option maxRecDepth 20000 in
theorem at_44_65 : am_at 44 65 = some (.invokevirtual 87, 68, 35, [0, 1, 1, 418, 419, 420, 62]) := rfl
set_option maxRecDepth 20000 in
theorem at_44_68 : am_at 44 68 = some (.invokevirtual 91, 71, 45, [0, 3, 3, 460, 462, 8, 56]) := rfl
set_option maxRecDepth 20000 in
theorem at_44_71 : am_at 44 71 = some (.ireturn, 72, 0, [0]) := rfl
set_option maxRecDepth 20000 in
theorem at_44_72 : am_at 44 72 = some (.aload_n 0, 73, 0, []) := rfl
set_option maxRecDepth 20000 in
theorem at_44_73 : am_at 44 73 = some (.aload_n 1, 74, 1, []) := rfl
set_option maxRecDepth 20000 in
theorem at_44_74 : am_at 44 74 = some (.iload_n 2, 75, 2, []) := rfl
set_option maxRecDepth 20000 in
theorem at_44_75 : am_at 44 75 = some (.invokevirtual 94, 78, 48, [0, 2, 3, 472, 474, 9, 56]) := rfl
set_option maxRecDepth 20000 in
theorem at_44_78 : am_at 44 78 = some (.ifCond .eq 7, 81, 85, []) := rfl
set_option maxRecDepth 20000 in
theorem at_44_81 : am_at 44 81 = some (.iconst 1, 82, 1, []) := rfl
set_option maxRecDepth 20000 in
theorem at_44_82 : am_at 44 82 = some (.goto 4, 85, 86, []) := rfl
set_option maxRecDepth 20000 in
theorem at_44_85 : am_at 44 85 = some (.iconst 2, 86, 2, []) := rfl
set_option maxRecDepth 20000 in
theorem at_44_86 : am_at 44 86 = some (.ireturn, 87, 0, [0]) := rfl
set_option maxRecDepth 20000 in
theorem at_44_87 : am_at 44 87 = some (.aload_n 0, 88, 0, []) := rfl
set_option maxRecDepth 20000 in
theorem at_44_88 : am_at 44 88 = some (.aload_n 1, 89, 1, []) := rfl
set_option maxRecDepth 20000 in
theorem at_44_89 : am_at 44 89 = some (.iload_n 2, 90, 2, []) := rfl
set_option maxRecDepth 20000 in
theorem at_44_90 : am_at 44 90 = some (.iload_n 3, 91, 3, []) := rfl
set_option maxRecDepth 20000 in
theorem at_44_91 : am_at 44 91 = some (.iconst 1, 92, 1, []) := rfl
set_option maxRecDepth 20000 in
theorem at_44_92 : am_at 44 92 = some (.invokevirtual 98, 95, 54, [0, 4, 3, 494, 496, 10, 56]) := rfl
set_option maxRecDepth 20000 in
theorem at_44_95 : am_at 44 95 = some (.ireturn, 96, 0, [0]) := rfl
set_option maxRecDepth 20000 in
theorem at_44_96 : am_at 44 96 = some (.aload_n 0, 97, 0, []) := rfl
set_option maxRecDepth 20000 in
theorem at_44_97 : am_at 44 97 = some (.aload_n 1, 98, 1, []) := rfl
set_option maxRecDepth 20000 in
theorem at_44_98 : am_at 44 98 = some (.iload_n 2, 99, 2, []) := rfl
set_option maxRecDepth 20000 in
theorem at_44_99 : am_at 44 99 = some (.iload_n 3, 100, 3, []) := rfl
set_option maxRecDepth 20000 in
theorem at_44_100 : am_at 44 100 = some (.iconst 2, 101, 2, []) := rfl
set_option maxRecDepth 20000 in
theorem at_44_101 : am_at 44 101 = some (.invokevirtual 98, 104, 54, [0, 4, 3, 494, 496, 10, 56]) := rfl
set_option maxRecDepth 20000 in
theorem at_44_104 : am_at 44 104 = some (.ireturn, 105, 0, [0]) := rfl
set_option maxRecDepth 20000 in
theorem at_44_105 : am_at 44 105 = some (.aload_n 0, 106, 0, []) := rfl
set_option maxRecDepth 20000 in
theorem at_44_106 : am_at 44 106 = some (.aload_n 1, 107, 1, []) := rfl
set_option maxRecDepth 20000 in
theorem at_44_107 : am_at 44 107 = some (.iload_n 2, 108, 2, []) := rfl
set_option maxRecDepth 20000 in
theorem at_44_108 : am_at 44 108 = some (.iload_n 3, 109, 3, []) := rfl
set_option maxRecDepth 20000 in
theorem at_44_109 : am_at 44 109 = some (.invokevirtual 102, 112, 55, [0, 3, 3, 498, 500, 11, 56]) := rfl
set_option maxRecDepth 20000 in
theorem at_44_112 : am_at 44 112 = some (.ireturn, 113, 0, [0]) := rfl
set_option maxRecDepth 20000 in
theorem at_44_113 : am_at 44 113 = some (.aload_n 0, 114, 0, []) := rfl
set_option maxRecDepth 20000 in
theorem at_44_114 : am_at 44 114 = some (.aload_n 1, 115, 1, []) := rfl
set_option maxRecDepth 20000 in
theorem at_44_115 : am_at 44 115 = some (.iload_n 2, 116, 2, []) := rfl
set_option maxRecDepth 20000 in
theorem at_44_116 : am_at 44 116 = some (.invokevirtual 94, 119, 48, [0, 2, 3, 472, 474, 9, 56]) := rfl
set_option maxRecDepth 20000 in
theorem at_44_119 : am_at 44 119 = some (.ifCond .eq 17, 122, 136, []) := rfl
set_option maxRecDepth 20000 in
theorem at_44_122 : am_at 44 122 = some (.aload_n 0, 123, 0, []) := rfl
set_option maxRecDepth 20000 in
theorem at_44_123 : am_at 44 123 = some (.aload_n 1, 124, 1, []) := rfl
set_option maxRecDepth 20000 in
theorem at_44_124 : am_at 44 124 = some (.iload_n 2, 125, 2, []) := rfl
set_option maxRecDepth 20000 in
theorem at_44_125 : am_at 44 125 = some (.iconst 1, 126, 1, []) := rfl
set_option maxRecDepth 20000 in
theorem at_44_126 : am_at 44 126 = some (.iadd, 127, 0, []) := rfl
set_option maxRecDepth 20000 in
theorem at_44_127 : am_at 44 127 = some (.iload_n 3, 128, 3, []) := rfl
set_option maxRecDepth 20000 in
theorem at_44_128 : am_at 44 128 = some (.iconst 1, 129, 1, []) := rfl
set_option maxRecDepth 20000 in
theorem at_44_129 : am_at 44 129 = some (.iadd, 130, 0, []) := rfl
set_option maxRecDepth 20000 in
theorem at_44_130 : am_at 44 130 = some (.invokevirtual 49, 133, 42, [0, 3, 3, 448, 450, 6, 56]) := rfl
set_option maxRecDepth 20000 in
theorem at_44_133 : am_at 44 133 = some (.goto 4, 136, 137, []) := rfl
set_option maxRecDepth 20000 in
theorem at_44_136 : am_at 44 136 = some (.iconst 2, 137, 2, []) := rfl
set_option maxRecDepth 20000 in
theorem at_44_137 : am_at 44 137 = some (.ireturn, 138, 0, [0]) := rfl
set_option maxRecDepth 20000 in
theorem at_44_138 : am_at 44 138 = some (.aload_n 0, 139, 0, []) := rfl
set_option maxRecDepth 20000 in
theorem at_44_139 : am_at 44 139 = some (.aload_n 1, 140, 1, []) := rfl
set_option maxRecDepth 20000 in
theorem at_44_140 : am_at 44 140 = some (.iload_n 2, 141, 2, []) := rfl
set_option maxRecDepth 20000 in
theorem at_44_141 : am_at 44 141 = some (.iload_n 3, 142, 3, []) := rfl
set_option maxRecDepth 20000 in
theorem at_44_142 : am_at 44 142 = some (.invokevirtual 105, 145, 56, [0, 3, 3, 502, 504, 12, 56]) := rfl
set_option maxRecDepth 20000 in
theorem at_44_145 : am_at 44 145 = some (.ireturn, 146, 0, [0]) := rfl
set_option maxRecDepth 20000 in
theorem at_44_146 : am_at 44 146 = some (.aload_n 0, 147, 0, []) := rfl
set_option maxRecDepth 20000 in
theorem at_44_147 : am_at 44 147 = some (.aload_n 1, 148, 1, []) := rfl
set_option maxRecDepth 20000 in
theorem at_44_148 : am_at 44 148 = some (.iload_n 2, 149, 2, []) := rfl
set_option maxRecDepth 20000 in
theorem at_44_149 : am_at 44 149 = some (.iconst 1, 150, 1, []) := rfl
set_option maxRecDepth 20000 in
theorem at_44_150 : am_at 44 150 = some (.iadd, 151, 0, []) := rfl
set_option maxRecDepth 20000 in
theorem at_44_151 : am_at 44 151 = some (.iload_n 3, 152, 3, []) := rfl
set_option maxRecDepth 20000 in
theorem at_44_152 : am_at 44 152 = some (.iconst 1, 153, 1, []) := rfl
set_option maxRecDepth 20000 in
theorem at_44_153 : am_at 44 153 = some (.iadd, 154, 0, []) := rfl
set_option maxRecDepth 20000 in
theorem at_44_154 : am_at 44 154 = some (.invokevirtual 49, 157, 42, [0, 3, 3, 448, 450, 6, 56]) := rfl
set_option maxRecDepth 20000 in
theorem at_44_157 : am_at 44 157 = some (.invokestatic 108, 160, 57, [0, 1, 506, 507, 56]) := rfl
set_option maxRecDepth 20000 in
theorem at_44_160 : am_at 44 160 = some (.ireturn, 161, 0, [0]) := rfl
set_option maxRecDepth 20000 in
theorem at_44_161 : am_at 44 161 = some (.aload_n 0, 162, 0, []) := rfl
set_option maxRecDepth 20000 in
theorem at_44_162 : am_at 44 162 = some (.aload_n 1, 163, 1, []) := rfl
set_option maxRecDepth 20000 in
theorem at_44_163 : am_at 44 163 = some (.iload_n 2, 164, 2, []) := rfl
set_option maxRecDepth 20000 in
theorem at_44_164 : am_at 44 164 = some (.invokevirtual 111, 167, 58, [0, 2, 3, 509, 511, 13, 56]) := rfl
set_option maxRecDepth 20000 in
theorem at_44_167 : am_at 44 167 = some (.ireturn, 168, 0, [0]) := rfl
set_option maxRecDepth 20000 in
theorem at_45_0 : am_at 45 0 = some (.aload_n 0, 1, 0, []) := rfl
set_option maxRecDepth 20000 in
theorem at_45_1 : am_at 45 1 = some (.getfield 21, 4, 0, [3, 1, 3, 168]) := rfl
set_option maxRecDepth 20000 in
theorem at_45_4 : am_at 45 4 = some (.iload_n 3, 5, 3, []) := rfl
set_option maxRecDepth 20000 in
theorem at_45_5 : am_at 45 5 = some (.invokevirtual 150, 8, 8, [0, 1, 2, 426, 222, 223, 58]) := rfl
set_option maxRecDepth 20000 in
theorem at_45_8 : am_at 45 8 = some (.ifCond .ne 5, 11, 13, []) := rfl
set_option maxRecDepth 20000 in
theorem at_45_11 : am_at 45 11 = some (.iconst 2, 12, 2, []) := rfl
set_option maxRecDepth 20000 in
theorem at_45_12 : am_at 45 12 = some (.ireturn, 13, 0, [0]) := rfl
set_option maxRecDepth 20000 in
theorem at_45_13 : am_at 45 13 = some (.aload_n 1, 14, 1, []) := rfl
set_option maxRecDepth 20000 in
theorem at_45_14 : am_at 45 14 = some (.getfield 62, 17, 0, [1, 3, 3, 363]) := rfl
set_option maxRecDepth 20000 in
theorem at_45_17 : am_at 45 17 = some (.iload_n 2, 18, 2, []) := rfl
set_option maxRecDepth 20000 in
theorem at_45_18 : am_at 45 18 = some (.iaload, 19, 0, []) := rfl
set_option maxRecDepth 20000 in
theorem at_45_19 : am_at 45 19 = some (.ifCond .ne 18, 22, 37, []) := rfl
set_option maxRecDepth 20000 in
theorem at_45_22 : am_at 45 22 = some (.aload_n 1, 23, 1, []) := rfl
set_option maxRecDepth 20000 in
theorem at_45_23 : am_at 45 23 = some (.getfield 62, 26, 0, [1, 3, 3, 363]) := rfl
set_option maxRecDepth 20000 in
theorem at_45_26 : am_at 45 26 = some (.iload_n 2, 27, 2, []) := rfl
set_option maxRecDepth 20000 in
theorem at_45_27 : am_at 45 27 = some (.aload_n 0, 28, 0, []) := rfl
set_option maxRecDepth 20000 in
theorem at_45_28 : am_at 45 28 = some (.getfield 21, 31, 0, [3, 1, 3, 168]) := rfl
set_option maxRecDepth 20000 in
theorem at_45_31 : am_at 45 31 = some (.getfield 153, 34, 0, [2, 1, 3, 112]) := rfl
set_option maxRecDepth 20000 in
theorem at_45_34 : am_at 45 34 = some (.iload_n 3, 35, 3, []) := rfl
set_option maxRecDepth 20000 in
theorem at_45_35 : am_at 45 35 = some (.iaload, 36, 0, []) := rfl
set_option maxRecDepth 20000 in
theorem at_45_36 : am_at 45 36 = some (.iastore, 37, 0, []) := rfl
set_option maxRecDepth 20000 in
theorem at_45_37 : am_at 45 37 = some (.aload_n 0, 38, 0, []) := rfl
set_option maxRecDepth 20000 in
theorem at_45_38 : am_at 45 38 = some (.getfield 21, 41, 0, [3, 1, 3, 168]) := rfl
set_option maxRecDepth 20000 in
theorem at_45_41 : am_at 45 41 = some (.iload_n 3, 42, 3, []) := rfl
set_option maxRecDepth 20000 in
theorem at_45_42 : am_at 45 42 = some (.aload_n 0, 43, 0, []) := rfl
set_option maxRecDepth 20000 in
theorem at_45_43 : am_at 45 43 = some (.getfield 12, 46, 0, [3, 0, 3, 166]) := rfl
set_option maxRecDepth 20000 in
theorem at_45_46 : am_at 45 46 = some (.getfield 130, 49, 0, [6, 0, 0, 84]) := rfl
set_option maxRecDepth 20000 in
theorem at_45_49 : am_at 45 49 = some (.invokevirtual 156, 52, 46, [0, 2, 2, 464, 465, 466, 58]) := rfl
set_option maxRecDepth 20000 in
theorem at_45_52 : am_at 45 52 = some (.ifCond .ne 22, 55, 74, []) := rfl
set_option maxRecDepth 20000 in
theorem at_45_55 : am_at 45 55 = some (.aload_n 1, 56, 1, []) := rfl
set_option maxRecDepth 20000 in
theorem at_45_56 : am_at 45 56 = some (.getfield 62, 59, 0, [1, 3, 3, 363]) := rfl
set_option maxRecDepth 20000 in
theorem at_45_59 : am_at 45 59 = some (.iload_n 2, 60, 2, []) := rfl
set_option maxRecDepth 20000 in
theorem at_45_60 : am_at 45 60 = some (.iconst 0, 61, 0, []) := rfl
set_option maxRecDepth 20000 in
theorem at_45_61 : am_at 45 61 = some (.iastore, 62, 0, []) := rfl
set_option maxRecDepth 20000 in
theorem at_45_62 : am_at 45 62 = some (.aload_n 1, 63, 1, []) := rfl
set_option maxRecDepth 20000 in
theorem at_45_63 : am_at 45 63 = some (.getfield 160, 66, 0, [1, 9, 3, 375]) := rfl
set_option maxRecDepth 20000 in
theorem at_45_66 : am_at 45 66 = some (.iconst 3, 67, 3, []) := rfl
set_option maxRecDepth 20000 in
theorem at_45_67 : am_at 45 67 = some (.dup2, 68, 0, []) := rfl
set_option maxRecDepth 20000 in
theorem at_45_68 : am_at 45 68 = some (.iaload, 69, 0, []) := rfl
set_option maxRecDepth 20000 in
theorem at_45_69 : am_at 45 69 = some (.iconst 1, 70, 1, []) := rfl
set_option maxRecDepth 20000 in
theorem at_45_70 : am_at 45 70 = some (.iadd, 71, 0, []) := rfl
set_option maxRecDepth 20000 in
theorem at_45_71 : am_at 45 71 = some (.iastore, 72, 0, []) := rfl
set_option maxRecDepth 20000 in
theorem at_45_72 : am_at 45 72 = some (.iconst 2, 73, 2, []) := rfl
set_option maxRecDepth 20000 in
theorem at_45_73 : am_at 45 73 = some (.ireturn, 74, 0, [0]) := rfl
set_option maxRecDepth 20000 in
theorem at_45_74 : am_at 45 74 = some (.aload_n 1, 75, 1, []) := rfl
set_option maxRecDepth 20000 in
theorem at_45_75 : am_at 45 75 = some (.getfield 62, 78, 0, [1, 3, 3, 363]) := rfl
set_option maxRecDepth 20000 in
theorem at_45_78 : am_at 45 78 = some (.iload_n 2, 79, 2, []) := rfl
set_option maxRecDepth 20000 in
theorem at_45_79 : am_at 45 79 = some (.dup2, 80, 0, []) := rfl
set_option maxRecDepth 20000 in
theorem at_45_80 : am_at 45 80 = some (.iaload, 81, 0, []) := rfl
set_option maxRecDepth 20000 in
theorem at_45_81 : am_at 45 81 = some (.iconst 1, 82, 1, []) := rfl
set_option maxRecDepth 20000 in
theorem at_45_82 : am_at 45 82 = some (.isub, 83, 0, []) := rfl
set_option maxRecDepth 20000 in
theorem at_45_83 : am_at 45 83 = some (.iastore, 84, 0, []) := rfl
set_option maxRecDepth 20000 in
theorem at_45_84 : am_at 45 84 = some (.aload_n 1, 85, 1, []) := rfl
set_option maxRecDepth 20000 in
theorem at_45_85 : am_at 45 85 = some (.getfield 62, 88, 0, [1, 3, 3, 363]) := rfl
set_option maxRecDepth 20000 in
theorem at_45_88 : am_at 45 88 = some (.iload_n 2, 89, 2, []) := rfl
set_option maxRecDepth 20000 in
theorem at_45_89 : am_at 45 89 = some (.iaload, 90, 0, []) := rfl
set_option maxRecDepth 20000 in
theorem at_45_90 : am_at 45 90 = some (.ifCond .le 5, 93, 95, []) := rfl
set_option maxRecDepth 20000 in
theorem at_45_93 : am_at 45 93 = some (.iconst 3, 94, 3, []) := rfl
set_option maxRecDepth 20000 in
theorem at_45_94 : am_at 45 94 = some (.ireturn, 95, 0, [0]) := rfl
set_option maxRecDepth 20000 in
theorem at_45_95 : am_at 45 95 = some (.aload_n 0, 96, 0, []) := rfl
set_option maxRecDepth 20000 in
theorem at_45_96 : am_at 45 96 = some (.getfield 12, 99, 0, [3, 0, 3, 166]) := rfl
set_option maxRecDepth 20000 in
theorem at_45_99 : am_at 45 99 = some (.aload_n 0, 100, 0, []) := rfl
set_option maxRecDepth 20000 in
theorem at_45_100 : am_at 45 100 = some (.getfield 21, 103, 0, [3, 1, 3, 168]) := rfl
set_option maxRecDepth 20000 in
theorem at_45_103 : am_at 45 103 = some (.iload_n 3, 104, 3, []) := rfl
set_option maxRecDepth 20000 in
theorem at_45_104 : am_at 45 104 = some (.aload_n 0, 105, 0, []) := rfl
set_option maxRecDepth 20000 in
theorem at_45_105 : am_at 45 105 = some (.getfield 12, 108, 0, [3, 0, 3, 166]) := rfl
set_option maxRecDepth 20000 in
theorem at_45_108 : am_at 45 108 = some (.getfield 130, 111, 0, [6, 0, 0, 84]) := rfl
set_option maxRecDepth 20000 in
theorem at_45_111 : am_at 45 111 = some (.invokevirtual 163, 114, 47, [0, 2, 2, 468, 469, 470, 58]) := rfl
set_option maxRecDepth 20000 in
theorem at_45_114 : am_at 45 114 = some (.putfield 130, 117, 0, [6, 0, 0, 84]) := rfl
set_option maxRecDepth 20000 in
theorem at_45_117 : am_at 45 117 = some (.aload_n 0, 118, 0, []) := rfl
set_option maxRecDepth 20000 in
theorem at_45_118 : am_at 45 118 = some (.getfield 12, 121, 0, [3, 0, 3, 166]) := rfl
set_option maxRecDepth 20000 in
theorem at_45_121 : am_at 45 121 = some (.aload_n 0, 122, 0, []) := rfl
set_option maxRecDepth 20000 in
theorem at_45_122 : am_at 45 122 = some (.getfield 21, 125, 0, [3, 1, 3, 168]) := rfl
set_option maxRecDepth 20000 in
theorem at_45_125 : am_at 45 125 = some (.getfield 167, 128, 0, [2, 7, 3, 120]) := rfl
set_option maxRecDepth 20000 in
theorem at_45_128 : am_at 45 128 = some (.iload_n 3, 129, 3, []) := rfl
set_option maxRecDepth 20000 in
theorem at_45_129 : am_at 45 129 = some (.iaload, 130, 0, []) := rfl
set_option maxRecDepth 20000 in
theorem at_45_130 : am_at 45 130 = some (.aload_n 0, 131, 0, []) := rfl
set_option maxRecDepth 20000 in
theorem at_45_131 : am_at 45 131 = some (.getfield 21, 134, 0, [3, 1, 3, 168]) := rfl
set_option maxRecDepth 20000 in
theorem at_45_134 : am_at 45 134 = some (.getfield 170, 137, 0, [2, 8, 3, 122]) := rfl
set_option maxRecDepth 20000 in
theorem at_45_137 : am_at 45 137 = some (.iload_n 3, 138, 3, []) := rfl
set_option maxRecDepth 20000 in
theorem at_45_138 : am_at 45 138 = some (.iaload, 139, 0, []) := rfl
set_option maxRecDepth 20000 in
theorem at_45_139 : am_at 45 139 = some (.invokevirtual 173, 142, 37, [0, 2, 6, 427, 428, 429, 57]) := rfl
set_option maxRecDepth 20000 in
theorem at_45_142 : am_at 45 142 = some (.aload_n 1, 143, 1, []) := rfl
set_option maxRecDepth 20000 in
theorem at_45_143 : am_at 45 143 = some (.getfield 160, 146, 0, [1, 9, 3, 375]) := rfl
set_option maxRecDepth 20000 in
theorem at_45_146 : am_at 45 146 = some (.iconst 1, 147, 1, []) := rfl
set_option maxRecDepth 20000 in
theorem at_45_147 : am_at 45 147 = some (.dup2, 148, 0, []) := rfl
set_option maxRecDepth 20000 in
theorem at_45_148 : am_at 45 148 = some (.iaload, 149, 0, []) := rfl
set_option maxRecDepth 20000 in
theorem at_45_149 : am_at 45 149 = some (.iconst 1, 150, 1, []) := rfl
set_option maxRecDepth 20000 in
theorem at_45_150 : am_at 45 150 = some (.iadd, 151, 0, []) := rfl
set_option maxRecDepth 20000 in
theorem at_45_151 : am_at 45 151 = some (.iastore, 152, 0, []) := rfl
set_option maxRecDepth 20000 in
theorem at_45_152 : am_at 45 152 = some (.iconst 1, 153, 1, []) := rfl
set_option maxRecDepth 20000 in
theorem at_45_153 : am_at 45 153 = some (.ireturn, 154, 0, [0]) := rfl
set_option maxRecDepth 20000 in
theorem at_46_0 : am_at 46 0 = some (.iload_n 2, 1, 2, []) := rfl
set_option maxRecDepth 20000 in
theorem at_46_1 : am_at 46 1 = some (.aload_n 0, 2, 0, []) := rfl
set_option maxRecDepth 20000 in
theorem at_46_2 : am_at 46 2 = some (.getfield 21, 5, 0, [2, 4, 3, 116]) := rfl
set_option maxRecDepth 20000 in
theorem at_46_5 : am_at 46 5 = some (.iload_n 1, 6, 1, []) := rfl
set_option maxRecDepth 20000 in
theorem at_46_6 : am_at 46 6 = some (.iaload, 7, 0, []) := rfl
set_option maxRecDepth 20000 in
theorem at_46_7 : am_at 46 7 = some (.ixor, 8, 0, []) := rfl
set_option maxRecDepth 20000 in
theorem at_46_8 : am_at 46 8 = some (.aload_n 0, 9, 0, []) := rfl
set_option maxRecDepth 20000 in
theorem at_46_9 : am_at 46 9 = some (.getfield 18, 12, 0, [2, 3, 3, 115]) := rfl
set_option maxRecDepth 20000 in
theorem at_46_12 : am_at 46 12 = some (.iload_n 1, 13, 1, []) := rfl
set_option maxRecDepth 20000 in
theorem at_46_13 : am_at 46 13 = some (.iaload, 14, 0, []) := rfl
set_option maxRecDepth 20000 in
theorem at_46_14 : am_at 46 14 = some (.iand, 15, 0, []) := rfl
set_option maxRecDepth 20000 in
theorem at_46_15 : am_at 46 15 = some (.ifCond .ne 7, 18, 22, []) := rfl
set_option maxRecDepth 20000 in
theorem at_46_18 : am_at 46 18 = some (.iconst 1, 19, 1, []) := rfl
set_option maxRecDepth 20000 in
theorem at_46_19 : am_at 46 19 = some (.goto 4, 22, 23, []) := rfl
set_option maxRecDepth 20000 in
theorem at_46_22 : am_at 46 22 = some (.iconst 0, 23, 0, []) := rfl
set_option maxRecDepth 20000 in
theorem at_46_23 : am_at 46 23 = some (.ireturn, 24, 0, [1]) := rfl
set_option maxRecDepth 20000 in
theorem at_47_0 : am_at 47 0 = some (.iload_n 2, 1, 2, []) := rfl
set_option maxRecDepth 20000 in
theorem at_47_1 : am_at 47 1 = some (.aload_n 0, 2, 0, []) := rfl
set_option maxRecDepth 20000 in
theorem at_47_2 : am_at 47 2 = some (.getfield 24, 5, 0, [2, 5, 3, 117]) := rfl
set_option maxRecDepth 20000 in
theorem at_47_5 : am_at 47 5 = some (.iload_n 1, 6, 1, []) := rfl
set_option maxRecDepth 20000 in
theorem at_47_6 : am_at 47 6 = some (.iaload, 7, 0, []) := rfl
set_option maxRecDepth 20000 in
theorem at_47_7 : am_at 47 7 = some (.iconst (-1), 8, 4294967295, []) := rfl
set_option maxRecDepth 20000 in
theorem at_47_8 : am_at 47 8 = some (.ixor, 9, 0, []) := rfl
set_option maxRecDepth 20000 in
theorem at_47_9 : am_at 47 9 = some (.iand, 10, 0, []) := rfl
set_option maxRecDepth 20000 in
theorem at_47_10 : am_at 47 10 = some (.aload_n 0, 11, 0, []) := rfl
set_option maxRecDepth 20000 in
theorem at_47_11 : am_at 47 11 = some (.getfield 27, 14, 0, [2, 6, 3, 118]) := rfl
set_option maxRecDepth 20000 in
theorem at_47_14 : am_at 47 14 = some (.iload_n 1, 15, 1, []) := rfl
set_option maxRecDepth 20000 in
theorem at_47_15 : am_at 47 15 = some (.iaload, 16, 0, []) := rfl
set_option maxRecDepth 20000 in
theorem at_47_16 : am_at 47 16 = some (.aload_n 0, 17, 0, []) := rfl
set_option maxRecDepth 20000 in
theorem at_47_17 : am_at 47 17 = some (.getfield 24, 20, 0, [2, 5, 3, 117]) := rfl
set_option maxRecDepth 20000 in
theorem at_47_20 : am_at 47 20 = some (.iload_n 1, 21, 1, []) := rfl
set_option maxRecDepth 20000 in
theorem at_47_21 : am_at 47 21 = some (.iaload, 22, 0, []) := rfl
set_option maxRecDepth 20000 in
theorem at_47_22 : am_at 47 22 = some (.iand, 23, 0, []) := rfl
set_option maxRecDepth 20000 in
theorem at_47_23 : am_at 47 23 = some (.ior, 24, 0, []) := rfl
set_option maxRecDepth 20000 in
theorem at_47_24 : am_at 47 24 = some (.ireturn, 25, 0, [0]) := rfl
set_option maxRecDepth 20000 in
theorem at_48_0 : am_at 48 0 = some (.aload_n 1, 1, 1, []) := rfl
set_option maxRecDepth 20000 in
theorem at_48_1 : am_at 48 1 = some (.getfield 36, 4, 0, [1, 0, 3, 354]) := rfl
set_option maxRecDepth 20000 in
theorem at_48_4 : am_at 48 4 = some (.getfield 118, 7, 0, [5, 3, 3, 271]) := rfl
set_option maxRecDepth 20000 in
theorem at_48_7 : am_at 48 7 = some (.iload_n 2, 8, 2, []) := rfl
set_option maxRecDepth 20000 in
theorem at_48_8 : am_at 48 8 = some (.iaload, 9, 0, []) := rfl
set_option maxRecDepth 20000 in
theorem at_48_9 : am_at 48 9 = some (.istore_n 3, 10, 3, []) := rfl
set_option maxRecDepth 20000 in
theorem at_48_10 : am_at 48 10 = some (.aload_n 1, 11, 1, []) := rfl
set_option maxRecDepth 20000 in
theorem at_48_11 : am_at 48 11 = some (.getfield 36, 14, 0, [1, 0, 3, 354]) := rfl
set_option maxRecDepth 20000 in
theorem at_48_14 : am_at 48 14 = some (.getfield 124, 17, 0, [5, 4, 3, 275]) := rfl
set_option maxRecDepth 20000 in
theorem at_48_17 : am_at 48 17 = some (.iload_n 2, 18, 2, []) := rfl
set_option maxRecDepth 20000 in
theorem at_48_18 : am_at 48 18 = some (.iaload, 19, 0, []) := rfl
set_option maxRecDepth 20000 in
theorem at_48_19 : am_at 48 19 = some (.istore 4, 21, 4, []) := rfl
set_option maxRecDepth 20000 in
theorem at_48_21 : am_at 48 21 = some (.aload_n 1, 22, 1, []) := rfl
set_option maxRecDepth 20000 in
theorem at_48_22 : am_at 48 22 = some (.getfield 36, 25, 0, [1, 0, 3, 354]) := rfl
set_option maxRecDepth 20000 in
theorem at_48_25 : am_at 48 25 = some (.getfield 127, 28, 0, [5, 5, 3, 278]) := rfl
set_option maxRecDepth 20000 in
theorem at_48_28 : am_at 48 28 = some (.iload_n 2, 29, 2, []) := rfl
set_option maxRecDepth 20000 in
theorem at_48_29 : am_at 48 29 = some (.iaload, 30, 0, []) := rfl
set_option maxRecDepth 20000 in
theorem at_48_30 : am_at 48 30 = some (.istore 5, 32, 5, []) := rfl
set_option maxRecDepth 20000 in
theorem at_48_32 : am_at 48 32 = some (.iload_n 3, 33, 3, []) := rfl
set_option maxRecDepth 20000 in
theorem at_48_33 : am_at 48 33 = some (.iconst 4, 34, 4, []) := rfl
set_option maxRecDepth 20000 in
theorem at_48_34 : am_at 48 34 = some (.if_icmp .ne 21, 37, 55, []) := rfl
set_option maxRecDepth 20000 in
theorem at_48_37 : am_at 48 37 = some (.aload_n 0, 38, 0, []) := rfl
set_option maxRecDepth 20000 in
theorem at_48_38 : am_at 48 38 = some (.getfield 12, 41, 0, [3, 0, 3, 166]) := rfl
set_option maxRecDepth 20000 in
theorem at_48_41 : am_at 48 41 = some (.getfield 130, 44, 0, [6, 0, 0, 84]) := rfl
set_option maxRecDepth 20000 in
theorem at_48_44 : am_at 48 44 = some (.iconst 1, 45, 1, []) := rfl
set_option maxRecDepth 20000 in
theorem at_48_45 : am_at 48 45 = some (.iload 5, 47, 5, []) := rfl
set_option maxRecDepth 20000 in
theorem at_48_47 : am_at 48 47 = some (.ishl, 48, 0, []) := rfl
set_option maxRecDepth 20000 in
theorem at_48_48 : am_at 48 48 = some (.sipush 255, 51, 255, []) := rfl
set_option maxRecDepth 20000 in
theorem at_48_51 : am_at 48 51 = some (.invokestatic 133, 54, 49, [1, 3, 476, 477, 55]) := rfl
set_option maxRecDepth 20000 in
theorem at_48_54 : am_at 48 54 = some (.ireturn, 55, 0, [1]) := rfl
set_option maxRecDepth 20000 in
theorem at_48_55 : am_at 48 55 = some (.aload_n 0, 56, 0, []) := rfl
set_option maxRecDepth 20000 in
theorem at_48_56 : am_at 48 56 = some (.getfield 12, 59, 0, [3, 0, 3, 166]) := rfl
set_option maxRecDepth 20000 in
theorem at_48_59 : am_at 48 59 = some (.iload 4, 61, 4, []) := rfl
set_option maxRecDepth 20000 in
theorem at_48_61 : am_at 48 61 = some (.iload_n 3, 62, 3, []) := rfl
set_option maxRecDepth 20000 in
theorem at_48_62 : am_at 48 62 = some (.invokestatic 137, 65, 50, [0, 1, 479, 480, 56]) := rfl
set_option maxRecDepth 20000 in
theorem at_48_65 : am_at 48 65 = some (.iload 5, 67, 5, []) := rfl
set_option maxRecDepth 20000 in
theorem at_48_67 : am_at 48 67 = some (.invokevirtual 140, 70, 51, [0, 3, 6, 482, 483, 484, 57]) := rfl
set_option maxRecDepth 20000 in
theorem at_48_70 : am_at 48 70 = some (.istore 6, 72, 6, []) := rfl
set_option maxRecDepth 20000 in
theorem at_48_72 : am_at 48 72 = some (.iload 6, 74, 6, []) := rfl
set_option maxRecDepth 20000 in
theorem at_48_74 : am_at 48 74 = some (.ifCond .eq 12, 77, 86, []) := rfl
set_option maxRecDepth 20000 in
theorem at_48_77 : am_at 48 77 = some (.aload_n 1, 78, 1, []) := rfl
set_option maxRecDepth 20000 in
theorem at_48_78 : am_at 48 78 = some (.iload_n 2, 79, 2, []) := rfl
set_option maxRecDepth 20000 in
theorem at_48_79 : am_at 48 79 = some (.iload 6, 81, 6, []) := rfl
set_option maxRecDepth 20000 in
theorem at_48_81 : am_at 48 81 = some (.invokevirtual 144, 84, 52, [0, 2, 1, 486, 487, 488, 62]) := rfl
set_option maxRecDepth 20000 in
theorem at_48_84 : am_at 48 84 = some (.iconst 0, 85, 0, []) := rfl
set_option maxRecDepth 20000 in
theorem at_48_85 : am_at 48 85 = some (.ireturn, 86, 0, [1]) := rfl
set_option maxRecDepth 20000 in
theorem at_48_86 : am_at 48 86 = some (.aload_n 0, 87, 0, []) := rfl
set_option maxRecDepth 20000 in
theorem at_48_87 : am_at 48 87 = some (.getfield 12, 90, 0, [3, 0, 3, 166]) := rfl
set_option maxRecDepth 20000 in
theorem at_48_90 : am_at 48 90 = some (.iload_n 3, 91, 3, []) := rfl
set_option maxRecDepth 20000 in
theorem at_48_91 : am_at 48 91 = some (.iload 4, 93, 4, []) := rfl
set_option maxRecDepth 20000 in
theorem at_48_93 : am_at 48 93 = some (.iload 5, 95, 5, []) := rfl
set_option maxRecDepth 20000 in
theorem at_48_95 : am_at 48 95 = some (.invokevirtual 147, 98, 53, [0, 3, 6, 490, 491, 492, 57]) := rfl
set_option maxRecDepth 20000 in
theorem at_48_98 : am_at 48 98 = some (.ireturn, 99, 0, [1]) := rfl
set_option maxRecDepth 20000 in
theorem at_49_0 : am_at 49 0 = some (.iload_n 0, 1, 0, []) := rfl
set_option maxRecDepth 20000 in
theorem at_49_1 : am_at 49 1 = some (.iload_n 2, 2, 2, []) := rfl
set_option maxRecDepth 20000 in
theorem at_49_2 : am_at 49 2 = some (.ixor, 3, 0, []) := rfl
set_option maxRecDepth 20000 in
theorem at_49_3 : am_at 49 3 = some (.iload_n 1, 4, 1, []) := rfl
set_option maxRecDepth 20000 in
theorem at_49_4 : am_at 49 4 = some (.iand, 5, 0, []) := rfl
set_option maxRecDepth 20000 in
theorem at_49_5 : am_at 49 5 = some (.ifCond .ne 7, 8, 12, []) := rfl
set_option maxRecDepth 20000 in
theorem at_49_8 : am_at 49 8 = some (.iconst 1, 9, 1, []) := rfl
set_option maxRecDepth 20000 in
theorem at_49_9 : am_at 49 9 = some (.goto 4, 12, 13, []) := rfl
set_option maxRecDepth 20000 in
theorem at_49_12 : am_at 49 12 = some (.iconst 0, 13, 0, []) := rfl
set_option maxRecDepth 20000 in
theorem at_49_13 : am_at 49 13 = some (.ireturn, 14, 0, [1]) := rfl
set_option maxRecDepth 20000 in
theorem at_50_0 : am_at 50 0 = some (.iload_n 0, 1, 0, []) := rfl
set_option maxRecDepth 20000 in
theorem at_50_1 : am_at 50 1 = some (.lookupswitch 31 #[(2, 27), (3, 29)], 28, 32, [28, 30]) := rfl
set_option maxRecDepth 20000 in
theorem at_50_28 : am_at 50 28 = some (.iconst 2, 29, 2, []) := rfl
set_option maxRecDepth 20000 in
theorem at_50_29 : am_at 50 29 = some (.ireturn, 30, 0, [0]) := rfl
set_option maxRecDepth 20000 in
theorem at_50_30 : am_at 50 30 = some (.iconst 3, 31, 3, []) := rfl
set_option maxRecDepth 20000 in
theorem at_50_31 : am_at 50 31 = some (.ireturn, 32, 0, [0]) := rfl
set_option maxRecDepth 20000 in
theorem at_50_32 : am_at 50 32 = some (.iconst 1, 33, 1, []) := rfl
set_option maxRecDepth 20000 in
theorem at_50_33 : am_at 50 33 = some (.ireturn, 34, 0, [0]) := rfl
set_option maxRecDepth 20000 in
theorem at_51_0 : am_at 51 0 = some (.aload_n 0, 1, 0, []) := rfl
set_option maxRecDepth 20000 in
theorem at_51_1 : am_at 51 1 = some (.getfield 9, 4, 0, [6, 1, 3, 86]) := rfl
set_option maxRecDepth 20000 in
theorem at_51_4 : am_at 51 4 = some (.iload_n 1, 5, 1, []) := rfl
set_option maxRecDepth 20000 in
theorem at_51_5 : am_at 51 5 = some (.iaload, 6, 0, []) := rfl
set_option maxRecDepth 20000 in
theorem at_51_6 : am_at 51 6 = some (.ifCond .ne 5, 9, 11, []) := rfl
set_option maxRecDepth 20000 in
theorem at_51_9 : am_at 51 9 = some (.iconst 1, 10, 1, []) := rfl
set_option maxRecDepth 20000 in
theorem at_51_10 : am_at 51 10 = some (.ireturn, 11, 0, [0]) := rfl
set_option maxRecDepth 20000 in
theorem at_51_11 : am_at 51 11 = some (.aload_n 0, 12, 0, []) := rfl
set_option maxRecDepth 20000 in
theorem at_51_12 : am_at 51 12 = some (.getfield 9, 15, 0, [6, 1, 3, 86]) := rfl
set_option maxRecDepth 20000 in
theorem at_51_15 : am_at 51 15 = some (.iload_n 1, 16, 1, []) := rfl
set_option maxRecDepth 20000 in
theorem at_51_16 : am_at 51 16 = some (.iaload, 17, 0, []) := rfl
set_option maxRecDepth 20000 in
theorem at_51_17 : am_at 51 17 = some (.iload_n 2, 18, 2, []) := rfl
set_option maxRecDepth 20000 in
theorem at_51_18 : am_at 51 18 = some (.if_icmp .eq 5, 21, 23, []) := rfl
set_option maxRecDepth 20000 in
theorem at_51_21 : am_at 51 21 = some (.iconst 3, 22, 3, []) := rfl
set_option maxRecDepth 20000 in
theorem at_51_22 : am_at 51 22 = some (.ireturn, 23, 0, [0]) := rfl
set_option maxRecDepth 20000 in
theorem at_51_23 : am_at 51 23 = some (.iload_n 2, 24, 2, []) := rfl
set_option maxRecDepth 20000 in
theorem at_51_24 : am_at 51 24 = some (.iconst 3, 25, 3, []) := rfl
set_option maxRecDepth 20000 in
theorem at_51_25 : am_at 51 25 = some (.if_icmp .ne 23, 28, 48, []) := rfl
set_option maxRecDepth 20000 in
theorem at_51_28 : am_at 51 28 = some (.iload_n 3, 29, 3, []) := rfl
set_option maxRecDepth 20000 in
theorem at_51_29 : am_at 51 29 = some (.ifCond .lt 15, 32, 44, []) := rfl
set_option maxRecDepth 20000 in
theorem at_51_32 : am_at 51 32 = some (.iload_n 3, 33, 3, []) := rfl
set_option maxRecDepth 20000 in
theorem at_51_33 : am_at 51 33 = some (.i2l, 34, 0, []) := rfl
set_option maxRecDepth 20000 in
theorem at_51_34 : am_at 51 34 = some (.aload_n 0, 35, 0, []) := rfl
set_option maxRecDepth 20000 in
theorem at_51_35 : am_at 51 35 = some (.getfield 15, 38, 0, [6, 2, 3, 88]) := rfl
set_option maxRecDepth 20000 in
theorem at_51_38 : am_at 51 38 = some (.iload_n 1, 39, 1, []) := rfl
set_option maxRecDepth 20000 in
theorem at_51_39 : am_at 51 39 = some (.laload, 40, 0, []) := rfl
set_option maxRecDepth 20000 in
theorem at_51_40 : am_at 51 40 = some (.lcmp, 41, 0, []) := rfl
set_option maxRecDepth 20000 in
theorem at_51_41 : am_at 51 41 = some (.ifCond .lt 7, 44, 48, []) := rfl
set_option maxRecDepth 20000 in
theorem at_51_44 : am_at 51 44 = some (.iconst 2, 45, 2, []) := rfl
set_option maxRecDepth 20000 in
theorem at_51_45 : am_at 51 45 = some (.goto 4, 48, 49, []) := rfl
set_option maxRecDepth 20000 in
theorem at_51_48 : am_at 51 48 = some (.iconst 0, 49, 0, []) := rfl
set_option maxRecDepth 20000 in
theorem at_51_49 : am_at 51 49 = some (.ireturn, 50, 0, [0]) := rfl
set_option maxRecDepth 20000 in
theorem at_52_0 : am_at 52 0 = some (.aload_n 0, 1, 0, []) := rfl
set_option maxRecDepth 20000 in
theorem at_52_1 : am_at 52 1 = some (.getfield 37, 4, 0, [1, 9, 3, 374]) := rfl
set_option maxRecDepth 20000 in
theorem at_52_4 : am_at 52 4 = some (.iconst 4, 5, 4, []) := rfl
set_option maxRecDepth 20000 in
theorem at_52_5 : am_at 52 5 = some (.dup2, 6, 0, []) := rfl
set_option maxRecDepth 20000 in
theorem at_52_6 : am_at 52 6 = some (.iaload, 7, 0, []) := rfl
set_option maxRecDepth 20000 in
theorem at_52_7 : am_at 52 7 = some (.iconst 1, 8, 1, []) := rfl
set_option maxRecDepth 20000 in
theorem at_52_8 : am_at 52 8 = some (.iadd, 9, 0, []) := rfl
set_option maxRecDepth 20000 in
theorem at_52_9 : am_at 52 9 = some (.iastore, 10, 0, []) := rfl
set_option maxRecDepth 20000 in
theorem at_52_10 : am_at 52 10 = some (.aload_n 0, 11, 0, []) := rfl
set_option maxRecDepth 20000 in
theorem at_52_11 : am_at 52 11 = some (.getfield 37, 14, 0, [1, 9, 3, 374]) := rfl
set_option maxRecDepth 20000 in
theorem at_52_14 : am_at 52 14 = some (.iconst 5, 15, 5, []) := rfl
set_option maxRecDepth 20000 in
theorem at_52_15 : am_at 52 15 = some (.iload_n 2, 16, 2, []) := rfl
set_option maxRecDepth 20000 in
theorem at_52_16 : am_at 52 16 = some (.iastore, 17, 0, []) := rfl
set_option maxRecDepth 20000 in
theorem at_52_17 : am_at 52 17 = some (.aload_n 0, 18, 0, []) := rfl
set_option maxRecDepth 20000 in
theorem at_52_18 : am_at 52 18 = some (.getfield 37, 21, 0, [1, 9, 3, 374]) := rfl
set_option maxRecDepth 20000 in
theorem at_52_21 : am_at 52 21 = some (.bipush 6, 23, 6, []) := rfl
set_option maxRecDepth 20000 in
theorem at_52_23 : am_at 52 23 = some (.iload_n 1, 24, 1, []) := rfl
set_option maxRecDepth 20000 in
theorem at_52_24 : am_at 52 24 = some (.iastore, 25, 0, []) := rfl
set_option maxRecDepth 20000 in
theorem at_52_25 : am_at 52 25 = some (.return_, 26, 0, []) := rfl
set_option maxRecDepth 20000 in
theorem at_53_0 : am_at 53 0 = some (.iload_n 1, 1, 1, []) := rfl
set_option maxRecDepth 20000 in
theorem at_53_1 : am_at 53 1 = some (.tableswitch 80 0 2 #[27, 45, 63], 28, 81, [28, 46, 64]) := rfl
set_option maxRecDepth 20000 in
theorem at_53_28 : am_at 53 28 = some (.aload_n 0, 29, 0, []) := rfl
set_option maxRecDepth 20000 in
theorem at_53_29 : am_at 53 29 = some (.getfield 15, 32, 0, [6, 2, 3, 88]) := rfl
set_option maxRecDepth 20000 in
theorem at_53_32 : am_at 53 32 = some (.iload_n 2, 33, 2, []) := rfl
set_option maxRecDepth 20000 in
theorem at_53_33 : am_at 53 33 = some (.laload, 34, 0, []) := rfl
set_option maxRecDepth 20000 in
theorem at_53_34 : am_at 53 34 = some (.iload_n 3, 35, 3, []) := rfl
set_option maxRecDepth 20000 in
theorem at_53_35 : am_at 53 35 = some (.i2l, 36, 0, []) := rfl
set_option maxRecDepth 20000 in
theorem at_53_36 : am_at 53 36 = some (.lcmp, 37, 0, []) := rfl
set_option maxRecDepth 20000 in
theorem at_53_37 : am_at 53 37 = some (.ifCond .le 7, 40, 44, []) := rfl
set_option maxRecDepth 20000 in
theorem at_53_40 : am_at 53 40 = some (.iconst 1, 41, 1, []) := rfl
set_option maxRecDepth 20000 in
theorem at_53_41 : am_at 53 41 = some (.goto 4, 44, 45, []) := rfl
set_option maxRecDepth 20000 in
theorem at_53_44 : am_at 53 44 = some (.iconst 0, 45, 0, []) := rfl
set_option maxRecDepth 20000 in
theorem at_53_45 : am_at 53 45 = some (.ireturn, 46, 0, [1]) := rfl
set_option maxRecDepth 20000 in
theorem at_53_46 : am_at 53 46 = some (.aload_n 0, 47, 0, []) := rfl
set_option maxRecDepth 20000 in
theorem at_53_47 : am_at 53 47 = some (.getfield 15, 50, 0, [6, 2, 3, 88]) := rfl
set_option maxRecDepth 20000 in
theorem at_53_50 : am_at 53 50 = some (.iload_n 2, 51, 2, []) := rfl
set_option maxRecDepth 20000 in
theorem at_53_51 : am_at 53 51 = some (.laload, 52, 0, []) := rfl
set_option maxRecDepth 20000 in
theorem at_53_52 : am_at 53 52 = some (.iload_n 3, 53, 3, []) := rfl
set_option maxRecDepth 20000 in
theorem at_53_53 : am_at 53 53 = some (.i2l, 54, 0, []) := rfl
set_option maxRecDepth 20000 in
theorem at_53_54 : am_at 53 54 = some (.lcmp, 55, 0, []) := rfl
set_option maxRecDepth 20000 in
theorem at_53_55 : am_at 53 55 = some (.ifCond .ne 7, 58, 62, []) := rfl
set_option maxRecDepth 20000 in
theorem at_53_58 : am_at 53 58 = some (.iconst 1, 59, 1, []) := rfl
set_option maxRecDepth 20000 in
theorem at_53_59 : am_at 53 59 = some (.goto 4, 62, 63, []) := rfl
set_option maxRecDepth 20000 in
theorem at_53_62 : am_at 53 62 = some (.iconst 0, 63, 0, []) := rfl
set_option maxRecDepth 20000 in
theorem at_53_63 : am_at 53 63 = some (.ireturn, 64, 0, [1]) := rfl
set_option maxRecDepth 20000 in
theorem at_53_64 : am_at 53 64 = some (.aload_n 0, 65, 0, []) := rfl
set_option maxRecDepth 20000 in
theorem at_53_65 : am_at 53 65 = some (.getfield 15, 68, 0, [6, 2, 3, 88]) := rfl
set_option maxRecDepth 20000 in
theorem at_53_68 : am_at 53 68 = some (.iload_n 2, 69, 2, []) := rfl
set_option maxRecDepth 20000 in
theorem at_53_69 : am_at 53 69 = some (.laload, 70, 0, []) := rfl
set_option maxRecDepth 20000 in
theorem at_53_70 : am_at 53 70 = some (.lconst 0, 71, 0, []) := rfl
set_option maxRecDepth 20000 in
theorem at_53_71 : am_at 53 71 = some (.lcmp, 72, 0, []) := rfl
set_option maxRecDepth 20000 in
theorem at_53_72 : am_at 53 72 = some (.ifCond .eq 7, 75, 79, []) := rfl
set_option maxRecDepth 20000 in
theorem at_53_75 : am_at 53 75 = some (.iconst 1, 76, 1, []) := rfl
set_option maxRecDepth 20000 in
theorem at_53_76 : am_at 53 76 = some (.goto 4, 79, 80, []) := rfl
set_option maxRecDepth 20000 in
theorem at_53_79 : am_at 53 79 = some (.iconst 0, 80, 0, []) := rfl
set_option maxRecDepth 20000 in
theorem at_53_80 : am_at 53 80 = some (.ireturn, 81, 0, [1]) := rfl
set_option maxRecDepth 20000 in
theorem at_53_81 : am_at 53 81 = some (.aload_n 0, 82, 0, []) := rfl
set_option maxRecDepth 20000 in
theorem at_53_82 : am_at 53 82 = some (.getfield 19, 85, 0, [6, 3, 3, 90]) := rfl
set_option maxRecDepth 20000 in
theorem at_53_85 : am_at 53 85 = some (.iload_n 2, 86, 2, []) := rfl
set_option maxRecDepth 20000 in
theorem at_53_86 : am_at 53 86 = some (.bipush 6, 88, 6, []) := rfl
set_option maxRecDepth 20000 in
theorem at_53_88 : am_at 53 88 = some (.imul, 89, 0, []) := rfl
set_option maxRecDepth 20000 in
theorem at_53_89 : am_at 53 89 = some (.iload_n 3, 90, 3, []) := rfl
set_option maxRecDepth 20000 in
theorem at_53_90 : am_at 53 90 = some (.iadd, 91, 0, []) := rfl
set_option maxRecDepth 20000 in
theorem at_53_91 : am_at 53 91 = some (.iaload, 92, 0, []) := rfl
set_option maxRecDepth 20000 in
theorem at_53_92 : am_at 53 92 = some (.ifCond .le 7, 95, 99, []) := rfl
set_option maxRecDepth 20000 in
theorem at_53_95 : am_at 53 95 = some (.iconst 1, 96, 1, []) := rfl
set_option maxRecDepth 20000 in
theorem at_53_96 : am_at 53 96 = some (.goto 4, 99, 100, []) := rfl
set_option maxRecDepth 20000 in
theorem at_53_99 : am_at 53 99 = some (.iconst 0, 100, 0, []) := rfl
set_option maxRecDepth 20000 in
theorem at_53_100 : am_at 53 100 = some (.ireturn, 101, 0, [1]) := rfl
set_option maxRecDepth 20000 in
theorem at_54_0 : am_at 54 0 = some (.aload_n 1, 1, 1, []) := rfl
set_option maxRecDepth 20000 in
theorem at_54_1 : am_at 54 1 = some (.getfield 36, 4, 0, [1, 0, 3, 354]) := rfl
set_option maxRecDepth 20000 in
theorem at_54_4 : am_at 54 4 = some (.astore 5, 6, 5, []) := rfl
set_option maxRecDepth 20000 in
theorem at_54_6 : am_at 54 6 = some (.aload 5, 8, 5, []) := rfl
set_option maxRecDepth 20000 in
theorem at_54_8 : am_at 54 8 = some (.getfield 84, 11, 0, [5, 2, 3, 267]) := rfl
set_option maxRecDepth 20000 in
theorem at_54_11 : am_at 54 11 = some (.iload_n 2, 12, 2, []) := rfl
set_option maxRecDepth 20000 in
theorem at_54_12 : am_at 54 12 = some (.iaload, 13, 0, []) := rfl
set_option maxRecDepth 20000 in
theorem at_54_13 : am_at 54 13 = some (.bipush 7, 15, 7, []) := rfl
set_option maxRecDepth 20000 in
theorem at_54_15 : am_at 54 15 = some (.if_icmp .ne 7, 18, 22, []) := rfl
set_option maxRecDepth 20000 in
theorem at_54_18 : am_at 54 18 = some (.iconst 1, 19, 1, []) := rfl
set_option maxRecDepth 20000 in
theorem at_54_19 : am_at 54 19 = some (.goto 4, 22, 23, []) := rfl
set_option maxRecDepth 20000 in
theorem at_54_22 : am_at 54 22 = some (.iconst 0, 23, 0, []) := rfl
set_option maxRecDepth 20000 in
theorem at_54_23 : am_at 54 23 = some (.istore 6, 25, 6, []) := rfl
set_option maxRecDepth 20000 in
theorem at_54_25 : am_at 54 25 = some (.iload 6, 27, 6, []) := rfl
set_option maxRecDepth 20000 in
theorem at_54_27 : am_at 54 27 = some (.ifCond .eq 12, 30, 39, []) := rfl
set_option maxRecDepth 20000 in
theorem at_54_30 : am_at 54 30 = some (.aload_n 1, 31, 1, []) := rfl
set_option maxRecDepth 20000 in
theorem at_54_31 : am_at 54 31 = some (.getfield 115, 34, 0, [1, 4, 3, 366]) := rfl
set_option maxRecDepth 20000 in
theorem at_54_34 : am_at 54 34 = some (.iload_n 2, 35, 2, []) := rfl
set_option maxRecDepth 20000 in
theorem at_54_35 : am_at 54 35 = some (.iaload, 36, 0, []) := rfl
set_option maxRecDepth 20000 in
theorem at_54_36 : am_at 54 36 = some (.goto 4, 39, 40, []) := rfl
set_option maxRecDepth 20000 in
theorem at_54_39 : am_at 54 39 = some (.iconst 0, 40, 0, []) := rfl
set_option maxRecDepth 20000 in
theorem at_54_40 : am_at 54 40 = some (.istore 7, 42, 7, []) := rfl
set_option maxRecDepth 20000 in
theorem at_54_42 : am_at 54 42 = some (.iload 4, 44, 4, []) := rfl
set_option maxRecDepth 20000 in
theorem at_54_44 : am_at 54 44 = some (.istore 8, 46, 8, []) := rfl
set_option maxRecDepth 20000 in
theorem at_54_46 : am_at 54 46 = some (.iload_n 2, 47, 2, []) := rfl
set_option maxRecDepth 20000 in
theorem at_54_47 : am_at 54 47 = some (.iconst 1, 48, 1, []) := rfl
set_option maxRecDepth 20000 in
theorem at_54_48 : am_at 54 48 = some (.iadd, 49, 0, []) := rfl
set_option maxRecDepth 20000 in
theorem at_54_49 : am_at 54 49 = some (.istore 9, 51, 9, []) := rfl
set_option maxRecDepth 20000 in
theorem at_54_51 : am_at 54 51 = some (.iconst 0, 52, 0, []) := rfl
set_option maxRecDepth 20000 in
theorem at_54_52 : am_at 54 52 = some (.istore 10, 54, 10, []) := rfl
set_option maxRecDepth 20000 in
theorem at_54_54 : am_at 54 54 = some (.iload 10, 56, 10, []) := rfl
set_option maxRecDepth 20000 in
theorem at_54_56 : am_at 54 56 = some (.aload 5, 58, 5, []) := rfl
set_option maxRecDepth 20000 in
theorem at_54_58 : am_at 54 58 = some (.getfield 118, 61, 0, [5, 3, 3, 271]) := rfl
set_option maxRecDepth 20000 in
theorem at_54_61 : am_at 54 61 = some (.iload_n 2, 62, 2, []) := rfl
set_option maxRecDepth 20000 in
theorem at_54_62 : am_at 54 62 = some (.iaload, 63, 0, []) := rfl
set_option maxRecDepth 20000 in
theorem at_54_63 : am_at 54 63 = some (.if_icmp .ge 77, 66, 140, []) := rfl
set_option maxRecDepth 20000 in
theorem at_54_66 : am_at 54 66 = some (.iload 8, 68, 8, []) := rfl
set_option maxRecDepth 20000 in
theorem at_54_68 : am_at 54 68 = some (.iload 4, 70, 4, []) := rfl
set_option maxRecDepth 20000 in
theorem at_54_70 : am_at 54 70 = some (.if_icmp .ne 70, 73, 140, []) := rfl
set_option maxRecDepth 20000 in
theorem at_54_73 : am_at 54 73 = some (.iload 9, 75, 9, []) := rfl
set_option maxRecDepth 20000 in
theorem at_54_75 : am_at 54 75 = some (.aload 5, 77, 5, []) := rfl
set_option maxRecDepth 20000 in
theorem at_54_77 : am_at 54 77 = some (.getfield 57, 80, 0, [5, 0, 0, 262]) := rfl
set_option maxRecDepth 20000 in
theorem at_54_80 : am_at 54 80 = some (.if_icmp .ge 60, 83, 140, []) := rfl
set_option maxRecDepth 20000 in
theorem at_54_83 : am_at 54 83 = some (.iload 10, 85, 10, []) := rfl
set_option maxRecDepth 20000 in
theorem at_54_85 : am_at 54 85 = some (.iload 7, 87, 7, []) := rfl
set_option maxRecDepth 20000 in
theorem at_54_87 : am_at 54 87 = some (.if_icmp .lt 15, 90, 102, []) := rfl
set_option maxRecDepth 20000 in
theorem at_54_90 : am_at 54 90 = some (.aload_n 0, 91, 0, []) := rfl
set_option maxRecDepth 20000 in
theorem at_54_91 : am_at 54 91 = some (.aload_n 1, 92, 1, []) := rfl
set_option maxRecDepth 20000 in
theorem at_54_92 : am_at 54 92 = some (.iload 9, 94, 9, []) := rfl
set_option maxRecDepth 20000 in
theorem at_54_94 : am_at 54 94 = some (.iload_n 3, 95, 3, []) := rfl
set_option maxRecDepth 20000 in
theorem at_54_95 : am_at 54 95 = some (.iconst 1, 96, 1, []) := rfl
set_option maxRecDepth 20000 in
theorem at_54_96 : am_at 54 96 = some (.iadd, 97, 0, []) := rfl
set_option maxRecDepth 20000 in
theorem at_54_97 : am_at 54 97 = some (.invokevirtual 49, 100, 42, [0, 3, 3, 448, 450, 6, 56]) := rfl
set_option maxRecDepth 20000 in
theorem at_54_100 : am_at 54 100 = some (.istore 8, 102, 8, []) := rfl
set_option maxRecDepth 20000 in
theorem at_54_102 : am_at 54 102 = some (.iload 6, 104, 6, []) := rfl
set_option maxRecDepth 20000 in
theorem at_54_104 : am_at 54 104 = some (.ifCond .eq 17, 107, 121, []) := rfl
set_option maxRecDepth 20000 in
theorem at_54_107 : am_at 54 107 = some (.iload 8, 109, 8, []) := rfl
set_option maxRecDepth 20000 in
theorem at_54_109 : am_at 54 109 = some (.iconst 3, 110, 3, []) := rfl
set_option maxRecDepth 20000 in
theorem at_54_110 : am_at 54 110 = some (.if_icmp .ne 11, 113, 121, []) := rfl
set_option maxRecDepth 20000 in
theorem at_54_113 : am_at 54 113 = some (.aload_n 1, 114, 1, []) := rfl
set_option maxRecDepth 20000 in
theorem at_54_114 : am_at 54 114 = some (.getfield 115, 117, 0, [1, 4, 3, 366]) := rfl
set_option maxRecDepth 20000 in
theorem at_54_117 : am_at 54 117 = some (.iload_n 2, 118, 2, []) := rfl
set_option maxRecDepth 20000 in
theorem at_54_118 : am_at 54 118 = some (.iload 10, 120, 10, []) := rfl
set_option maxRecDepth 20000 in
theorem at_54_120 : am_at 54 120 = some (.iastore, 121, 0, []) := rfl
set_option maxRecDepth 20000 in
theorem at_54_121 : am_at 54 121 = some (.iload 9, 123, 9, []) := rfl
set_option maxRecDepth 20000 in
theorem at_54_123 : am_at 54 123 = some (.aload 5, 125, 5, []) := rfl
set_option maxRecDepth 20000 in
theorem at_54_125 : am_at 54 125 = some (.getfield 121, 128, 0, [5, 7, 3, 284]) := rfl
set_option maxRecDepth 20000 in
theorem at_54_128 : am_at 54 128 = some (.iload 9, 130, 9, []) := rfl
set_option maxRecDepth 20000 in
theorem at_54_130 : am_at 54 130 = some (.iaload, 131, 0, []) := rfl
set_option maxRecDepth 20000 in
theorem at_54_131 : am_at 54 131 = some (.iadd, 132, 0, []) := rfl
set_option maxRecDepth 20000 in
theorem at_54_132 : am_at 54 132 = some (.istore 9, 134, 9, []) := rfl
set_option maxRecDepth 20000 in
theorem at_54_134 : am_at 54 134 = some (.iinc 10 1, 137, 10, []) := rfl
set_option maxRecDepth 20000 in
theorem at_54_137 : am_at 54 137 = some (.goto (-83), 140, 54, []) := rfl
set_option maxRecDepth 20000 in
theorem at_54_140 : am_at 54 140 = some (.iload 8, 142, 8, []) := rfl
set_option maxRecDepth 20000 in
theorem at_54_142 : am_at 54 142 = some (.ireturn, 143, 0, [0]) := rfl
set_option maxRecDepth 20000 in
theorem at_55_0 : am_at 55 0 = some (.aload_n 1, 1, 1, []) := rfl
set_option maxRecDepth 20000 in
theorem at_55_1 : am_at 55 1 = some (.getfield 36, 4, 0, [1, 0, 3, 354]) := rfl
set_option maxRecDepth 20000 in
theorem at_55_4 : am_at 55 4 = some (.astore 4, 6, 4, []) := rfl
set_option maxRecDepth 20000 in
theorem at_55_6 : am_at 55 6 = some (.iconst 0, 7, 0, []) := rfl
set_option maxRecDepth 20000 in
theorem at_55_7 : am_at 55 7 = some (.istore 5, 9, 5, []) := rfl
set_option maxRecDepth 20000 in
theorem at_55_9 : am_at 55 9 = some (.iconst 0, 10, 0, []) := rfl
set_option maxRecDepth 20000 in
theorem at_55_10 : am_at 55 10 = some (.istore 6, 12, 6, []) := rfl
set_option maxRecDepth 20000 in
theorem at_55_12 : am_at 55 12 = some (.iload_n 2, 13, 2, []) := rfl
set_option maxRecDepth 20000 in
theorem at_55_13 : am_at 55 13 = some (.iconst 1, 14, 1, []) := rfl
set_option maxRecDepth 20000 in
theorem at_55_14 : am_at 55 14 = some (.iadd, 15, 0, []) := rfl
set_option maxRecDepth 20000 in
theorem at_55_15 : am_at 55 15 = some (.istore 7, 17, 7, []) := rfl
set_option maxRecDepth 20000 in
theorem at_55_17 : am_at 55 17 = some (.iconst 0, 18, 0, []) := rfl
set_option maxRecDepth 20000 in
theorem at_55_18 : am_at 55 18 = some (.istore 8, 20, 8, []) := rfl
set_option maxRecDepth 20000 in
theorem at_55_20 : am_at 55 20 = some (.iload 8, 22, 8, []) := rfl
set_option maxRecDepth 20000 in
theorem at_55_22 : am_at 55 22 = some (.aload 4, 24, 4, []) := rfl
set_option maxRecDepth 20000 in
theorem at_55_24 : am_at 55 24 = some (.getfield 118, 27, 0, [5, 3, 3, 271]) := rfl
set_option maxRecDepth 20000 in
theorem at_55_27 : am_at 55 27 = some (.iload_n 2, 28, 2, []) := rfl
set_option maxRecDepth 20000 in
theorem at_55_28 : am_at 55 28 = some (.iaload, 29, 0, []) := rfl
set_option maxRecDepth 20000 in
theorem at_55_29 : am_at 55 29 = some (.if_icmp .ge 76, 32, 105, []) := rfl
set_option maxRecDepth 20000 in
theorem at_55_32 : am_at 55 32 = some (.iload 7, 34, 7, []) := rfl
set_option maxRecDepth 20000 in
theorem at_55_34 : am_at 55 34 = some (.aload 4, 36, 4, []) := rfl
set_option maxRecDepth 20000 in
theorem at_55_36 : am_at 55 36 = some (.getfield 57, 39, 0, [5, 0, 0, 262]) := rfl
set_option maxRecDepth 20000 in
theorem at_55_39 : am_at 55 39 = some (.if_icmp .ge 66, 42, 105, []) := rfl
set_option maxRecDepth 20000 in
theorem at_55_42 : am_at 55 42 = some (.aload_n 0, 43, 0, []) := rfl
set_option maxRecDepth 20000 in
theorem at_55_43 : am_at 55 43 = some (.aload_n 1, 44, 1, []) := rfl
set_option maxRecDepth 20000 in
theorem at_55_44 : am_at 55 44 = some (.iload 7, 46, 7, []) := rfl
set_option maxRecDepth 20000 in
theorem at_55_46 : am_at 55 46 = some (.iload_n 3, 47, 3, []) := rfl
set_option maxRecDepth 20000 in
theorem at_55_47 : am_at 55 47 = some (.iconst 1, 48, 1, []) := rfl
set_option maxRecDepth 20000 in
theorem at_55_48 : am_at 55 48 = some (.iadd, 49, 0, []) := rfl
set_option maxRecDepth 20000 in
theorem at_55_49 : am_at 55 49 = some (.invokevirtual 49, 52, 42, [0, 3, 3, 448, 450, 6, 56]) := rfl
set_option maxRecDepth 20000 in
theorem at_55_52 : am_at 55 52 = some (.istore 9, 54, 9, []) := rfl
set_option maxRecDepth 20000 in
theorem at_55_54 : am_at 55 54 = some (.iload 5, 56, 5, []) := rfl
set_option maxRecDepth 20000 in
theorem at_55_56 : am_at 55 56 = some (.iload 9, 58, 9, []) := rfl
set_option maxRecDepth 20000 in
theorem at_55_58 : am_at 55 58 = some (.iconst 1, 59, 1, []) := rfl
set_option maxRecDepth 20000 in
theorem at_55_59 : am_at 55 59 = some (.if_icmp .ne 7, 62, 66, []) := rfl
set_option maxRecDepth 20000 in
theorem at_55_62 : am_at 55 62 = some (.iconst 1, 63, 1, []) := rfl
set_option maxRecDepth 20000 in
theorem at_55_63 : am_at 55 63 = some (.goto 4, 66, 67, []) := rfl
set_option maxRecDepth 20000 in
theorem at_55_66 : am_at 55 66 = some (.iconst 0, 67, 0, []) := rfl
set_option maxRecDepth 20000 in
theorem at_55_67 : am_at 55 67 = some (.iadd, 68, 0, []) := rfl
set_option maxRecDepth 20000 in
theorem at_55_68 : am_at 55 68 = some (.istore 5, 70, 5, []) := rfl
set_option maxRecDepth 20000 in
theorem at_55_70 : am_at 55 70 = some (.iload 6, 72, 6, []) := rfl
set_option maxRecDepth 20000 in
theorem at_55_72 : am_at 55 72 = some (.iload 9, 74, 9, []) := rfl
set_option maxRecDepth 20000 in
theorem at_55_74 : am_at 55 74 = some (.iconst 3, 75, 3, []) := rfl
set_option maxRecDepth 20000 in
theorem at_55_75 : am_at 55 75 = some (.if_icmp .ne 7, 78, 82, []) := rfl
set_option maxRecDepth 20000 in
theorem at_55_78 : am_at 55 78 = some (.iconst 1, 79, 1, []) := rfl
set_option maxRecDepth 20000 in
theorem at_55_79 : am_at 55 79 = some (.goto 4, 82, 83, []) := rfl
set_option maxRecDepth 20000 in
theorem at_55_82 : am_at 55 82 = some (.iconst 0, 83, 0, []) := rfl
set_option maxRecDepth 20000 in
theorem at_55_83 : am_at 55 83 = some (.iadd, 84, 0, []) := rfl
set_option maxRecDepth 20000 in
theorem at_55_84 : am_at 55 84 = some (.istore 6, 86, 6, []) := rfl
set_option maxRecDepth 20000 in
theorem at_55_86 : am_at 55 86 = some (.iload 7, 88, 7, []) := rfl
set_option maxRecDepth 20000 in
theorem at_55_88 : am_at 55 88 = some (.aload 4, 90, 4, []) := rfl
set_option maxRecDepth 20000 in
theorem at_55_90 : am_at 55 90 = some (.getfield 121, 93, 0, [5, 7, 3, 284]) := rfl
set_option maxRecDepth 20000 in
theorem at_55_93 : am_at 55 93 = some (.iload 7, 95, 7, []) := rfl
set_option maxRecDepth 20000 in
theorem at_55_95 : am_at 55 95 = some (.iaload, 96, 0, []) := rfl
set_option maxRecDepth 20000 in
theorem at_55_96 : am_at 55 96 = some (.iadd, 97, 0, []) := rfl
set_option maxRecDepth 20000 in
theorem at_55_97 : am_at 55 97 = some (.istore 7, 99, 7, []) := rfl
set_option maxRecDepth 20000 in
theorem at_55_99 : am_at 55 99 = some (.iinc 8 1, 102, 8, []) := rfl
set_option maxRecDepth 20000 in
theorem at_55_102 : am_at 55 102 = some (.goto (-82), 105, 20, []) := rfl
set_option maxRecDepth 20000 in
theorem at_55_105 : am_at 55 105 = some (.iload 5, 107, 5, []) := rfl
set_option maxRecDepth 20000 in
theorem at_55_107 : am_at 55 107 = some (.aload 4, 109, 4, []) := rfl
set_option maxRecDepth 20000 in
theorem at_55_109 : am_at 55 109 = some (.getfield 124, 112, 0, [5, 4, 3, 275]) := rfl
set_option maxRecDepth 20000 in
theorem at_55_112 : am_at 55 112 = some (.iload_n 2, 113, 2, []) := rfl
set_option maxRecDepth 20000 in
theorem at_55_113 : am_at 55 113 = some (.iaload, 114, 0, []) := rfl
set_option maxRecDepth 20000 in
theorem at_55_114 : am_at 55 114 = some (.if_icmp .lt 5, 117, 119, []) := rfl
set_option maxRecDepth 20000 in
theorem at_55_117 : am_at 55 117 = some (.iconst 1, 118, 1, []) := rfl
set_option maxRecDepth 20000 in
theorem at_55_118 : am_at 55 118 = some (.ireturn, 119, 0, [0]) := rfl
set_option maxRecDepth 20000 in
theorem at_55_119 : am_at 55 119 = some (.iload 5, 121, 5, []) := rfl
set_option maxRecDepth 20000 in
theorem at_55_121 : am_at 55 121 = some (.iload 6, 123, 6, []) := rfl
set_option maxRecDepth 20000 in
theorem at_55_123 : am_at 55 123 = some (.iadd, 124, 0, []) := rfl
set_option maxRecDepth 20000 in
theorem at_55_124 : am_at 55 124 = some (.aload 4, 126, 4, []) := rfl
set_option maxRecDepth 20000 in
theorem at_55_126 : am_at 55 126 = some (.getfield 124, 129, 0, [5, 4, 3, 275]) := rfl
set_option maxRecDepth 20000 in
theorem at_55_129 : am_at 55 129 = some (.iload_n 2, 130, 2, []) := rfl
set_option maxRecDepth 20000 in
theorem at_55_130 : am_at 55 130 = some (.iaload, 131, 0, []) := rfl
set_option maxRecDepth 20000 in
theorem at_55_131 : am_at 55 131 = some (.if_icmp .ge 7, 134, 138, []) := rfl
set_option maxRecDepth 20000 in
theorem at_55_134 : am_at 55 134 = some (.iconst 2, 135, 2, []) := rfl
set_option maxRecDepth 20000 in
theorem at_55_135 : am_at 55 135 = some (.goto 4, 138, 139, []) := rfl
set_option maxRecDepth 20000 in
theorem at_55_138 : am_at 55 138 = some (.iconst 3, 139, 3, []) := rfl
set_option maxRecDepth 20000 in
theorem at_55_139 : am_at 55 139 = some (.ireturn, 140, 0, [0]) := rfl
set_option maxRecDepth 20000 in
theorem at_56_0 : am_at 56 0 = some (.aload_n 0, 1, 0, []) := rfl
set_option maxRecDepth 20000 in
theorem at_56_1 : am_at 56 1 = some (.aload_n 1, 2, 1, []) := rfl
set_option maxRecDepth 20000 in
theorem at_56_2 : am_at 56 2 = some (.iload_n 2, 3, 2, []) := rfl
set_option maxRecDepth 20000 in
theorem at_56_3 : am_at 56 3 = some (.iconst 1, 4, 1, []) := rfl
set_option maxRecDepth 20000 in
theorem at_56_4 : am_at 56 4 = some (.iadd, 5, 0, []) := rfl
set_option maxRecDepth 20000 in
theorem at_56_5 : am_at 56 5 = some (.iload_n 3, 6, 3, []) := rfl
set_option maxRecDepth 20000 in
theorem at_56_6 : am_at 56 6 = some (.iconst 1, 7, 1, []) := rfl
set_option maxRecDepth 20000 in
theorem at_56_7 : am_at 56 7 = some (.iadd, 8, 0, []) := rfl
set_option maxRecDepth 20000 in
theorem at_56_8 : am_at 56 8 = some (.invokevirtual 49, 11, 42, [0, 3, 3, 448, 450, 6, 56]) := rfl
set_option maxRecDepth 20000 in
theorem at_56_11 : am_at 56 11 = some (.istore 4, 13, 4, []) := rfl
set_option maxRecDepth 20000 in
theorem at_56_13 : am_at 56 13 = some (.iload 4, 15, 4, []) := rfl
set_option maxRecDepth 20000 in
theorem at_56_15 : am_at 56 15 = some (.iconst 1, 16, 1, []) := rfl
set_option maxRecDepth 20000 in
theorem at_56_16 : am_at 56 16 = some (.if_icmp .eq 6, 19, 22, []) := rfl
set_option maxRecDepth 20000 in
theorem at_56_19 : am_at 56 19 = some (.iload 4, 21, 4, []) := rfl
set_option maxRecDepth 20000 in
theorem at_56_21 : am_at 56 21 = some (.ireturn, 22, 0, [0]) := rfl
set_option maxRecDepth 20000 in
theorem at_56_22 : am_at 56 22 = some (.aload_n 1, 23, 1, []) := rfl
set_option maxRecDepth 20000 in
theorem at_56_23 : am_at 56 23 = some (.getfield 115, 26, 0, [1, 4, 3, 366]) := rfl
set_option maxRecDepth 20000 in
theorem at_56_26 : am_at 56 26 = some (.iload_n 2, 27, 2, []) := rfl
set_option maxRecDepth 20000 in
theorem at_56_27 : am_at 56 27 = some (.dup2, 28, 0, []) := rfl
set_option maxRecDepth 20000 in
theorem at_56_28 : am_at 56 28 = some (.iaload, 29, 0, []) := rfl
set_option maxRecDepth 20000 in
theorem at_56_29 : am_at 56 29 = some (.iconst 1, 30, 1, []) := rfl
set_option maxRecDepth 20000 in
theorem at_56_30 : am_at 56 30 = some (.iadd, 31, 0, []) := rfl
set_option maxRecDepth 20000 in
theorem at_56_31 : am_at 56 31 = some (.iastore, 32, 0, []) := rfl
set_option maxRecDepth 20000 in
theorem at_56_32 : am_at 56 32 = some (.aload_n 1, 33, 1, []) := rfl
set_option maxRecDepth 20000 in
theorem at_56_33 : am_at 56 33 = some (.getfield 115, 36, 0, [1, 4, 3, 366]) := rfl
set_option maxRecDepth 20000 in
theorem at_56_36 : am_at 56 36 = some (.iload_n 2, 37, 2, []) := rfl
set_option maxRecDepth 20000 in
theorem at_56_37 : am_at 56 37 = some (.iaload, 38, 0, []) := rfl
set_option maxRecDepth 20000 in
theorem at_56_38 : am_at 56 38 = some (.aload_n 1, 39, 1, []) := rfl
set_option maxRecDepth 20000 in
theorem at_56_39 : am_at 56 39 = some (.getfield 36, 42, 0, [1, 0, 3, 354]) := rfl
set_option maxRecDepth 20000 in
theorem at_56_42 : am_at 56 42 = some (.getfield 118, 45, 0, [5, 3, 3, 271]) := rfl
set_option maxRecDepth 20000 in
theorem at_56_45 : am_at 56 45 = some (.iload_n 2, 46, 2, []) := rfl
set_option maxRecDepth 20000 in
theorem at_56_46 : am_at 56 46 = some (.iaload, 47, 0, []) := rfl
set_option maxRecDepth 20000 in
theorem at_56_47 : am_at 56 47 = some (.if_icmp .lt 7, 50, 54, []) := rfl
set_option maxRecDepth 20000 in
theorem at_56_50 : am_at 56 50 = some (.iconst 1, 51, 1, []) := rfl
set_option maxRecDepth 20000 in
theorem at_56_51 : am_at 56 51 = some (.goto 4, 54, 55, []) := rfl
set_option maxRecDepth 20000 in
theorem at_56_54 : am_at 56 54 = some (.iconst 3, 55, 3, []) := rfl
set_option maxRecDepth 20000 in
theorem at_56_55 : am_at 56 55 = some (.ireturn, 56, 0, [0]) := rfl
set_option maxRecDepth 20000 in
theorem at_57_0 : am_at 57 0 = some (.iload_n 0, 1, 0, []) := rfl
set_option maxRecDepth 20000 in
theorem at_57_1 : am_at 57 1 = some (.lookupswitch 31 #[(1, 27), (2, 29)], 28, 32, [28, 30]) := rfl
set_option maxRecDepth 20000 in
theorem at_57_28 : am_at 57 28 = some (.iconst 2, 29, 2, []) := rfl
set_option maxRecDepth 20000 in
theorem at_57_29 : am_at 57 29 = some (.ireturn, 30, 0, [0]) := rfl
set_option maxRecDepth 20000 in
theorem at_57_30 : am_at 57 30 = some (.iconst 1, 31, 1, []) := rfl
set_option maxRecDepth 20000 in
theorem at_57_31 : am_at 57 31 = some (.ireturn, 32, 0, [0]) := rfl
set_option maxRecDepth 20000 in
theorem at_57_32 : am_at 57 32 = some (.iload_n 0, 33, 0, []) := rfl
set_option maxRecDepth 20000 in
theorem at_57_33 : am_at 57 33 = some (.ireturn, 34, 0, [0]) := rfl
set_option maxRecDepth 20000 in
theorem at_58_0 : am_at 58 0 = some (.aload_n 0, 1, 0, []) := rfl
set_option maxRecDepth 20000 in
theorem at_58_1 : am_at 58 1 = some (.aload_n 1, 2, 1, []) := rfl
set_option maxRecDepth 20000 in
theorem at_58_2 : am_at 58 2 = some (.iload_n 2, 3, 2, []) := rfl
set_option maxRecDepth 20000 in
theorem at_58_3 : am_at 58 3 = some (.invokevirtual 176, 6, 59, [0, 2, 3, 513, 515, 14, 56]) := rfl
set_option maxRecDepth 20000 in
theorem at_58_6 : am_at 58 6 = some (.ifCond .eq 5, 9, 11, []) := rfl
set_option maxRecDepth 20000 in
theorem at_58_9 : am_at 58 9 = some (.iconst 1, 10, 1, []) := rfl
set_option maxRecDepth 20000 in
theorem at_58_10 : am_at 58 10 = some (.ireturn, 11, 0, [0]) := rfl
set_option maxRecDepth 20000 in
theorem at_58_11 : am_at 58 11 = some (.aload_n 0, 12, 0, []) := rfl
set_option maxRecDepth 20000 in
theorem at_58_12 : am_at 58 12 = some (.aload_n 1, 13, 1, []) := rfl
set_option maxRecDepth 20000 in
theorem at_58_13 : am_at 58 13 = some (.iload_n 2, 14, 2, []) := rfl
set_option maxRecDepth 20000 in
theorem at_58_14 : am_at 58 14 = some (.invokevirtual 179, 17, 60, [0, 2, 3, 517, 519, 15, 56]) := rfl
set_option maxRecDepth 20000 in
theorem at_58_17 : am_at 58 17 = some (.ifCond .eq 80, 20, 97, []) := rfl
set_option maxRecDepth 20000 in
theorem at_58_20 : am_at 58 20 = some (.aload_n 0, 21, 0, []) := rfl
set_option maxRecDepth 20000 in
theorem at_58_21 : am_at 58 21 = some (.aload_n 0, 22, 0, []) := rfl
set_option maxRecDepth 20000 in
theorem at_58_22 : am_at 58 22 = some (.getfield 182, 25, 0, [3, 3, 3, 172]) := rfl
set_option maxRecDepth 20000 in
theorem at_58_25 : am_at 58 25 = some (.ifnonnull 13, 28, 38, []) := rfl
set_option maxRecDepth 20000 in
theorem at_58_28 : am_at 58 28 = some (.new 186, 31, 4, [521, 522, 63]) := rfl
set_option maxRecDepth 20000 in
theorem at_58_31 : am_at 58 31 = some (.dup, 32, 0, []) := rfl
set_option maxRecDepth 20000 in
theorem at_58_32 : am_at 58 32 = some (.invokespecial 188, 35, 61, [1, 0, 4, 523, 524, 63]) := rfl
set_option maxRecDepth 20000 in
theorem at_58_35 : am_at 58 35 = some (.goto 7, 38, 42, []) := rfl
set_option maxRecDepth 20000 in
theorem at_58_38 : am_at 58 38 = some (.aload_n 0, 39, 0, []) := rfl
set_option maxRecDepth 20000 in
theorem at_58_39 : am_at 58 39 = some (.getfield 182, 42, 0, [3, 3, 3, 172]) := rfl
set_option maxRecDepth 20000 in
theorem at_58_42 : am_at 58 42 = some (.putfield 182, 45, 0, [3, 3, 3, 172]) := rfl
set_option maxRecDepth 20000 in
theorem at_58_45 : am_at 58 45 = some (.aload_n 0, 46, 0, []) := rfl
set_option maxRecDepth 20000 in
theorem at_58_46 : am_at 58 46 = some (.getfield 182, 49, 0, [3, 3, 3, 172]) := rfl
set_option maxRecDepth 20000 in
theorem at_58_49 : am_at 58 49 = some (.aload_n 0, 50, 0, []) := rfl
set_option maxRecDepth 20000 in
theorem at_58_50 : am_at 58 50 = some (.getfield 21, 53, 0, [3, 1, 3, 168]) := rfl
set_option maxRecDepth 20000 in
theorem at_58_53 : am_at 58 53 = some (.aload_n 0, 54, 0, []) := rfl
set_option maxRecDepth 20000 in
theorem at_58_54 : am_at 58 54 = some (.getfield 12, 57, 0, [3, 0, 3, 166]) := rfl
set_option maxRecDepth 20000 in
theorem at_58_57 : am_at 58 57 = some (.getfield 130, 60, 0, [6, 0, 0, 84]) := rfl
set_option maxRecDepth 20000 in
theorem at_58_60 : am_at 58 60 = some (.aload_n 1, 61, 1, []) := rfl
set_option maxRecDepth 20000 in
theorem at_58_61 : am_at 58 61 = some (.getfield 36, 64, 0, [1, 0, 3, 354]) := rfl
set_option maxRecDepth 20000 in
theorem at_58_64 : am_at 58 64 = some (.getfield 118, 67, 0, [5, 3, 3, 271]) := rfl
set_option maxRecDepth 20000 in
theorem at_58_67 : am_at 58 67 = some (.iload_n 2, 68, 2, []) := rfl
set_option maxRecDepth 20000 in
theorem at_58_68 : am_at 58 68 = some (.iaload, 69, 0, []) := rfl
set_option maxRecDepth 20000 in
theorem at_58_69 : am_at 58 69 = some (.aload_n 1, 70, 1, []) := rfl
set_option maxRecDepth 20000 in
theorem at_58_70 : am_at 58 70 = some (.getfield 36, 73, 0, [1, 0, 3, 354]) := rfl
set_option maxRecDepth 20000 in
theorem at_58_73 : am_at 58 73 = some (.getfield 124, 76, 0, [5, 4, 3, 275]) := rfl
set_option maxRecDepth 20000 in
theorem at_58_76 : am_at 58 76 = some (.iload_n 2, 77, 2, []) := rfl
set_option maxRecDepth 20000 in
theorem at_58_77 : am_at 58 77 = some (.iaload, 78, 0, []) := rfl
set_option maxRecDepth 20000 in
theorem at_58_78 : am_at 58 78 = some (.invokevirtual 189, 81, 62, [0, 4, 4, 566, 567, 568, 63]) := rfl
set_option maxRecDepth 20000 in
theorem at_58_81 : am_at 58 81 = some (.aload_n 1, 82, 1, []) := rfl
set_option maxRecDepth 20000 in
theorem at_58_82 : am_at 58 82 = some (.iload_n 2, 83, 2, []) := rfl
set_option maxRecDepth 20000 in
theorem at_58_83 : am_at 58 83 = some (.aload_n 0, 84, 0, []) := rfl
set_option maxRecDepth 20000 in
theorem at_58_84 : am_at 58 84 = some (.getfield 182, 87, 0, [3, 3, 3, 172]) := rfl
set_option maxRecDepth 20000 in
theorem at_58_87 : am_at 58 87 = some (.aload_n 0, 88, 0, []) := rfl
set_option maxRecDepth 20000 in
theorem at_58_88 : am_at 58 88 = some (.getfield 12, 91, 0, [3, 0, 3, 166]) := rfl
set_option maxRecDepth 20000 in
theorem at_58_91 : am_at 58 91 = some (.getfield 130, 94, 0, [6, 0, 0, 84]) := rfl
set_option maxRecDepth 20000 in
theorem at_58_94 : am_at 58 94 = some (.invokevirtual 193, 97, 70, [0, 3, 1, 602, 603, 604, 62]) := rfl
set_option maxRecDepth 20000 in
theorem at_58_97 : am_at 58 97 = some (.aload_n 1, 98, 1, []) := rfl
set_option maxRecDepth 20000 in
theorem at_58_98 : am_at 58 98 = some (.getfield 197, 101, 0, [1, 5, 3, 368]) := rfl
set_option maxRecDepth 20000 in
theorem at_58_101 : am_at 58 101 = some (.iload_n 2, 102, 2, []) := rfl
set_option maxRecDepth 20000 in
theorem at_58_102 : am_at 58 102 = some (.iaload, 103, 0, []) := rfl
set_option maxRecDepth 20000 in
theorem at_58_103 : am_at 58 103 = some (.ifCond .ne 5, 106, 108, []) := rfl
set_option maxRecDepth 20000 in
theorem at_58_106 : am_at 58 106 = some (.iconst 2, 107, 2, []) := rfl
set_option maxRecDepth 20000 in
theorem at_58_107 : am_at 58 107 = some (.ireturn, 108, 0, [0]) := rfl
set_option maxRecDepth 20000 in
theorem at_58_108 : am_at 58 108 = some (.aload_n 1, 109, 1, []) := rfl
set_option maxRecDepth 20000 in
theorem at_58_109 : am_at 58 109 = some (.iload_n 2, 110, 2, []) := rfl
set_option maxRecDepth 20000 in
theorem at_58_110 : am_at 58 110 = some (.invokevirtual 87, 113, 35, [0, 1, 1, 418, 419, 420, 62]) := rfl
set_option maxRecDepth 20000 in
theorem at_58_113 : am_at 58 113 = some (.istore_n 3, 114, 3, []) := rfl
set_option maxRecDepth 20000 in
theorem at_58_114 : am_at 58 114 = some (.aload_n 0, 115, 0, []) := rfl
set_option maxRecDepth 20000 in
theorem at_58_115 : am_at 58 115 = some (.aload_n 1, 116, 1, []) := rfl
set_option maxRecDepth 20000 in
theorem at_58_116 : am_at 58 116 = some (.iload_n 2, 117, 2, []) := rfl
set_option maxRecDepth 20000 in
theorem at_58_117 : am_at 58 117 = some (.iload_n 3, 118, 3, []) := rfl
set_option maxRecDepth 20000 in
theorem at_58_118 : am_at 58 118 = some (.invokevirtual 91, 121, 45, [0, 3, 3, 460, 462, 8, 56]) := rfl
set_option maxRecDepth 20000 in
theorem at_58_121 : am_at 58 121 = some (.istore 4, 123, 4, []) := rfl
set_option maxRecDepth 20000 in
theorem at_58_123 : am_at 58 123 = some (.iload 4, 125, 4, []) := rfl
set_option maxRecDepth 20000 in
theorem at_58_125 : am_at 58 125 = some (.iconst 1, 126, 1, []) := rfl
set_option maxRecDepth 20000 in
theorem at_58_126 : am_at 58 126 = some (.if_icmp .ne 48, 129, 174, []) := rfl
set_option maxRecDepth 20000 in
theorem at_58_129 : am_at 58 129 = some (.aload_n 1, 130, 1, []) := rfl
set_option maxRecDepth 20000 in
theorem at_58_130 : am_at 58 130 = some (.getfield 200, 133, 0, [1, 7, 3, 371]) := rfl
set_option maxRecDepth 20000 in
theorem at_58_133 : am_at 58 133 = some (.iload_n 2, 134, 2, []) := rfl
set_option maxRecDepth 20000 in
theorem at_58_134 : am_at 58 134 = some (.aload_n 0, 135, 0, []) := rfl
set_option maxRecDepth 20000 in
theorem at_58_135 : am_at 58 135 = some (.getfield 21, 138, 0, [3, 1, 3, 168]) := rfl
set_option maxRecDepth 20000 in
theorem at_58_138 : am_at 58 138 = some (.iload_n 3, 139, 3, []) := rfl
set_option maxRecDepth 20000 in
theorem at_58_139 : am_at 58 139 = some (.aload_n 1, 140, 1, []) := rfl
set_option maxRecDepth 20000 in
theorem at_58_140 : am_at 58 140 = some (.getfield 200, 143, 0, [1, 7, 3, 371]) := rfl
set_option maxRecDepth 20000 in
theorem at_58_143 : am_at 58 143 = some (.iload_n 2, 144, 2, []) := rfl
set_option maxRecDepth 20000 in
theorem at_58_144 : am_at 58 144 = some (.iaload, 145, 0, []) := rfl
set_option maxRecDepth 20000 in
theorem at_58_145 : am_at 58 145 = some (.invokevirtual 163, 148, 47, [0, 2, 2, 468, 469, 470, 58]) := rfl
set_option maxRecDepth 20000 in
theorem at_58_148 : am_at 58 148 = some (.iastore, 149, 0, []) := rfl
set_option maxRecDepth 20000 in
theorem at_58_149 : am_at 58 149 = some (.aload_n 1, 150, 1, []) := rfl
set_option maxRecDepth 20000 in
theorem at_58_150 : am_at 58 150 = some (.getfield 115, 153, 0, [1, 4, 3, 366]) := rfl
set_option maxRecDepth 20000 in
theorem at_58_153 : am_at 58 153 = some (.iload_n 2, 154, 2, []) := rfl
set_option maxRecDepth 20000 in
theorem at_58_154 : am_at 58 154 = some (.dup2, 155, 0, []) := rfl
set_option maxRecDepth 20000 in
theorem at_58_155 : am_at 58 155 = some (.iaload, 156, 0, []) := rfl
set_option maxRecDepth 20000 in
theorem at_58_156 : am_at 58 156 = some (.iconst 1, 157, 1, []) := rfl
set_option maxRecDepth 20000 in
theorem at_58_157 : am_at 58 157 = some (.iadd, 158, 0, []) := rfl
set_option maxRecDepth 20000 in
theorem at_58_158 : am_at 58 158 = some (.iastore, 159, 0, []) := rfl
set_option maxRecDepth 20000 in
theorem at_58_159 : am_at 58 159 = some (.aload_n 0, 160, 0, []) := rfl
set_option maxRecDepth 20000 in
theorem at_58_160 : am_at 58 160 = some (.aload_n 1, 161, 1, []) := rfl
set_option maxRecDepth 20000 in
theorem at_58_161 : am_at 58 161 = some (.iload_n 2, 162, 2, []) := rfl
set_option maxRecDepth 20000 in
theorem at_58_162 : am_at 58 162 = some (.invokevirtual 176, 165, 59, [0, 2, 3, 513, 515, 14, 56]) := rfl
set_option maxRecDepth 20000 in
theorem at_58_165 : am_at 58 165 = some (.ifCond .eq 7, 168, 172, []) := rfl
set_option maxRecDepth 20000 in
theorem at_58_168 : am_at 58 168 = some (.iconst 1, 169, 1, []) := rfl
set_option maxRecDepth 20000 in
theorem at_58_169 : am_at 58 169 = some (.goto 4, 172, 173, []) := rfl
set_option maxRecDepth 20000 in
theorem at_58_172 : am_at 58 172 = some (.iconst 3, 173, 3, []) := rfl
set_option maxRecDepth 20000 in
theorem at_58_173 : am_at 58 173 = some (.ireturn, 174, 0, [0]) := rfl
set_option maxRecDepth 20000 in
theorem at_58_174 : am_at 58 174 = some (.iload 4, 176, 4, []) := rfl
set_option maxRecDepth 20000 in
theorem at_58_176 : am_at 58 176 = some (.iconst 2, 177, 2, []) := rfl
set_option maxRecDepth 20000 in
theorem at_58_177 : am_at 58 177 = some (.if_icmp .ne 8, 180, 185, []) := rfl
set_option maxRecDepth 20000 in
theorem at_58_180 : am_at 58 180 = some (.aload_n 1, 181, 1, []) := rfl
set_option maxRecDepth 20000 in
theorem at_58_181 : am_at 58 181 = some (.iload_n 2, 182, 2, []) := rfl
set_option maxRecDepth 20000 in
theorem at_58_182 : am_at 58 182 = some (.invokevirtual 203, 185, 71, [0, 1, 1, 606, 607, 608, 62]) := rfl
set_option maxRecDepth 20000 in
theorem at_58_185 : am_at 58 185 = some (.iload 4, 187, 4, []) := rfl
set_option maxRecDepth 20000 in
theorem at_58_187 : am_at 58 187 = some (.ireturn, 188, 0, [0]) := rfl
set_option maxRecDepth 20000 in
theorem at_59_0 : am_at 59 0 = some (.aload_n 0, 1, 0, []) := rfl
set_option maxRecDepth 20000 in
theorem at_59_1 : am_at 59 1 = some (.getfield 12, 4, 0, [3, 0, 3, 166]) := rfl
set_option maxRecDepth 20000 in
theorem at_59_4 : am_at 59 4 = some (.getfield 130, 7, 0, [6, 0, 0, 84]) := rfl
set_option maxRecDepth 20000 in
theorem at_59_7 : am_at 59 7 = some (.aload_n 1, 8, 1, []) := rfl
set_option maxRecDepth 20000 in
theorem at_59_8 : am_at 59 8 = some (.getfield 36, 11, 0, [1, 0, 3, 354]) := rfl
set_option maxRecDepth 20000 in
theorem at_59_11 : am_at 59 11 = some (.getfield 118, 14, 0, [5, 3, 3, 271]) := rfl
set_option maxRecDepth 20000 in
theorem at_59_14 : am_at 59 14 = some (.iload_n 2, 15, 2, []) := rfl
set_option maxRecDepth 20000 in
theorem at_59_15 : am_at 59 15 = some (.iaload, 16, 0, []) := rfl
set_option maxRecDepth 20000 in
theorem at_59_16 : am_at 59 16 = some (.aload_n 1, 17, 1, []) := rfl
set_option maxRecDepth 20000 in
theorem at_59_17 : am_at 59 17 = some (.getfield 36, 20, 0, [1, 0, 3, 354]) := rfl
set_option maxRecDepth 20000 in
theorem at_59_20 : am_at 59 20 = some (.getfield 124, 23, 0, [5, 4, 3, 275]) := rfl
set_option maxRecDepth 20000 in
theorem at_59_23 : am_at 59 23 = some (.iload_n 2, 24, 2, []) := rfl
set_option maxRecDepth 20000 in
theorem at_59_24 : am_at 59 24 = some (.iaload, 25, 0, []) := rfl
set_option maxRecDepth 20000 in
theorem at_59_25 : am_at 59 25 = some (.invokestatic 133, 28, 49, [1, 3, 476, 477, 55]) := rfl
set_option maxRecDepth 20000 in
theorem at_59_28 : am_at 59 28 = some (.ireturn, 29, 0, [1]) := rfl
set_option maxRecDepth 20000 in
theorem at_60_0 : am_at 60 0 = some (.aload_n 1, 1, 1, []) := rfl
set_option maxRecDepth 20000 in
theorem at_60_1 : am_at 60 1 = some (.getfield 197, 4, 0, [1, 5, 3, 368]) := rfl
set_option maxRecDepth 20000 in
theorem at_60_4 : am_at 60 4 = some (.iload_n 2, 5, 2, []) := rfl
set_option maxRecDepth 20000 in
theorem at_60_5 : am_at 60 5 = some (.iaload, 6, 0, []) := rfl
set_option maxRecDepth 20000 in
theorem at_60_6 : am_at 60 6 = some (.ifCond .eq 28, 9, 34, []) := rfl
set_option maxRecDepth 20000 in
theorem at_60_9 : am_at 60 9 = some (.aload_n 1, 10, 1, []) := rfl
set_option maxRecDepth 20000 in
theorem at_60_10 : am_at 60 10 = some (.getfield 62, 13, 0, [1, 3, 3, 363]) := rfl
set_option maxRecDepth 20000 in
theorem at_60_13 : am_at 60 13 = some (.iload_n 2, 14, 2, []) := rfl
set_option maxRecDepth 20000 in
theorem at_60_14 : am_at 60 14 = some (.iaload, 15, 0, []) := rfl
set_option maxRecDepth 20000 in
theorem at_60_15 : am_at 60 15 = some (.ifCond .ne 23, 18, 38, []) := rfl
set_option maxRecDepth 20000 in
theorem at_60_18 : am_at 60 18 = some (.aload_n 0, 19, 0, []) := rfl
set_option maxRecDepth 20000 in
theorem at_60_19 : am_at 60 19 = some (.getfield 12, 22, 0, [3, 0, 3, 166]) := rfl
set_option maxRecDepth 20000 in
theorem at_60_22 : am_at 60 22 = some (.getfield 130, 25, 0, [6, 0, 0, 84]) := rfl
set_option maxRecDepth 20000 in
theorem at_60_25 : am_at 60 25 = some (.aload_n 1, 26, 1, []) := rfl
set_option maxRecDepth 20000 in
theorem at_60_26 : am_at 60 26 = some (.getfield 200, 29, 0, [1, 7, 3, 371]) := rfl
set_option maxRecDepth 20000 in
theorem at_60_29 : am_at 60 29 = some (.iload_n 2, 30, 2, []) := rfl
set_option maxRecDepth 20000 in
theorem at_60_30 : am_at 60 30 = some (.iaload, 31, 0, []) := rfl
set_option maxRecDepth 20000 in
theorem at_60_31 : am_at 60 31 = some (.if_icmp .eq 7, 34, 38, []) := rfl
set_option maxRecDepth 20000 in
theorem at_60_34 : am_at 60 34 = some (.iconst 1, 35, 1, []) := rfl
set_option maxRecDepth 20000 in
theorem at_60_35 : am_at 60 35 = some (.goto 4, 38, 39, []) := rfl
set_option maxRecDepth 20000 in
theorem at_60_38 : am_at 60 38 = some (.iconst 0, 39, 0, []) := rfl
set_option maxRecDepth 20000 in
theorem at_60_39 : am_at 60 39 = some (.ireturn, 40, 0, [1]) := rfl
set_option maxRecDepth 20000 in
theorem at_61_0 : am_at 61 0 = some (.aload_n 0, 1, 0, []) := rfl
set_option maxRecDepth 20000 in
theorem at_61_1 : am_at 61 1 = some (.invokespecial 3, 4, 1000, [526, 70, 71]) := rfl
set_option maxRecDepth 20000 in
theorem at_61_4 : am_at 61 4 = some (.aload_n 0, 5, 0, []) := rfl
set_option maxRecDepth 20000 in
theorem at_61_5 : am_at 61 5 = some (.bipush 12, 7, 12, []) := rfl
set_option maxRecDepth 20000 in
theorem at_61_7 : am_at 61 7 = some (.newarray .int, 9, 500, [100]) := rfl
set_option maxRecDepth 20000 in
theorem at_61_9 : am_at 61 9 = some (.putfield 9, 12, 0, [4, 0, 3, 527]) := rfl
set_option maxRecDepth 20000 in
theorem at_61_12 : am_at 61 12 = some (.aload_n 0, 13, 0, []) := rfl
set_option maxRecDepth 20000 in
theorem at_61_13 : am_at 61 13 = some (.bipush 10, 15, 10, []) := rfl
set_option maxRecDepth 20000 in
theorem at_61_15 : am_at 61 15 = some (.newarray .int, 17, 504, [100]) := rfl
set_option maxRecDepth 20000 in
theorem at_61_17 : am_at 61 17 = some (.putfield 15, 20, 0, [4, 4, 3, 533]) := rfl
set_option maxRecDepth 20000 in
theorem at_61_20 : am_at 61 20 = some (.aload_n 0, 21, 0, []) := rfl
set_option maxRecDepth 20000 in
theorem at_61_21 : am_at 61 21 = some (.sipush 256, 24, 256, []) := rfl
set_option maxRecDepth 20000 in
theorem at_61_24 : am_at 61 24 = some (.newarray .int, 26, 506, [100]) := rfl
set_option maxRecDepth 20000 in
theorem at_61_26 : am_at 61 26 = some (.putfield 18, 29, 0, [4, 6, 3, 535]) := rfl
set_option maxRecDepth 20000 in
theorem at_61_29 : am_at 61 29 = some (.aload_n 0, 30, 0, []) := rfl
set_option maxRecDepth 20000 in
theorem at_61_30 : am_at 61 30 = some (.sipush 256, 33, 256, []) := rfl
set_option maxRecDepth 20000 in
theorem at_61_33 : am_at 61 33 = some (.newarray .int, 35, 508, [100]) := rfl
set_option maxRecDepth 20000 in
theorem at_61_35 : am_at 61 35 = some (.putfield 21, 38, 0, [4, 8, 3, 537]) := rfl
set_option maxRecDepth 20000 in
theorem at_61_38 : am_at 61 38 = some (.aload_n 0, 39, 0, []) := rfl
set_option maxRecDepth 20000 in
theorem at_61_39 : am_at 61 39 = some (.sipush 2560, 42, 2560, []) := rfl
set_option maxRecDepth 20000 in
theorem at_61_42 : am_at 61 42 = some (.newarray .int, 44, 510, [100]) := rfl
set_option maxRecDepth 20000 in
theorem at_61_44 : am_at 61 44 = some (.putfield 24, 47, 0, [4, 10, 3, 539]) := rfl
set_option maxRecDepth 20000 in
theorem at_61_47 : am_at 61 47 = some (.aload_n 0, 48, 0, []) := rfl
set_option maxRecDepth 20000 in
theorem at_61_48 : am_at 61 48 = some (.sipush 3328, 51, 3328, []) := rfl
set_option maxRecDepth 20000 in
theorem at_61_51 : am_at 61 51 = some (.newarray .int, 53, 511, [100]) := rfl
set_option maxRecDepth 20000 in
theorem at_61_53 : am_at 61 53 = some (.putfield 27, 56, 0, [4, 11, 3, 540]) := rfl
set_option maxRecDepth 20000 in
theorem at_61_56 : am_at 61 56 = some (.return_, 57, 0, []) := rfl
set_option maxRecDepth 20000 in
theorem at_62_0 : am_at 62 0 = some (.aload_n 0, 1, 0, []) := rfl
set_option maxRecDepth 20000 in
theorem at_62_1 : am_at 62 1 = some (.iload_n 3, 2, 3, []) := rfl
set_option maxRecDepth 20000 in
theorem at_62_2 : am_at 62 2 = some (.putfield 30, 5, 0, [4, 2, 0, 531]) := rfl
set_option maxRecDepth 20000 in
theorem at_62_5 : am_at 62 5 = some (.aload_n 0, 6, 0, []) := rfl
set_option maxRecDepth 20000 in
theorem at_62_6 : am_at 62 6 = some (.iload 4, 8, 4, []) := rfl
set_option maxRecDepth 20000 in
theorem at_62_8 : am_at 62 8 = some (.putfield 34, 11, 0, [4, 3, 0, 532]) := rfl
set_option maxRecDepth 20000 in
theorem at_62_11 : am_at 62 11 = some (.aload_n 0, 12, 0, []) := rfl
set_option maxRecDepth 20000 in
theorem at_62_12 : am_at 62 12 = some (.aload_n 1, 13, 1, []) := rfl
set_option maxRecDepth 20000 in
theorem at_62_13 : am_at 62 13 = some (.invokevirtual 37, 16, 63, [0, 1, 4, 570, 572, 16, 63]) := rfl
set_option maxRecDepth 20000 in
theorem at_62_16 : am_at 62 16 = some (.aload_n 0, 17, 0, []) := rfl
set_option maxRecDepth 20000 in
theorem at_62_17 : am_at 62 17 = some (.aload_n 1, 18, 1, []) := rfl
set_option maxRecDepth 20000 in
theorem at_62_18 : am_at 62 18 = some (.iload_n 2, 19, 2, []) := rfl
set_option maxRecDepth 20000 in
theorem at_62_19 : am_at 62 19 = some (.invokevirtual 41, 22, 64, [0, 2, 4, 574, 576, 17, 63]) := rfl
set_option maxRecDepth 20000 in
theorem at_62_22 : am_at 62 22 = some (.aload_n 0, 23, 0, []) := rfl
set_option maxRecDepth 20000 in
theorem at_62_23 : am_at 62 23 = some (.invokevirtual 45, 26, 66, [0, 0, 4, 585, 587, 19, 63]) := rfl
set_option maxRecDepth 20000 in
theorem at_62_26 : am_at 62 26 = some (.istore 5, 28, 5, []) := rfl
set_option maxRecDepth 20000 in
theorem at_62_28 : am_at 62 28 = some (.aload_n 0, 29, 0, []) := rfl
set_option maxRecDepth 20000 in
theorem at_62_29 : am_at 62 29 = some (.iconst 0, 30, 0, []) := rfl
set_option maxRecDepth 20000 in
theorem at_62_30 : am_at 62 30 = some (.putfield 49, 33, 0, [4, 1, 0, 529]) := rfl
set_option maxRecDepth 20000 in
theorem at_62_33 : am_at 62 33 = some (.aload_n 0, 34, 0, []) := rfl
set_option maxRecDepth 20000 in
theorem at_62_34 : am_at 62 34 = some (.getfield 27, 37, 0, [4, 11, 3, 540]) := rfl
set_option maxRecDepth 20000 in
theorem at_62_37 : am_at 62 37 = some (.iload 5, 39, 5, []) := rfl
set_option maxRecDepth 20000 in
theorem at_62_39 : am_at 62 39 = some (.sipush 256, 42, 256, []) := rfl
set_option maxRecDepth 20000 in
theorem at_62_42 : am_at 62 42 = some (.imul, 43, 0, []) := rfl
set_option maxRecDepth 20000 in
theorem at_62_43 : am_at 62 43 = some (.iload_n 2, 44, 2, []) := rfl
set_option maxRecDepth 20000 in
theorem at_62_44 : am_at 62 44 = some (.iadd, 45, 0, []) := rfl
set_option maxRecDepth 20000 in
theorem at_62_45 : am_at 62 45 = some (.iaload, 46, 0, []) := rfl
set_option maxRecDepth 20000 in
theorem at_62_46 : am_at 62 46 = some (.ldc 52, 48, 1048576, [589]) := rfl
set_option maxRecDepth 20000 in
theorem at_62_48 : am_at 62 48 = some (.if_icmp .ge 10, 51, 58, []) := rfl
set_option maxRecDepth 20000 in
theorem at_62_51 : am_at 62 51 = some (.aload_n 0, 52, 0, []) := rfl
set_option maxRecDepth 20000 in
theorem at_62_52 : am_at 62 52 = some (.iload_n 2, 53, 2, []) := rfl
set_option maxRecDepth 20000 in
theorem at_62_53 : am_at 62 53 = some (.iload 5, 55, 5, []) := rfl
set_option maxRecDepth 20000 in
theorem at_62_55 : am_at 62 55 = some (.invokevirtual 53, 58, 68, [0, 2, 4, 594, 596, 21, 63]) := rfl
set_option maxRecDepth 20000 in
theorem at_62_58 : am_at 62 58 = some (.return_, 59, 0, []) := rfl
set_option maxRecDepth 20000 in
theorem at_63_0 : am_at 63 0 = some (.aload_n 0, 1, 0, []) := rfl
set_option maxRecDepth 20000 in
theorem at_63_1 : am_at 63 1 = some (.aload_n 1, 2, 1, []) := rfl
set_option maxRecDepth 20000 in
theorem at_63_2 : am_at 63 2 = some (.getfield 57, 5, 0, [2, 0, 0, 110]) := rfl
set_option maxRecDepth 20000 in
theorem at_63_5 : am_at 63 5 = some (.putfield 62, 8, 0, [4, 5, 0, 534]) := rfl
set_option maxRecDepth 20000 in
theorem at_63_8 : am_at 63 8 = some (.iconst 0, 9, 0, []) := rfl
set_option maxRecDepth 20000 in
theorem at_63_9 : am_at 63 9 = some (.istore_n 2, 10, 2, []) := rfl
set_option maxRecDepth 20000 in
theorem at_63_10 : am_at 63 10 = some (.iload_n 2, 11, 2, []) := rfl
set_option maxRecDepth 20000 in
theorem at_63_11 : am_at 63 11 = some (.aload_n 0, 12, 0, []) := rfl
set_option maxRecDepth 20000 in
theorem at_63_12 : am_at 63 12 = some (.getfield 62, 15, 0, [4, 5, 0, 534]) := rfl
set_option maxRecDepth 20000 in
theorem at_63_15 : am_at 63 15 = some (.if_icmp .ge 26, 18, 41, []) := rfl
set_option maxRecDepth 20000 in
theorem at_63_18 : am_at 63 18 = some (.aload_n 0, 19, 0, []) := rfl
set_option maxRecDepth 20000 in
theorem at_63_19 : am_at 63 19 = some (.getfield 15, 22, 0, [4, 4, 3, 533]) := rfl
set_option maxRecDepth 20000 in
theorem at_63_22 : am_at 63 22 = some (.iload_n 2, 23, 2, []) := rfl
set_option maxRecDepth 20000 in
theorem at_63_23 : am_at 63 23 = some (.aload_n 1, 24, 1, []) := rfl
set_option maxRecDepth 20000 in
theorem at_63_24 : am_at 63 24 = some (.getfield 65, 27, 0, [2, 2, 3, 114]) := rfl
set_option maxRecDepth 20000 in
theorem at_63_27 : am_at 63 27 = some (.iload_n 2, 28, 2, []) := rfl
set_option maxRecDepth 20000 in
theorem at_63_28 : am_at 63 28 = some (.iaload, 29, 0, []) := rfl
set_option maxRecDepth 20000 in
theorem at_63_29 : am_at 63 29 = some (.bipush 16, 31, 16, []) := rfl
set_option maxRecDepth 20000 in
theorem at_63_31 : am_at 63 31 = some (.imul, 32, 0, []) := rfl
set_option maxRecDepth 20000 in
theorem at_63_32 : am_at 63 32 = some (.iconst 1, 33, 1, []) := rfl
set_option maxRecDepth 20000 in
theorem at_63_33 : am_at 63 33 = some (.iadd, 34, 0, []) := rfl
set_option maxRecDepth 20000 in
theorem at_63_34 : am_at 63 34 = some (.iastore, 35, 0, []) := rfl
set_option maxRecDepth 20000 in
theorem at_63_35 : am_at 63 35 = some (.iinc 2 1, 38, 2, []) := rfl
set_option maxRecDepth 20000 in
theorem at_63_38 : am_at 63 38 = some (.goto (-28), 41, 10, []) := rfl
set_option maxRecDepth 20000 in
theorem at_63_41 : am_at 63 41 = some (.return_, 42, 0, []) := rfl
set_option maxRecDepth 20000 in
theorem at_64_0 : am_at 64 0 = some (.aload_n 0, 1, 0, []) := rfl
set_option maxRecDepth 20000 in
theorem at_64_1 : am_at 64 1 = some (.dup, 2, 0, []) := rfl
set_option maxRecDepth 20000 in
theorem at_64_2 : am_at 64 2 = some (.getfield 68, 5, 0, [4, 9, 0, 538]) := rfl
set_option maxRecDepth 20000 in
theorem at_64_5 : am_at 64 5 = some (.iconst 1, 6, 1, []) := rfl
set_option maxRecDepth 20000 in
theorem at_64_6 : am_at 64 6 = some (.iadd, 7, 0, []) := rfl
set_option maxRecDepth 20000 in
theorem at_64_7 : am_at 64 7 = some (.putfield 68, 10, 0, [4, 9, 0, 538]) := rfl
set_option maxRecDepth 20000 in
theorem at_64_10 : am_at 64 10 = some (.aload_n 0, 11, 0, []) := rfl
set_option maxRecDepth 20000 in
theorem at_64_11 : am_at 64 11 = some (.iconst 0, 12, 0, []) := rfl
set_option maxRecDepth 20000 in
theorem at_64_12 : am_at 64 12 = some (.putfield 71, 15, 0, [4, 7, 0, 536]) := rfl
set_option maxRecDepth 20000 in
theorem at_64_15 : am_at 64 15 = some (.aload_n 0, 16, 0, []) := rfl
set_option maxRecDepth 20000 in
theorem at_64_16 : am_at 64 16 = some (.iload_n 2, 17, 2, []) := rfl
set_option maxRecDepth 20000 in
theorem at_64_17 : am_at 64 17 = some (.invokevirtual 74, 20, 65, [0, 1, 4, 578, 580, 18, 63]) := rfl
set_option maxRecDepth 20000 in
theorem at_64_20 : am_at 64 20 = some (.iconst 0, 21, 0, []) := rfl
set_option maxRecDepth 20000 in
theorem at_64_21 : am_at 64 21 = some (.istore_n 3, 22, 3, []) := rfl
set_option maxRecDepth 20000 in
theorem at_64_22 : am_at 64 22 = some (.iload_n 3, 23, 3, []) := rfl
set_option maxRecDepth 20000 in
theorem at_64_23 : am_at 64 23 = some (.aload_n 0, 24, 0, []) := rfl
set_option maxRecDepth 20000 in
theorem at_64_24 : am_at 64 24 = some (.getfield 71, 27, 0, [4, 7, 0, 536]) := rfl
set_option maxRecDepth 20000 in
theorem at_64_27 : am_at 64 27 = some (.if_icmp .ge 105, 30, 132, []) := rfl
set_option maxRecDepth 20000 in
theorem at_64_30 : am_at 64 30 = some (.iload_n 3, 31, 3, []) := rfl
set_option maxRecDepth 20000 in
theorem at_64_31 : am_at 64 31 = some (.sipush 256, 34, 256, []) := rfl
set_option maxRecDepth 20000 in
theorem at_64_34 : am_at 64 34 = some (.if_icmp .ge 98, 37, 132, []) := rfl
set_option maxRecDepth 20000 in
theorem at_64_37 : am_at 64 37 = some (.aload_n 0, 38, 0, []) := rfl
set_option maxRecDepth 20000 in
theorem at_64_38 : am_at 64 38 = some (.getfield 18, 41, 0, [4, 6, 3, 535]) := rfl
set_option maxRecDepth 20000 in
theorem at_64_41 : am_at 64 41 = some (.iload_n 3, 42, 3, []) := rfl
set_option maxRecDepth 20000 in
theorem at_64_42 : am_at 64 42 = some (.iaload, 43, 0, []) := rfl
set_option maxRecDepth 20000 in
theorem at_64_43 : am_at 64 43 = some (.istore 4, 45, 4, []) := rfl
set_option maxRecDepth 20000 in
theorem at_64_45 : am_at 64 45 = some (.iconst 0, 46, 0, []) := rfl
set_option maxRecDepth 20000 in
theorem at_64_46 : am_at 64 46 = some (.istore 5, 48, 5, []) := rfl
set_option maxRecDepth 20000 in
theorem at_64_48 : am_at 64 48 = some (.iload 5, 50, 5, []) := rfl
set_option maxRecDepth 20000 in
theorem at_64_50 : am_at 64 50 = some (.aload_n 0, 51, 0, []) := rfl
set_option maxRecDepth 20000 in
theorem at_64_51 : am_at 64 51 = some (.getfield 62, 54, 0, [4, 5, 0, 534]) := rfl
set_option maxRecDepth 20000 in
theorem at_64_54 : am_at 64 54 = some (.if_icmp .ge 72, 57, 126, []) := rfl
set_option maxRecDepth 20000 in
theorem at_64_57 : am_at 64 57 = some (.iload 4, 59, 4, []) := rfl
set_option maxRecDepth 20000 in
theorem at_64_59 : am_at 64 59 = some (.aload_n 0, 60, 0, []) := rfl
set_option maxRecDepth 20000 in
theorem at_64_60 : am_at 64 60 = some (.getfield 30, 63, 0, [4, 2, 0, 531]) := rfl
set_option maxRecDepth 20000 in
theorem at_64_63 : am_at 64 63 = some (.aload_n 0, 64, 0, []) := rfl
set_option maxRecDepth 20000 in
theorem at_64_64 : am_at 64 64 = some (.getfield 34, 67, 0, [4, 3, 0, 532]) := rfl
set_option maxRecDepth 20000 in
theorem at_64_67 : am_at 64 67 = some (.invokestatic 78, 70, 49, [1, 3, 582, 477, 55]) := rfl
set_option maxRecDepth 20000 in
theorem at_64_70 : am_at 64 70 = some (.ifCond .ne 56, 73, 126, []) := rfl
set_option maxRecDepth 20000 in
theorem at_64_73 : am_at 64 73 = some (.aload_n 1, 74, 1, []) := rfl
set_option maxRecDepth 20000 in
theorem at_64_74 : am_at 64 74 = some (.iload 5, 76, 5, []) := rfl
set_option maxRecDepth 20000 in
theorem at_64_76 : am_at 64 76 = some (.iload 4, 78, 4, []) := rfl
set_option maxRecDepth 20000 in
theorem at_64_78 : am_at 64 78 = some (.invokevirtual 82, 81, 46, [0, 2, 2, 583, 465, 466, 58]) := rfl
set_option maxRecDepth 20000 in
theorem at_64_81 : am_at 64 81 = some (.ifCond .eq 14, 84, 95, []) := rfl
set_option maxRecDepth 20000 in
theorem at_64_84 : am_at 64 84 = some (.aload_n 1, 85, 1, []) := rfl
set_option maxRecDepth 20000 in
theorem at_64_85 : am_at 64 85 = some (.iload 5, 87, 5, []) := rfl
set_option maxRecDepth 20000 in
theorem at_64_87 : am_at 64 87 = some (.iload 4, 89, 4, []) := rfl
set_option maxRecDepth 20000 in
theorem at_64_89 : am_at 64 89 = some (.invokevirtual 86, 92, 47, [0, 2, 2, 584, 469, 470, 58]) := rfl
set_option maxRecDepth 20000 in
theorem at_64_92 : am_at 64 92 = some (.goto 5, 95, 97, []) := rfl
set_option maxRecDepth 20000 in
theorem at_64_95 : am_at 64 95 = some (.bipush (-4), 97, 4294967292, []) := rfl
set_option maxRecDepth 20000 in
theorem at_64_97 : am_at 64 97 = some (.istore 6, 99, 6, []) := rfl
set_option maxRecDepth 20000 in
theorem at_64_99 : am_at 64 99 = some (.aload_n 0, 100, 0, []) := rfl
set_option maxRecDepth 20000 in
theorem at_64_100 : am_at 64 100 = some (.getfield 24, 103, 0, [4, 10, 3, 539]) := rfl
set_option maxRecDepth 20000 in
theorem at_64_103 : am_at 64 103 = some (.iload 4, 105, 4, []) := rfl
set_option maxRecDepth 20000 in
theorem at_64_105 : am_at 64 105 = some (.bipush 10, 107, 10, []) := rfl
set_option maxRecDepth 20000 in
theorem at_64_107 : am_at 64 107 = some (.imul, 108, 0, []) := rfl
set_option maxRecDepth 20000 in
theorem at_64_108 : am_at 64 108 = some (.iload 5, 110, 5, []) := rfl
set_option maxRecDepth 20000 in
theorem at_64_110 : am_at 64 110 = some (.iadd, 111, 0, []) := rfl
set_option maxRecDepth 20000 in
theorem at_64_111 : am_at 64 111 = some (.iload 6, 113, 6, []) := rfl
set_option maxRecDepth 20000 in
theorem at_64_113 : am_at 64 113 = some (.iastore, 114, 0, []) := rfl
set_option maxRecDepth 20000 in
theorem at_64_114 : am_at 64 114 = some (.aload_n 0, 115, 0, []) := rfl
set_option maxRecDepth 20000 in
theorem at_64_115 : am_at 64 115 = some (.iload 6, 117, 6, []) := rfl
set_option maxRecDepth 20000 in
theorem at_64_117 : am_at 64 117 = some (.invokevirtual 74, 120, 65, [0, 1, 4, 578, 580, 18, 63]) := rfl
set_option maxRecDepth 20000 in
theorem at_64_120 : am_at 64 120 = some (.iinc 5 1, 123, 5, []) := rfl
set_option maxRecDepth 20000 in
theorem at_64_123 : am_at 64 123 = some (.goto (-75), 126, 48, []) := rfl
set_option maxRecDepth 20000 in
theorem at_64_126 : am_at 64 126 = some (.iinc 3 1, 129, 3, []) := rfl
set_option maxRecDepth 20000 in
theorem at_64_129 : am_at 64 129 = some (.goto (-107), 132, 22, []) := rfl
set_option maxRecDepth 20000 in
theorem at_64_132 : am_at 64 132 = some (.return_, 133, 0, []) := rfl
set_option maxRecDepth 20000 in
theorem at_65_0 : am_at 65 0 = some (.iload_n 1, 1, 1, []) := rfl
set_option maxRecDepth 20000 in
theorem at_65_1 : am_at 65 1 = some (.bipush (-4), 3, 4294967292, []) := rfl
set_option maxRecDepth 20000 in
theorem at_65_3 : am_at 65 3 = some (.if_icmp .eq 56, 6, 59, []) := rfl
set_option maxRecDepth 20000 in
theorem at_65_6 : am_at 65 6 = some (.aload_n 0, 7, 0, []) := rfl
set_option maxRecDepth 20000 in
theorem at_65_7 : am_at 65 7 = some (.getfield 21, 10, 0, [4, 8, 3, 537]) := rfl
set_option maxRecDepth 20000 in
theorem at_65_10 : am_at 65 10 = some (.iload_n 1, 11, 1, []) := rfl
set_option maxRecDepth 20000 in
theorem at_65_11 : am_at 65 11 = some (.iaload, 12, 0, []) := rfl
set_option maxRecDepth 20000 in
theorem at_65_12 : am_at 65 12 = some (.aload_n 0, 13, 0, []) := rfl
set_option maxRecDepth 20000 in
theorem at_65_13 : am_at 65 13 = some (.getfield 68, 16, 0, [4, 9, 0, 538]) := rfl
set_option maxRecDepth 20000 in
theorem at_65_16 : am_at 65 16 = some (.if_icmp .eq 43, 19, 59, []) := rfl
set_option maxRecDepth 20000 in
theorem at_65_19 : am_at 65 19 = some (.aload_n 0, 20, 0, []) := rfl
set_option maxRecDepth 20000 in
theorem at_65_20 : am_at 65 20 = some (.getfield 71, 23, 0, [4, 7, 0, 536]) := rfl
set_option maxRecDepth 20000 in
theorem at_65_23 : am_at 65 23 = some (.sipush 256, 26, 256, []) := rfl
set_option maxRecDepth 20000 in
theorem at_65_26 : am_at 65 26 = some (.if_icmp .ge 33, 29, 59, []) := rfl
set_option maxRecDepth 20000 in
theorem at_65_29 : am_at 65 29 = some (.aload_n 0, 30, 0, []) := rfl
set_option maxRecDepth 20000 in
theorem at_65_30 : am_at 65 30 = some (.getfield 21, 33, 0, [4, 8, 3, 537]) := rfl
set_option maxRecDepth 20000 in
theorem at_65_33 : am_at 65 33 = some (.iload_n 1, 34, 1, []) := rfl
set_option maxRecDepth 20000 in
theorem at_65_34 : am_at 65 34 = some (.aload_n 0, 35, 0, []) := rfl
set_option maxRecDepth 20000 in
theorem at_65_35 : am_at 65 35 = some (.getfield 68, 38, 0, [4, 9, 0, 538]) := rfl
set_option maxRecDepth 20000 in
theorem at_65_38 : am_at 65 38 = some (.iastore, 39, 0, []) := rfl
set_option maxRecDepth 20000 in
theorem at_65_39 : am_at 65 39 = some (.aload_n 0, 40, 0, []) := rfl
set_option maxRecDepth 20000 in
theorem at_65_40 : am_at 65 40 = some (.getfield 18, 43, 0, [4, 6, 3, 535]) := rfl
set_option maxRecDepth 20000 in
theorem at_65_43 : am_at 65 43 = some (.aload_n 0, 44, 0, []) := rfl
set_option maxRecDepth 20000 in
theorem at_65_44 : am_at 65 44 = some (.getfield 71, 47, 0, [4, 7, 0, 536]) := rfl
set_option maxRecDepth 20000 in
theorem at_65_47 : am_at 65 47 = some (.iload_n 1, 48, 1, []) := rfl
set_option maxRecDepth 20000 in
theorem at_65_48 : am_at 65 48 = some (.iastore, 49, 0, []) := rfl
set_option maxRecDepth 20000 in
theorem at_65_49 : am_at 65 49 = some (.aload_n 0, 50, 0, []) := rfl
set_option maxRecDepth 20000 in
theorem at_65_50 : am_at 65 50 = some (.dup, 51, 0, []) := rfl
set_option maxRecDepth 20000 in
theorem at_65_51 : am_at 65 51 = some (.getfield 71, 54, 0, [4, 7, 0, 536]) := rfl
set_option maxRecDepth 20000 in
theorem at_65_54 : am_at 65 54 = some (.iconst 1, 55, 1, []) := rfl
set_option maxRecDepth 20000 in
theorem at_65_55 : am_at 65 55 = some (.iadd, 56, 0, []) := rfl
set_option maxRecDepth 20000 in
theorem at_65_56 : am_at 65 56 = some (.putfield 71, 59, 0, [4, 7, 0, 536]) := rfl
set_option maxRecDepth 20000 in
theorem at_65_59 : am_at 65 59 = some (.return_, 60, 0, []) := rfl
set_option maxRecDepth 20000 in
theorem at_66_0 : am_at 66 0 = some (.iconst 0, 1, 0, []) := rfl
set_option maxRecDepth 20000 in
theorem at_66_1 : am_at 66 1 = some (.istore_n 1, 2, 1, []) := rfl
set_option maxRecDepth 20000 in
theorem at_66_2 : am_at 66 2 = some (.iload_n 1, 3, 1, []) := rfl
set_option maxRecDepth 20000 in
theorem at_66_3 : am_at 66 3 = some (.aload_n 0, 4, 0, []) := rfl
set_option maxRecDepth 20000 in
theorem at_66_4 : am_at 66 4 = some (.getfield 71, 7, 0, [4, 7, 0, 536]) := rfl
set_option maxRecDepth 20000 in
theorem at_66_7 : am_at 66 7 = some (.if_icmp .ge 46, 10, 53, []) := rfl
set_option maxRecDepth 20000 in
theorem at_66_10 : am_at 66 10 = some (.aload_n 0, 11, 0, []) := rfl
set_option maxRecDepth 20000 in
theorem at_66_11 : am_at 66 11 = some (.getfield 27, 14, 0, [4, 11, 3, 540]) := rfl
set_option maxRecDepth 20000 in
theorem at_66_14 : am_at 66 14 = some (.aload_n 0, 15, 0, []) := rfl
set_option maxRecDepth 20000 in
theorem at_66_15 : am_at 66 15 = some (.getfield 18, 18, 0, [4, 6, 3, 535]) := rfl
set_option maxRecDepth 20000 in
theorem at_66_18 : am_at 66 18 = some (.iload_n 1, 19, 1, []) := rfl
set_option maxRecDepth 20000 in
theorem at_66_19 : am_at 66 19 = some (.iaload, 20, 0, []) := rfl
set_option maxRecDepth 20000 in
theorem at_66_20 : am_at 66 20 = some (.aload_n 0, 21, 0, []) := rfl
set_option maxRecDepth 20000 in
theorem at_66_21 : am_at 66 21 = some (.getfield 18, 24, 0, [4, 6, 3, 535]) := rfl
set_option maxRecDepth 20000 in
theorem at_66_24 : am_at 66 24 = some (.iload_n 1, 25, 1, []) := rfl
set_option maxRecDepth 20000 in
theorem at_66_25 : am_at 66 25 = some (.iaload, 26, 0, []) := rfl
set_option maxRecDepth 20000 in
theorem at_66_26 : am_at 66 26 = some (.aload_n 0, 27, 0, []) := rfl
set_option maxRecDepth 20000 in
theorem at_66_27 : am_at 66 27 = some (.getfield 30, 30, 0, [4, 2, 0, 531]) := rfl
set_option maxRecDepth 20000 in
theorem at_66_30 : am_at 66 30 = some (.aload_n 0, 31, 0, []) := rfl
set_option maxRecDepth 20000 in
theorem at_66_31 : am_at 66 31 = some (.getfield 34, 34, 0, [4, 3, 0, 532]) := rfl
set_option maxRecDepth 20000 in
theorem at_66_34 : am_at 66 34 = some (.invokestatic 78, 37, 49, [1, 3, 582, 477, 55]) := rfl
set_option maxRecDepth 20000 in
theorem at_66_37 : am_at 66 37 = some (.ifCond .eq 7, 40, 44, []) := rfl
set_option maxRecDepth 20000 in
theorem at_66_40 : am_at 66 40 = some (.iconst 0, 41, 0, []) := rfl
set_option maxRecDepth 20000 in
theorem at_66_41 : am_at 66 41 = some (.goto 5, 44, 46, []) := rfl
set_option maxRecDepth 20000 in
theorem at_66_44 : am_at 66 44 = some (.ldc 52, 46, 1048576, [589]) := rfl
set_option maxRecDepth 20000 in
theorem at_66_46 : am_at 66 46 = some (.iastore, 47, 0, []) := rfl
set_option maxRecDepth 20000 in
theorem at_66_47 : am_at 66 47 = some (.iinc 1 1, 50, 1, []) := rfl
set_option maxRecDepth 20000 in
theorem at_66_50 : am_at 66 50 = some (.goto (-48), 53, 2, []) := rfl
set_option maxRecDepth 20000 in
theorem at_66_53 : am_at 66 53 = some (.iconst 0, 54, 0, []) := rfl
set_option maxRecDepth 20000 in
theorem at_66_54 : am_at 66 54 = some (.istore_n 1, 55, 1, []) := rfl
set_option maxRecDepth 20000 in
theorem at_66_55 : am_at 66 55 = some (.iconst 1, 56, 1, []) := rfl
set_option maxRecDepth 20000 in
theorem at_66_56 : am_at 66 56 = some (.istore_n 2, 57, 2, []) := rfl
set_option maxRecDepth 20000 in
theorem at_66_57 : am_at 66 57 = some (.iload_n 2, 58, 2, []) := rfl
set_option maxRecDepth 20000 in
theorem at_66_58 : am_at 66 58 = some (.ifCond .eq 61, 61, 119, []) := rfl
set_option maxRecDepth 20000 in
theorem at_66_61 : am_at 66 61 = some (.iload_n 1, 62, 1, []) := rfl
set_option maxRecDepth 20000 in
theorem at_66_62 : am_at 66 62 = some (.bipush 12, 64, 12, []) := rfl
set_option maxRecDepth 20000 in
theorem at_66_64 : am_at 66 64 = some (.if_icmp .ge 55, 67, 119, []) := rfl
set_option maxRecDepth 20000 in
theorem at_66_67 : am_at 66 67 = some (.iinc 1 1, 70, 1, []) := rfl
set_option maxRecDepth 20000 in
theorem at_66_70 : am_at 66 70 = some (.iconst 0, 71, 0, []) := rfl
set_option maxRecDepth 20000 in
theorem at_66_71 : am_at 66 71 = some (.istore_n 2, 72, 2, []) := rfl
set_option maxRecDepth 20000 in
theorem at_66_72 : am_at 66 72 = some (.iconst 0, 73, 0, []) := rfl
set_option maxRecDepth 20000 in
theorem at_66_73 : am_at 66 73 = some (.istore_n 3, 74, 3, []) := rfl
set_option maxRecDepth 20000 in
theorem at_66_74 : am_at 66 74 = some (.iload_n 3, 75, 3, []) := rfl
set_option maxRecDepth 20000 in
theorem at_66_75 : am_at 66 75 = some (.aload_n 0, 76, 0, []) := rfl
set_option maxRecDepth 20000 in
theorem at_66_76 : am_at 66 76 = some (.getfield 71, 79, 0, [4, 7, 0, 536]) := rfl
set_option maxRecDepth 20000 in
theorem at_66_79 : am_at 66 79 = some (.if_icmp .ge 37, 82, 116, []) := rfl
set_option maxRecDepth 20000 in
theorem at_66_82 : am_at 66 82 = some (.aload_n 0, 83, 0, []) := rfl
set_option maxRecDepth 20000 in
theorem at_66_83 : am_at 66 83 = some (.aload_n 0, 84, 0, []) := rfl
set_option maxRecDepth 20000 in
theorem at_66_84 : am_at 66 84 = some (.getfield 18, 87, 0, [4, 6, 3, 535]) := rfl
set_option maxRecDepth 20000 in
theorem at_66_87 : am_at 66 87 = some (.iload_n 3, 88, 3, []) := rfl
set_option maxRecDepth 20000 in
theorem at_66_88 : am_at 66 88 = some (.iaload, 89, 0, []) := rfl
set_option maxRecDepth 20000 in
theorem at_66_89 : am_at 66 89 = some (.iload_n 1, 90, 1, []) := rfl
set_option maxRecDepth 20000 in
theorem at_66_90 : am_at 66 90 = some (.sipush 256, 93, 256, []) := rfl
set_option maxRecDepth 20000 in
theorem at_66_93 : am_at 66 93 = some (.imul, 94, 0, []) := rfl
set_option maxRecDepth 20000 in
theorem at_66_94 : am_at 66 94 = some (.invokevirtual 90, 97, 67, [0, 2, 4, 590, 592, 20, 63]) := rfl
set_option maxRecDepth 20000 in
theorem at_66_97 : am_at 66 97 = some (.ifCond .ne 7, 100, 104, []) := rfl
set_option maxRecDepth 20000 in
theorem at_66_100 : am_at 66 100 = some (.iload_n 2, 101, 2, []) := rfl
set_option maxRecDepth 20000 in
theorem at_66_101 : am_at 66 101 = some (.ifCond .eq 7, 104, 108, []) := rfl
set_option maxRecDepth 20000 in
theorem at_66_104 : am_at 66 104 = some (.iconst 1, 105, 1, []) := rfl
set_option maxRecDepth 20000 in
theorem at_66_105 : am_at 66 105 = some (.goto 4, 108, 109, []) := rfl
set_option maxRecDepth 20000 in
theorem at_66_108 : am_at 66 108 = some (.iconst 0, 109, 0, []) := rfl
set_option maxRecDepth 20000 in
theorem at_66_109 : am_at 66 109 = some (.istore_n 2, 110, 2, []) := rfl
set_option maxRecDepth 20000 in
theorem at_66_110 : am_at 66 110 = some (.iinc 3 1, 113, 3, []) := rfl
set_option maxRecDepth 20000 in
theorem at_66_113 : am_at 66 113 = some (.goto (-39), 116, 74, []) := rfl
set_option maxRecDepth 20000 in
theorem at_66_116 : am_at 66 116 = some (.goto (-59), 119, 57, []) := rfl
set_option maxRecDepth 20000 in
theorem at_66_119 : am_at 66 119 = some (.iload_n 1, 120, 1, []) := rfl
set_option maxRecDepth 20000 in
theorem at_66_120 : am_at 66 120 = some (.ireturn, 121, 0, [0]) := rfl
set_option maxRecDepth 20000 in
theorem at_67_0 : am_at 67 0 = some (.iload_n 2, 1, 2, []) := rfl
set_option maxRecDepth 20000 in
theorem at_67_1 : am_at 67 1 = some (.sipush 256, 4, 256, []) := rfl
set_option maxRecDepth 20000 in
theorem at_67_4 : am_at 67 4 = some (.isub, 5, 0, []) := rfl
set_option maxRecDepth 20000 in
theorem at_67_5 : am_at 67 5 = some (.istore_n 3, 6, 3, []) := rfl
set_option maxRecDepth 20000 in
theorem at_67_6 : am_at 67 6 = some (.aload_n 0, 7, 0, []) := rfl
set_option maxRecDepth 20000 in
theorem at_67_7 : am_at 67 7 = some (.getfield 27, 10, 0, [4, 11, 3, 540]) := rfl
set_option maxRecDepth 20000 in
theorem at_67_10 : am_at 67 10 = some (.iload_n 3, 11, 3, []) := rfl
set_option maxRecDepth 20000 in
theorem at_67_11 : am_at 67 11 = some (.iload_n 1, 12, 1, []) := rfl
set_option maxRecDepth 20000 in
theorem at_67_12 : am_at 67 12 = some (.iadd, 13, 0, []) := rfl
set_option maxRecDepth 20000 in
theorem at_67_13 : am_at 67 13 = some (.iaload, 14, 0, []) := rfl
set_option maxRecDepth 20000 in
theorem at_67_14 : am_at 67 14 = some (.istore 4, 16, 4, []) := rfl
set_option maxRecDepth 20000 in
theorem at_67_16 : am_at 67 16 = some (.iload 4, 18, 4, []) := rfl
set_option maxRecDepth 20000 in
theorem at_67_18 : am_at 67 18 = some (.ifCond .ne 7, 21, 25, []) := rfl
set_option maxRecDepth 20000 in
theorem at_67_21 : am_at 67 21 = some (.iconst 0, 22, 0, []) := rfl
set_option maxRecDepth 20000 in
theorem at_67_22 : am_at 67 22 = some (.goto 5, 25, 27, []) := rfl
set_option maxRecDepth 20000 in
theorem at_67_25 : am_at 67 25 = some (.ldc 52, 27, 1048576, [589]) := rfl
set_option maxRecDepth 20000 in
theorem at_67_27 : am_at 67 27 = some (.istore 5, 29, 5, []) := rfl
set_option maxRecDepth 20000 in
theorem at_67_29 : am_at 67 29 = some (.iconst 0, 30, 0, []) := rfl
set_option maxRecDepth 20000 in
theorem at_67_30 : am_at 67 30 = some (.istore 6, 32, 6, []) := rfl
set_option maxRecDepth 20000 in
theorem at_67_32 : am_at 67 32 = some (.iload 6, 34, 6, []) := rfl
set_option maxRecDepth 20000 in
theorem at_67_34 : am_at 67 34 = some (.aload_n 0, 35, 0, []) := rfl
set_option maxRecDepth 20000 in
theorem at_67_35 : am_at 67 35 = some (.getfield 62, 38, 0, [4, 5, 0, 534]) := rfl
set_option maxRecDepth 20000 in
theorem at_67_38 : am_at 67 38 = some (.if_icmp .ge 76, 41, 114, []) := rfl
set_option maxRecDepth 20000 in
theorem at_67_41 : am_at 67 41 = some (.iload 4, 43, 4, []) := rfl
set_option maxRecDepth 20000 in
theorem at_67_43 : am_at 67 43 = some (.ifCond .eq 71, 46, 114, []) := rfl
set_option maxRecDepth 20000 in
theorem at_67_46 : am_at 67 46 = some (.aload_n 0, 47, 0, []) := rfl
set_option maxRecDepth 20000 in
theorem at_67_47 : am_at 67 47 = some (.getfield 24, 50, 0, [4, 10, 3, 539]) := rfl
set_option maxRecDepth 20000 in
theorem at_67_50 : am_at 67 50 = some (.iload_n 1, 51, 1, []) := rfl
set_option maxRecDepth 20000 in
theorem at_67_51 : am_at 67 51 = some (.bipush 10, 53, 10, []) := rfl
set_option maxRecDepth 20000 in
theorem at_67_53 : am_at 67 53 = some (.imul, 54, 0, []) := rfl
set_option maxRecDepth 20000 in
theorem at_67_54 : am_at 67 54 = some (.iload 6, 56, 6, []) := rfl
set_option maxRecDepth 20000 in
theorem at_67_56 : am_at 67 56 = some (.iadd, 57, 0, []) := rfl
set_option maxRecDepth 20000 in
theorem at_67_57 : am_at 67 57 = some (.iaload, 58, 0, []) := rfl
set_option maxRecDepth 20000 in
theorem at_67_58 : am_at 67 58 = some (.istore 7, 60, 7, []) := rfl
set_option maxRecDepth 20000 in
theorem at_67_60 : am_at 67 60 = some (.iload 7, 62, 7, []) := rfl
set_option maxRecDepth 20000 in
theorem at_67_62 : am_at 67 62 = some (.bipush (-4), 64, 4294967292, []) := rfl
set_option maxRecDepth 20000 in
theorem at_67_64 : am_at 67 64 = some (.if_icmp .eq 44, 67, 108, []) := rfl
set_option maxRecDepth 20000 in
theorem at_67_67 : am_at 67 67 = some (.aload_n 0, 68, 0, []) := rfl
set_option maxRecDepth 20000 in
theorem at_67_68 : am_at 67 68 = some (.getfield 15, 71, 0, [4, 4, 3, 533]) := rfl
set_option maxRecDepth 20000 in
theorem at_67_71 : am_at 67 71 = some (.iload 6, 73, 6, []) := rfl
set_option maxRecDepth 20000 in
theorem at_67_73 : am_at 67 73 = some (.iaload, 74, 0, []) := rfl
set_option maxRecDepth 20000 in
theorem at_67_74 : am_at 67 74 = some (.aload_n 0, 75, 0, []) := rfl
set_option maxRecDepth 20000 in
theorem at_67_75 : am_at 67 75 = some (.getfield 27, 78, 0, [4, 11, 3, 540]) := rfl
set_option maxRecDepth 20000 in
theorem at_67_78 : am_at 67 78 = some (.iload_n 3, 79, 3, []) := rfl
set_option maxRecDepth 20000 in
theorem at_67_79 : am_at 67 79 = some (.iload 7, 81, 7, []) := rfl
set_option maxRecDepth 20000 in
theorem at_67_81 : am_at 67 81 = some (.iadd, 82, 0, []) := rfl
set_option maxRecDepth 20000 in
theorem at_67_82 : am_at 67 82 = some (.iaload, 83, 0, []) := rfl
set_option maxRecDepth 20000 in
theorem at_67_83 : am_at 67 83 = some (.iadd, 84, 0, []) := rfl
set_option maxRecDepth 20000 in
theorem at_67_84 : am_at 67 84 = some (.iload 5, 86, 5, []) := rfl
set_option maxRecDepth 20000 in
theorem at_67_86 : am_at 67 86 = some (.if_icmp .ge 22, 89, 108, []) := rfl
set_option maxRecDepth 20000 in
theorem at_67_89 : am_at 67 89 = some (.aload_n 0, 90, 0, []) := rfl
set_option maxRecDepth 20000 in
theorem at_67_90 : am_at 67 90 = some (.getfield 15, 93, 0, [4, 4, 3, 533]) := rfl
set_option maxRecDepth 20000 in
theorem at_67_93 : am_at 67 93 = some (.iload 6, 95, 6, []) := rfl
set_option maxRecDepth 20000 in
theorem at_67_95 : am_at 67 95 = some (.iaload, 96, 0, []) := rfl
set_option maxRecDepth 20000 in
theorem at_67_96 : am_at 67 96 = some (.aload_n 0, 97, 0, []) := rfl
set_option maxRecDepth 20000 in
theorem at_67_97 : am_at 67 97 = some (.getfield 27, 100, 0, [4, 11, 3, 540]) := rfl
set_option maxRecDepth 20000 in
theorem at_67_100 : am_at 67 100 = some (.iload_n 3, 101, 3, []) := rfl
set_option maxRecDepth 20000 in
theorem at_67_101 : am_at 67 101 = some (.iload 7, 103, 7, []) := rfl
set_option maxRecDepth 20000 in
theorem at_67_103 : am_at 67 103 = some (.iadd, 104, 0, []) := rfl
set_option maxRecDepth 20000 in
theorem at_67_104 : am_at 67 104 = some (.iaload, 105, 0, []) := rfl
set_option maxRecDepth 20000 in
theorem at_67_105 : am_at 67 105 = some (.iadd, 106, 0, []) := rfl
set_option maxRecDepth 20000 in
theorem at_67_106 : am_at 67 106 = some (.istore 5, 108, 5, []) := rfl
set_option maxRecDepth 20000 in
theorem at_67_108 : am_at 67 108 = some (.iinc 6 1, 111, 6, []) := rfl
set_option maxRecDepth 20000 in
theorem at_67_111 : am_at 67 111 = some (.goto (-79), 114, 32, []) := rfl
set_option maxRecDepth 20000 in
theorem at_67_114 : am_at 67 114 = some (.aload_n 0, 115, 0, []) := rfl
set_option maxRecDepth 20000 in
theorem at_67_115 : am_at 67 115 = some (.getfield 27, 118, 0, [4, 11, 3, 540]) := rfl
set_option maxRecDepth 20000 in
theorem at_67_118 : am_at 67 118 = some (.iload_n 2, 119, 2, []) := rfl
set_option maxRecDepth 20000 in
theorem at_67_119 : am_at 67 119 = some (.iload_n 1, 120, 1, []) := rfl
set_option maxRecDepth 20000 in
theorem at_67_120 : am_at 67 120 = some (.iadd, 121, 0, []) := rfl
set_option maxRecDepth 20000 in
theorem at_67_121 : am_at 67 121 = some (.iload 5, 123, 5, []) := rfl
set_option maxRecDepth 20000 in
theorem at_67_123 : am_at 67 123 = some (.iastore, 124, 0, []) := rfl
set_option maxRecDepth 20000 in
theorem at_67_124 : am_at 67 124 = some (.iload 5, 126, 5, []) := rfl
set_option maxRecDepth 20000 in
theorem at_67_126 : am_at 67 126 = some (.iload 4, 128, 4, []) := rfl
set_option maxRecDepth 20000 in
theorem at_67_128 : am_at 67 128 = some (.if_icmp .eq 7, 131, 135, []) := rfl
set_option maxRecDepth 20000 in
theorem at_67_131 : am_at 67 131 = some (.iconst 1, 132, 1, []) := rfl
set_option maxRecDepth 20000 in
theorem at_67_132 : am_at 67 132 = some (.goto 4, 135, 136, []) := rfl
set_option maxRecDepth 20000 in
theorem at_67_135 : am_at 67 135 = some (.iconst 0, 136, 0, []) := rfl
set_option maxRecDepth 20000 in
theorem at_67_136 : am_at 67 136 = some (.ireturn, 137, 0, [1]) := rfl
set_option maxRecDepth 20000 in
theorem at_68_0 : am_at 68 0 = some (.iload_n 1, 1, 1, []) := rfl
set_option maxRecDepth 20000 in
theorem at_68_1 : am_at 68 1 = some (.istore_n 3, 2, 3, []) := rfl
set_option maxRecDepth 20000 in
theorem at_68_2 : am_at 68 2 = some (.iload_n 2, 3, 2, []) := rfl
set_option maxRecDepth 20000 in
theorem at_68_3 : am_at 68 3 = some (.istore 4, 5, 4, []) := rfl
set_option maxRecDepth 20000 in
theorem at_68_5 : am_at 68 5 = some (.iload 4, 7, 4, []) := rfl
set_option maxRecDepth 20000 in
theorem at_68_7 : am_at 68 7 = some (.ifCond .le 80, 10, 87, []) := rfl
set_option maxRecDepth 20000 in
theorem at_68_10 : am_at 68 10 = some (.aload_n 0, 11, 0, []) := rfl
set_option maxRecDepth 20000 in
theorem at_68_11 : am_at 68 11 = some (.getfield 27, 14, 0, [4, 11, 3, 540]) := rfl
set_option maxRecDepth 20000 in
theorem at_68_14 : am_at 68 14 = some (.iload 4, 16, 4, []) := rfl
set_option maxRecDepth 20000 in
theorem at_68_16 : am_at 68 16 = some (.sipush 256, 19, 256, []) := rfl
set_option maxRecDepth 20000 in
theorem at_68_19 : am_at 68 19 = some (.imul, 20, 0, []) := rfl
set_option maxRecDepth 20000 in
theorem at_68_20 : am_at 68 20 = some (.iload_n 3, 21, 3, []) := rfl
set_option maxRecDepth 20000 in
theorem at_68_21 : am_at 68 21 = some (.iadd, 22, 0, []) := rfl
set_option maxRecDepth 20000 in
theorem at_68_22 : am_at 68 22 = some (.iaload, 23, 0, []) := rfl
set_option maxRecDepth 20000 in
theorem at_68_23 : am_at 68 23 = some (.ifCond .eq 64, 26, 87, []) := rfl
set_option maxRecDepth 20000 in
theorem at_68_26 : am_at 68 26 = some (.aload_n 0, 27, 0, []) := rfl
set_option maxRecDepth 20000 in
theorem at_68_27 : am_at 68 27 = some (.iload_n 3, 28, 3, []) := rfl
set_option maxRecDepth 20000 in
theorem at_68_28 : am_at 68 28 = some (.iload 4, 30, 4, []) := rfl
set_option maxRecDepth 20000 in
theorem at_68_30 : am_at 68 30 = some (.sipush 256, 33, 256, []) := rfl
set_option maxRecDepth 20000 in
theorem at_68_33 : am_at 68 33 = some (.imul, 34, 0, []) := rfl
set_option maxRecDepth 20000 in
theorem at_68_34 : am_at 68 34 = some (.invokevirtual 93, 37, 69, [0, 2, 4, 598, 600, 22, 63]) := rfl
set_option maxRecDepth 20000 in
theorem at_68_37 : am_at 68 37 = some (.istore 5, 39, 5, []) := rfl
set_option maxRecDepth 20000 in
theorem at_68_39 : am_at 68 39 = some (.iload 5, 41, 5, []) := rfl
set_option maxRecDepth 20000 in
theorem at_68_41 : am_at 68 41 = some (.bipush (-4), 43, 4294967292, []) := rfl
set_option maxRecDepth 20000 in
theorem at_68_43 : am_at 68 43 = some (.if_icmp .ne 4, 46, 47, []) := rfl
set_option maxRecDepth 20000 in
theorem at_68_46 : am_at 68 46 = some (.return_, 47, 0, []) := rfl
set_option maxRecDepth 20000 in
theorem at_68_47 : am_at 68 47 = some (.aload_n 0, 48, 0, []) := rfl
set_option maxRecDepth 20000 in
theorem at_68_48 : am_at 68 48 = some (.getfield 9, 51, 0, [4, 0, 3, 527]) := rfl
set_option maxRecDepth 20000 in
theorem at_68_51 : am_at 68 51 = some (.aload_n 0, 52, 0, []) := rfl
set_option maxRecDepth 20000 in
theorem at_68_52 : am_at 68 52 = some (.getfield 49, 55, 0, [4, 1, 0, 529]) := rfl
set_option maxRecDepth 20000 in
theorem at_68_55 : am_at 68 55 = some (.iload 5, 57, 5, []) := rfl
set_option maxRecDepth 20000 in
theorem at_68_57 : am_at 68 57 = some (.iastore, 58, 0, []) := rfl
set_option maxRecDepth 20000 in
theorem at_68_58 : am_at 68 58 = some (.aload_n 0, 59, 0, []) := rfl
set_option maxRecDepth 20000 in
theorem at_68_59 : am_at 68 59 = some (.dup, 60, 0, []) := rfl
set_option maxRecDepth 20000 in
theorem at_68_60 : am_at 68 60 = some (.getfield 49, 63, 0, [4, 1, 0, 529]) := rfl
set_option maxRecDepth 20000 in
theorem at_68_63 : am_at 68 63 = some (.iconst 1, 64, 1, []) := rfl
set_option maxRecDepth 20000 in
theorem at_68_64 : am_at 68 64 = some (.iadd, 65, 0, []) := rfl
set_option maxRecDepth 20000 in
theorem at_68_65 : am_at 68 65 = some (.putfield 49, 68, 0, [4, 1, 0, 529]) := rfl
set_option maxRecDepth 20000 in
theorem at_68_68 : am_at 68 68 = some (.aload_n 0, 69, 0, []) := rfl
set_option maxRecDepth 20000 in
theorem at_68_69 : am_at 68 69 = some (.getfield 24, 72, 0, [4, 10, 3, 539]) := rfl
set_option maxRecDepth 20000 in
theorem at_68_72 : am_at 68 72 = some (.iload_n 3, 73, 3, []) := rfl
set_option maxRecDepth 20000 in
theorem at_68_73 : am_at 68 73 = some (.bipush 10, 75, 10, []) := rfl
set_option maxRecDepth 20000 in
theorem at_68_75 : am_at 68 75 = some (.imul, 76, 0, []) := rfl
set_option maxRecDepth 20000 in
theorem at_68_76 : am_at 68 76 = some (.iload 5, 78, 5, []) := rfl
set_option maxRecDepth 20000 in
theorem at_68_78 : am_at 68 78 = some (.iadd, 79, 0, []) := rfl
set_option maxRecDepth 20000 in
theorem at_68_79 : am_at 68 79 = some (.iaload, 80, 0, []) := rfl
set_option maxRecDepth 20000 in
theorem at_68_80 : am_at 68 80 = some (.istore_n 3, 81, 3, []) := rfl
set_option maxRecDepth 20000 in
theorem at_68_81 : am_at 68 81 = some (.iinc 4 (-1), 84, 4, []) := rfl
set_option maxRecDepth 20000 in
theorem at_68_84 : am_at 68 84 = some (.goto (-79), 87, 5, []) := rfl
set_option maxRecDepth 20000 in
theorem at_68_87 : am_at 68 87 = some (.return_, 88, 0, []) := rfl
set_option maxRecDepth 20000 in
theorem at_69_0 : am_at 69 0 = some (.iload_n 2, 1, 2, []) := rfl
set_option maxRecDepth 20000 in
theorem at_69_1 : am_at 69 1 = some (.sipush 256, 4, 256, []) := rfl
set_option maxRecDepth 20000 in
theorem at_69_4 : am_at 69 4 = some (.isub, 5, 0, []) := rfl
set_option maxRecDepth 20000 in
theorem at_69_5 : am_at 69 5 = some (.istore_n 3, 6, 3, []) := rfl
set_option maxRecDepth 20000 in
theorem at_69_6 : am_at 69 6 = some (.iconst 0, 7, 0, []) := rfl
set_option maxRecDepth 20000 in
theorem at_69_7 : am_at 69 7 = some (.istore 4, 9, 4, []) := rfl
set_option maxRecDepth 20000 in
theorem at_69_9 : am_at 69 9 = some (.iload 4, 11, 4, []) := rfl
set_option maxRecDepth 20000 in
theorem at_69_11 : am_at 69 11 = some (.aload_n 0, 12, 0, []) := rfl
set_option maxRecDepth 20000 in
theorem at_69_12 : am_at 69 12 = some (.getfield 62, 15, 0, [4, 5, 0, 534]) := rfl
set_option maxRecDepth 20000 in
theorem at_69_15 : am_at 69 15 = some (.if_icmp .ge 61, 18, 76, []) := rfl
set_option maxRecDepth 20000 in
theorem at_69_18 : am_at 69 18 = some (.aload_n 0, 19, 0, []) := rfl
set_option maxRecDepth 20000 in
theorem at_69_19 : am_at 69 19 = some (.getfield 24, 22, 0, [4, 10, 3, 539]) := rfl
set_option maxRecDepth 20000 in
theorem at_69_22 : am_at 69 22 = some (.iload_n 1, 23, 1, []) := rfl
set_option maxRecDepth 20000 in
theorem at_69_23 : am_at 69 23 = some (.bipush 10, 25, 10, []) := rfl
set_option maxRecDepth 20000 in
theorem at_69_25 : am_at 69 25 = some (.imul, 26, 0, []) := rfl
set_option maxRecDepth 20000 in
theorem at_69_26 : am_at 69 26 = some (.iload 4, 28, 4, []) := rfl
set_option maxRecDepth 20000 in
theorem at_69_28 : am_at 69 28 = some (.iadd, 29, 0, []) := rfl
set_option maxRecDepth 20000 in
theorem at_69_29 : am_at 69 29 = some (.iaload, 30, 0, []) := rfl
set_option maxRecDepth 20000 in
theorem at_69_30 : am_at 69 30 = some (.istore 5, 32, 5, []) := rfl
set_option maxRecDepth 20000 in
theorem at_69_32 : am_at 69 32 = some (.iload 5, 34, 5, []) := rfl
set_option maxRecDepth 20000 in
theorem at_69_34 : am_at 69 34 = some (.bipush (-4), 36, 4294967292, []) := rfl
set_option maxRecDepth 20000 in
theorem at_69_36 : am_at 69 36 = some (.if_icmp .eq 34, 39, 70, []) := rfl
set_option maxRecDepth 20000 in
theorem at_69_39 : am_at 69 39 = some (.aload_n 0, 40, 0, []) := rfl
set_option maxRecDepth 20000 in
theorem at_69_40 : am_at 69 40 = some (.getfield 15, 43, 0, [4, 4, 3, 533]) := rfl
set_option maxRecDepth 20000 in
theorem at_69_43 : am_at 69 43 = some (.iload 4, 45, 4, []) := rfl
set_option maxRecDepth 20000 in
theorem at_69_45 : am_at 69 45 = some (.iaload, 46, 0, []) := rfl
set_option maxRecDepth 20000 in
theorem at_69_46 : am_at 69 46 = some (.aload_n 0, 47, 0, []) := rfl
set_option maxRecDepth 20000 in
theorem at_69_47 : am_at 69 47 = some (.getfield 27, 50, 0, [4, 11, 3, 540]) := rfl
set_option maxRecDepth 20000 in
theorem at_69_50 : am_at 69 50 = some (.iload_n 3, 51, 3, []) := rfl
set_option maxRecDepth 20000 in
theorem at_69_51 : am_at 69 51 = some (.iload 5, 53, 5, []) := rfl
set_option maxRecDepth 20000 in
theorem at_69_53 : am_at 69 53 = some (.iadd, 54, 0, []) := rfl
set_option maxRecDepth 20000 in
theorem at_69_54 : am_at 69 54 = some (.iaload, 55, 0, []) := rfl
set_option maxRecDepth 20000 in
theorem at_69_55 : am_at 69 55 = some (.iadd, 56, 0, []) := rfl
set_option maxRecDepth 20000 in
theorem at_69_56 : am_at 69 56 = some (.aload_n 0, 57, 0, []) := rfl
set_option maxRecDepth 20000 in
theorem at_69_57 : am_at 69 57 = some (.getfield 27, 60, 0, [4, 11, 3, 540]) := rfl
set_option maxRecDepth 20000 in
theorem at_69_60 : am_at 69 60 = some (.iload_n 2, 61, 2, []) := rfl
set_option maxRecDepth 20000 in
theorem at_69_61 : am_at 69 61 = some (.iload_n 1, 62, 1, []) := rfl
set_option maxRecDepth 20000 in
theorem at_69_62 : am_at 69 62 = some (.iadd, 63, 0, []) := rfl
set_option maxRecDepth 20000 in
theorem at_69_63 : am_at 69 63 = some (.iaload, 64, 0, []) := rfl
set_option maxRecDepth 20000 in
theorem at_69_64 : am_at 69 64 = some (.if_icmp .ne 6, 67, 70, []) := rfl
set_option maxRecDepth 20000 in
theorem at_69_67 : am_at 69 67 = some (.iload 4, 69, 4, []) := rfl
set_option maxRecDepth 20000 in
theorem at_69_69 : am_at 69 69 = some (.ireturn, 70, 0, [0]) := rfl
set_option maxRecDepth 20000 in
theorem at_69_70 : am_at 69 70 = some (.iinc 4 1, 73, 4, []) := rfl
set_option maxRecDepth 20000 in
theorem at_69_73 : am_at 69 73 = some (.goto (-64), 76, 9, []) := rfl
set_option maxRecDepth 20000 in
theorem at_69_76 : am_at 69 76 = some (.bipush (-4), 78, 4294967292, []) := rfl
set_option maxRecDepth 20000 in
theorem at_69_78 : am_at 69 78 = some (.ireturn, 79, 0, [0]) := rfl
set_option maxRecDepth 20000 in
theorem at_70_0 : am_at 70 0 = some (.iconst 0, 1, 0, []) := rfl
set_option maxRecDepth 20000 in
theorem at_70_1 : am_at 70 1 = some (.istore 4, 3, 4, []) := rfl
set_option maxRecDepth 20000 in
theorem at_70_3 : am_at 70 3 = some (.iload 4, 5, 4, []) := rfl
set_option maxRecDepth 20000 in
theorem at_70_5 : am_at 70 5 = some (.aload_n 2, 6, 2, []) := rfl
set_option maxRecDepth 20000 in
theorem at_70_6 : am_at 70 6 = some (.getfield 50, 9, 0, [4, 1, 0, 530]) := rfl
set_option maxRecDepth 20000 in
theorem at_70_9 : am_at 70 9 = some (.if_icmp .ge 28, 12, 37, []) := rfl
set_option maxRecDepth 20000 in
theorem at_70_12 : am_at 70 12 = some (.aload_n 0, 13, 0, []) := rfl
set_option maxRecDepth 20000 in
theorem at_70_13 : am_at 70 13 = some (.getfield 27, 16, 0, [1, 6, 3, 369]) := rfl
set_option maxRecDepth 20000 in
theorem at_70_16 : am_at 70 16 = some (.iload_n 1, 17, 1, []) := rfl
set_option maxRecDepth 20000 in
theorem at_70_17 : am_at 70 17 = some (.bipush 12, 19, 12, []) := rfl
set_option maxRecDepth 20000 in
theorem at_70_19 : am_at 70 19 = some (.imul, 20, 0, []) := rfl
set_option maxRecDepth 20000 in
theorem at_70_20 : am_at 70 20 = some (.iload 4, 22, 4, []) := rfl
set_option maxRecDepth 20000 in
theorem at_70_22 : am_at 70 22 = some (.iadd, 23, 0, []) := rfl
set_option maxRecDepth 20000 in
theorem at_70_23 : am_at 70 23 = some (.aload_n 2, 24, 2, []) := rfl
set_option maxRecDepth 20000 in
theorem at_70_24 : am_at 70 24 = some (.getfield 55, 27, 0, [4, 0, 3, 528]) := rfl
set_option maxRecDepth 20000 in
theorem at_70_27 : am_at 70 27 = some (.iload 4, 29, 4, []) := rfl
set_option maxRecDepth 20000 in
theorem at_70_29 : am_at 70 29 = some (.iaload, 30, 0, []) := rfl
set_option maxRecDepth 20000 in
theorem at_70_30 : am_at 70 30 = some (.iastore, 31, 0, []) := rfl
set_option maxRecDepth 20000 in
theorem at_70_31 : am_at 70 31 = some (.iinc 4 1, 34, 4, []) := rfl
set_option maxRecDepth 20000 in
theorem at_70_34 : am_at 70 34 = some (.goto (-31), 37, 3, []) := rfl
set_option maxRecDepth 20000 in
theorem at_70_37 : am_at 70 37 = some (.aload_n 0, 38, 0, []) := rfl
set_option maxRecDepth 20000 in
theorem at_70_38 : am_at 70 38 = some (.getfield 24, 41, 0, [1, 5, 3, 367]) := rfl
set_option maxRecDepth 20000 in
theorem at_70_41 : am_at 70 41 = some (.iload_n 1, 42, 1, []) := rfl
set_option maxRecDepth 20000 in
theorem at_70_42 : am_at 70 42 = some (.aload_n 2, 43, 2, []) := rfl
set_option maxRecDepth 20000 in
theorem at_70_43 : am_at 70 43 = some (.getfield 50, 46, 0, [4, 1, 0, 530]) := rfl
set_option maxRecDepth 20000 in
theorem at_70_46 : am_at 70 46 = some (.iastore, 47, 0, []) := rfl
set_option maxRecDepth 20000 in
theorem at_70_47 : am_at 70 47 = some (.aload_n 0, 48, 0, []) := rfl
set_option maxRecDepth 20000 in
theorem at_70_48 : am_at 70 48 = some (.getfield 21, 51, 0, [1, 4, 3, 365]) := rfl
set_option maxRecDepth 20000 in
theorem at_70_51 : am_at 70 51 = some (.iload_n 1, 52, 1, []) := rfl
set_option maxRecDepth 20000 in
theorem at_70_52 : am_at 70 52 = some (.iconst 0, 53, 0, []) := rfl
set_option maxRecDepth 20000 in
theorem at_70_53 : am_at 70 53 = some (.iastore, 54, 0, []) := rfl
set_option maxRecDepth 20000 in
theorem at_70_54 : am_at 70 54 = some (.aload_n 0, 55, 0, []) := rfl
set_option maxRecDepth 20000 in
theorem at_70_55 : am_at 70 55 = some (.getfield 30, 58, 0, [1, 7, 3, 370]) := rfl
set_option maxRecDepth 20000 in
theorem at_70_58 : am_at 70 58 = some (.iload_n 1, 59, 1, []) := rfl
set_option maxRecDepth 20000 in
theorem at_70_59 : am_at 70 59 = some (.iload_n 3, 60, 3, []) := rfl
set_option maxRecDepth 20000 in
theorem at_70_60 : am_at 70 60 = some (.iastore, 61, 0, []) := rfl
set_option maxRecDepth 20000 in
theorem at_70_61 : am_at 70 61 = some (.aload_n 0, 62, 0, []) := rfl
set_option maxRecDepth 20000 in
theorem at_70_62 : am_at 70 62 = some (.getfield 37, 65, 0, [1, 9, 3, 374]) := rfl
set_option maxRecDepth 20000 in
theorem at_70_65 : am_at 70 65 = some (.bipush 7, 67, 7, []) := rfl
set_option maxRecDepth 20000 in
theorem at_70_67 : am_at 70 67 = some (.dup2, 68, 0, []) := rfl
set_option maxRecDepth 20000 in
theorem at_70_68 : am_at 70 68 = some (.iaload, 69, 0, []) := rfl
set_option maxRecDepth 20000 in
theorem at_70_69 : am_at 70 69 = some (.aload_n 2, 70, 2, []) := rfl
set_option maxRecDepth 20000 in
theorem at_70_70 : am_at 70 70 = some (.getfield 50, 73, 0, [4, 1, 0, 530]) := rfl
set_option maxRecDepth 20000 in
theorem at_70_73 : am_at 70 73 = some (.ifCond .le 7, 76, 80, []) := rfl
set_option maxRecDepth 20000 in
theorem at_70_76 : am_at 70 76 = some (.iconst 1, 77, 1, []) := rfl
set_option maxRecDepth 20000 in
theorem at_70_77 : am_at 70 77 = some (.goto 4, 80, 81, []) := rfl
set_option maxRecDepth 20000 in
theorem at_70_80 : am_at 70 80 = some (.iconst 0, 81, 0, []) := rfl
set_option maxRecDepth 20000 in
theorem at_70_81 : am_at 70 81 = some (.iadd, 82, 0, []) := rfl
set_option maxRecDepth 20000 in
theorem at_70_82 : am_at 70 82 = some (.iastore, 83, 0, []) := rfl
set_option maxRecDepth 20000 in
theorem at_70_83 : am_at 70 83 = some (.return_, 84, 0, []) := rfl
set_option maxRecDepth 20000 in
theorem at_71_0 : am_at 71 0 = some (.aload_n 0, 1, 0, []) := rfl
set_option maxRecDepth 20000 in
theorem at_71_1 : am_at 71 1 = some (.getfield 24, 4, 0, [1, 5, 3, 367]) := rfl
set_option maxRecDepth 20000 in
theorem at_71_4 : am_at 71 4 = some (.iload_n 1, 5, 1, []) := rfl
set_option maxRecDepth 20000 in
theorem at_71_5 : am_at 71 5 = some (.iconst 0, 6, 0, []) := rfl
set_option maxRecDepth 20000 in
theorem at_71_6 : am_at 71 6 = some (.iastore, 7, 0, []) := rfl
set_option maxRecDepth 20000 in
theorem at_71_7 : am_at 71 7 = some (.aload_n 0, 8, 0, []) := rfl
set_option maxRecDepth 20000 in
theorem at_71_8 : am_at 71 8 = some (.getfield 21, 11, 0, [1, 4, 3, 365]) := rfl
set_option maxRecDepth 20000 in
theorem at_71_11 : am_at 71 11 = some (.iload_n 1, 12, 1, []) := rfl
set_option maxRecDepth 20000 in
theorem at_71_12 : am_at 71 12 = some (.iconst 0, 13, 0, []) := rfl
set_option maxRecDepth 20000 in
theorem at_71_13 : am_at 71 13 = some (.iastore, 14, 0, []) := rfl
set_option maxRecDepth 20000 in
theorem at_71_14 : am_at 71 14 = some (.return_, 15, 0, []) := rfl
set_option maxRecDepth 20000 in
theorem at_72_0 : am_at 72 0 = some (.aload_n 0, 1, 0, []) := rfl
set_option maxRecDepth 20000 in
theorem at_72_1 : am_at 72 1 = some (.getfield 9, 4, 0, [1, 1, 3, 357]) := rfl
set_option maxRecDepth 20000 in
theorem at_72_4 : am_at 72 4 = some (.iload_n 1, 5, 1, []) := rfl
set_option maxRecDepth 20000 in
theorem at_72_5 : am_at 72 5 = some (.iload_n 2, 6, 2, []) := rfl
set_option maxRecDepth 20000 in
theorem at_72_6 : am_at 72 6 = some (.iastore, 7, 0, []) := rfl
set_option maxRecDepth 20000 in
theorem at_72_7 : am_at 72 7 = some (.aload_n 0, 8, 0, []) := rfl
set_option maxRecDepth 20000 in
theorem at_72_8 : am_at 72 8 = some (.getfield 15, 11, 0, [1, 2, 3, 360]) := rfl
set_option maxRecDepth 20000 in
theorem at_72_11 : am_at 72 11 = some (.iload_n 1, 12, 1, []) := rfl
set_option maxRecDepth 20000 in
theorem at_72_12 : am_at 72 12 = some (.dup2, 13, 0, []) := rfl
set_option maxRecDepth 20000 in
theorem at_72_13 : am_at 72 13 = some (.iaload, 14, 0, []) := rfl
set_option maxRecDepth 20000 in
theorem at_72_14 : am_at 72 14 = some (.iconst 1, 15, 1, []) := rfl
set_option maxRecDepth 20000 in
theorem at_72_15 : am_at 72 15 = some (.iadd, 16, 0, []) := rfl
set_option maxRecDepth 20000 in
theorem at_72_16 : am_at 72 16 = some (.iastore, 17, 0, []) := rfl
set_option maxRecDepth 20000 in
theorem at_72_17 : am_at 72 17 = some (.aload_n 0, 18, 0, []) := rfl
set_option maxRecDepth 20000 in
theorem at_72_18 : am_at 72 18 = some (.getfield 33, 21, 0, [1, 8, 3, 372]) := rfl
set_option maxRecDepth 20000 in
theorem at_72_21 : am_at 72 21 = some (.iload_n 1, 22, 1, []) := rfl
set_option maxRecDepth 20000 in
theorem at_72_22 : am_at 72 22 = some (.iconst 1, 23, 1, []) := rfl
set_option maxRecDepth 20000 in
theorem at_72_23 : am_at 72 23 = some (.bastore, 24, 0, []) := rfl
set_option maxRecDepth 20000 in
theorem at_72_24 : am_at 72 24 = some (.return_, 25, 0, []) := rfl
set_option maxRecDepth 20000 in
theorem at_73_0 : am_at 73 0 = some (.aload_n 0, 1, 0, []) := rfl
set_option maxRecDepth 20000 in
theorem at_73_1 : am_at 73 1 = some (.getfield 18, 4, 0, [0, 0, 0, 152]) := rfl
set_option maxRecDepth 20000 in
theorem at_73_4 : am_at 73 4 = some (.bipush 40, 6, 40, []) := rfl
set_option maxRecDepth 20000 in
theorem at_73_6 : am_at 73 6 = some (.if_icmp .ge 23, 9, 29, []) := rfl
set_option maxRecDepth 20000 in
theorem at_73_9 : am_at 73 9 = some (.aload_n 0, 10, 0, []) := rfl
set_option maxRecDepth 20000 in
theorem at_73_10 : am_at 73 10 = some (.getfield 9, 13, 0, [0, 1, 3, 155]) := rfl
set_option maxRecDepth 20000 in
theorem at_73_13 : am_at 73 13 = some (.aload_n 0, 14, 0, []) := rfl
set_option maxRecDepth 20000 in
theorem at_73_14 : am_at 73 14 = some (.getfield 18, 17, 0, [0, 0, 0, 152]) := rfl
set_option maxRecDepth 20000 in
theorem at_73_17 : am_at 73 17 = some (.iload_n 1, 18, 1, []) := rfl
set_option maxRecDepth 20000 in
theorem at_73_18 : am_at 73 18 = some (.iastore, 19, 0, []) := rfl
set_option maxRecDepth 20000 in
theorem at_73_19 : am_at 73 19 = some (.aload_n 0, 20, 0, []) := rfl
set_option maxRecDepth 20000 in
theorem at_73_20 : am_at 73 20 = some (.getfield 15, 23, 0, [0, 2, 3, 157]) := rfl
set_option maxRecDepth 20000 in
theorem at_73_23 : am_at 73 23 = some (.aload_n 0, 24, 0, []) := rfl
set_option maxRecDepth 20000 in
theorem at_73_24 : am_at 73 24 = some (.getfield 18, 27, 0, [0, 0, 0, 152]) := rfl
set_option maxRecDepth 20000 in
theorem at_73_27 : am_at 73 27 = some (.iload_n 2, 28, 2, []) := rfl
set_option maxRecDepth 20000 in
theorem at_73_28 : am_at 73 28 = some (.iastore, 29, 0, []) := rfl
set_option maxRecDepth 20000 in
theorem at_73_29 : am_at 73 29 = some (.aload_n 0, 30, 0, []) := rfl
set_option maxRecDepth 20000 in
theorem at_73_30 : am_at 73 30 = some (.dup, 31, 0, []) := rfl
set_option maxRecDepth 20000 in
theorem at_73_31 : am_at 73 31 = some (.getfield 18, 34, 0, [0, 0, 0, 152]) := rfl
set_option maxRecDepth 20000 in
theorem at_73_34 : am_at 73 34 = some (.iconst 1, 35, 1, []) := rfl
set_option maxRecDepth 20000 in
theorem at_73_35 : am_at 73 35 = some (.iadd, 36, 0, []) := rfl
set_option maxRecDepth 20000 in
theorem at_73_36 : am_at 73 36 = some (.putfield 18, 39, 0, [0, 0, 0, 152]) := rfl
set_option maxRecDepth 20000 in
theorem at_73_39 : am_at 73 39 = some (.return_, 40, 0, []) := rfl
set_option maxRecDepth 20000 in
theorem at_74_0 : am_at 74 0 = some (.aload_n 1, 1, 1, []) := rfl
set_option maxRecDepth 20000 in
theorem at_74_1 : am_at 74 1 = some (.getfield 36, 4, 0, [1, 0, 3, 354]) := rfl
set_option maxRecDepth 20000 in
theorem at_74_4 : am_at 74 4 = some (.astore_n 2, 5, 2, []) := rfl
set_option maxRecDepth 20000 in
theorem at_74_5 : am_at 74 5 = some (.iconst 0, 6, 0, []) := rfl
set_option maxRecDepth 20000 in
theorem at_74_6 : am_at 74 6 = some (.istore_n 3, 7, 3, []) := rfl
set_option maxRecDepth 20000 in
theorem at_74_7 : am_at 74 7 = some (.iload_n 3, 8, 3, []) := rfl
set_option maxRecDepth 20000 in
theorem at_74_8 : am_at 74 8 = some (.aload_n 2, 9, 2, []) := rfl
set_option maxRecDepth 20000 in
theorem at_74_9 : am_at 74 9 = some (.getfield 57, 12, 0, [5, 0, 0, 262]) := rfl
set_option maxRecDepth 20000 in
theorem at_74_12 : am_at 74 12 = some (.if_icmp .ge 83, 15, 95, []) := rfl
set_option maxRecDepth 20000 in
theorem at_74_15 : am_at 74 15 = some (.aload_n 2, 16, 2, []) := rfl
set_option maxRecDepth 20000 in
theorem at_74_16 : am_at 74 16 = some (.getfield 207, 19, 0, [5, 6, 3, 281]) := rfl
set_option maxRecDepth 20000 in
theorem at_74_19 : am_at 74 19 = some (.iload_n 3, 20, 3, []) := rfl
set_option maxRecDepth 20000 in
theorem at_74_20 : am_at 74 20 = some (.iaload, 21, 0, []) := rfl
set_option maxRecDepth 20000 in
theorem at_74_21 : am_at 74 21 = some (.istore 4, 23, 4, []) := rfl
set_option maxRecDepth 20000 in
theorem at_74_23 : am_at 74 23 = some (.aload_n 0, 24, 0, []) := rfl
set_option maxRecDepth 20000 in
theorem at_74_24 : am_at 74 24 = some (.getfield 32, 27, 0, [3, 4, 3, 173]) := rfl
set_option maxRecDepth 20000 in
theorem at_74_27 : am_at 74 27 = some (.iload_n 3, 28, 3, []) := rfl
set_option maxRecDepth 20000 in
theorem at_74_28 : am_at 74 28 = some (.iload 4, 30, 4, []) := rfl
set_option maxRecDepth 20000 in
theorem at_74_30 : am_at 74 30 = some (.bipush (-4), 32, 4294967292, []) := rfl
set_option maxRecDepth 20000 in
theorem at_74_32 : am_at 74 32 = some (.if_icmp .eq 26, 35, 58, []) := rfl
set_option maxRecDepth 20000 in
theorem at_74_35 : am_at 74 35 = some (.aload_n 0, 36, 0, []) := rfl
set_option maxRecDepth 20000 in
theorem at_74_36 : am_at 74 36 = some (.getfield 32, 39, 0, [3, 4, 3, 173]) := rfl
set_option maxRecDepth 20000 in
theorem at_74_39 : am_at 74 39 = some (.iload 4, 41, 4, []) := rfl
set_option maxRecDepth 20000 in
theorem at_74_41 : am_at 74 41 = some (.baload, 42, 0, []) := rfl
set_option maxRecDepth 20000 in
theorem at_74_42 : am_at 74 42 = some (.ifCond .ne 12, 45, 54, []) := rfl
set_option maxRecDepth 20000 in
theorem at_74_45 : am_at 74 45 = some (.aload_n 1, 46, 1, []) := rfl
set_option maxRecDepth 20000 in
theorem at_74_46 : am_at 74 46 = some (.iload 4, 48, 4, []) := rfl
set_option maxRecDepth 20000 in
theorem at_74_48 : am_at 74 48 = some (.invokevirtual 210, 51, 75, [0, 1, 1, 622, 623, 624, 62]) := rfl
set_option maxRecDepth 20000 in
theorem at_74_51 : am_at 74 51 = some (.ifCond .eq 7, 54, 58, []) := rfl
set_option maxRecDepth 20000 in
theorem at_74_54 : am_at 74 54 = some (.iconst 1, 55, 1, []) := rfl
set_option maxRecDepth 20000 in
theorem at_74_55 : am_at 74 55 = some (.goto 4, 58, 59, []) := rfl
set_option maxRecDepth 20000 in
theorem at_74_58 : am_at 74 58 = some (.iconst 0, 59, 0, []) := rfl
set_option maxRecDepth 20000 in
theorem at_74_59 : am_at 74 59 = some (.bastore, 60, 0, []) := rfl
set_option maxRecDepth 20000 in
theorem at_74_60 : am_at 74 60 = some (.aload_n 0, 61, 0, []) := rfl
set_option maxRecDepth 20000 in
theorem at_74_61 : am_at 74 61 = some (.aload_n 1, 62, 1, []) := rfl
set_option maxRecDepth 20000 in
theorem at_74_62 : am_at 74 62 = some (.iload_n 3, 63, 3, []) := rfl
set_option maxRecDepth 20000 in
theorem at_74_63 : am_at 74 63 = some (.aload_n 1, 64, 1, []) := rfl
set_option maxRecDepth 20000 in
theorem at_74_64 : am_at 74 64 = some (.getfield 213, 67, 0, [1, 8, 3, 373]) := rfl
set_option maxRecDepth 20000 in
theorem at_74_67 : am_at 74 67 = some (.iload_n 3, 68, 3, []) := rfl
set_option maxRecDepth 20000 in
theorem at_74_68 : am_at 74 68 = some (.baload, 69, 0, []) := rfl
set_option maxRecDepth 20000 in
theorem at_74_69 : am_at 74 69 = some (.ifCond .eq 12, 72, 81, []) := rfl
set_option maxRecDepth 20000 in
theorem at_74_72 : am_at 74 72 = some (.aload_n 0, 73, 0, []) := rfl
set_option maxRecDepth 20000 in
theorem at_74_73 : am_at 74 73 = some (.getfield 32, 76, 0, [3, 4, 3, 173]) := rfl
set_option maxRecDepth 20000 in
theorem at_74_76 : am_at 74 76 = some (.iload_n 3, 77, 3, []) := rfl
set_option maxRecDepth 20000 in
theorem at_74_77 : am_at 74 77 = some (.baload, 78, 0, []) := rfl
set_option maxRecDepth 20000 in
theorem at_74_78 : am_at 74 78 = some (.ifCond .eq 7, 81, 85, []) := rfl
set_option maxRecDepth 20000 in
theorem at_74_81 : am_at 74 81 = some (.iconst 1, 82, 1, []) := rfl
set_option maxRecDepth 20000 in
theorem at_74_82 : am_at 74 82 = some (.goto 4, 85, 86, []) := rfl
set_option maxRecDepth 20000 in
theorem at_74_85 : am_at 74 85 = some (.iconst 0, 86, 0, []) := rfl
set_option maxRecDepth 20000 in
theorem at_74_86 : am_at 74 86 = some (.invokevirtual 216, 89, 76, [0, 3, 3, 626, 628, 24, 56]) := rfl
set_option maxRecDepth 20000 in
theorem at_74_89 : am_at 74 89 = some (.iinc 3 1, 92, 3, []) := rfl
set_option maxRecDepth 20000 in
theorem at_74_92 : am_at 74 92 = some (.goto (-85), 95, 7, []) := rfl
set_option maxRecDepth 20000 in
theorem at_74_95 : am_at 74 95 = some (.return_, 96, 0, []) := rfl
set_option maxRecDepth 20000 in
theorem at_75_0 : am_at 75 0 = some (.aload_n 0, 1, 0, []) := rfl
set_option maxRecDepth 20000 in
theorem at_75_1 : am_at 75 1 = some (.getfield 40, 4, 0, [1, 0, 3, 355]) := rfl
set_option maxRecDepth 20000 in
theorem at_75_4 : am_at 75 4 = some (.getfield 58, 7, 0, [5, 2, 3, 268]) := rfl
set_option maxRecDepth 20000 in
theorem at_75_7 : am_at 75 7 = some (.iload_n 1, 8, 1, []) := rfl
set_option maxRecDepth 20000 in
theorem at_75_8 : am_at 75 8 = some (.iaload, 9, 0, []) := rfl
set_option maxRecDepth 20000 in
theorem at_75_9 : am_at 75 9 = some (.iconst 4, 10, 4, []) := rfl
set_option maxRecDepth 20000 in
theorem at_75_10 : am_at 75 10 = some (.if_icmp .ne 26, 13, 36, []) := rfl
set_option maxRecDepth 20000 in
theorem at_75_13 : am_at 75 13 = some (.aload_n 0, 14, 0, []) := rfl
set_option maxRecDepth 20000 in
theorem at_75_14 : am_at 75 14 = some (.getfield 33, 17, 0, [1, 8, 3, 372]) := rfl
set_option maxRecDepth 20000 in
theorem at_75_17 : am_at 75 17 = some (.iload_n 1, 18, 1, []) := rfl
set_option maxRecDepth 20000 in
theorem at_75_18 : am_at 75 18 = some (.baload, 19, 0, []) := rfl
set_option maxRecDepth 20000 in
theorem at_75_19 : am_at 75 19 = some (.ifCond .eq 17, 22, 36, []) := rfl
set_option maxRecDepth 20000 in
theorem at_75_22 : am_at 75 22 = some (.aload_n 0, 23, 0, []) := rfl
set_option maxRecDepth 20000 in
theorem at_75_23 : am_at 75 23 = some (.getfield 9, 26, 0, [1, 1, 3, 357]) := rfl
set_option maxRecDepth 20000 in
theorem at_75_26 : am_at 75 26 = some (.iload_n 1, 27, 1, []) := rfl
set_option maxRecDepth 20000 in
theorem at_75_27 : am_at 75 27 = some (.iaload, 28, 0, []) := rfl
set_option maxRecDepth 20000 in
theorem at_75_28 : am_at 75 28 = some (.iconst 3, 29, 3, []) := rfl
set_option maxRecDepth 20000 in
theorem at_75_29 : am_at 75 29 = some (.if_icmp .eq 7, 32, 36, []) := rfl
set_option maxRecDepth 20000 in
theorem at_75_32 : am_at 75 32 = some (.iconst 1, 33, 1, []) := rfl
set_option maxRecDepth 20000 in
theorem at_75_33 : am_at 75 33 = some (.goto 4, 36, 37, []) := rfl
set_option maxRecDepth 20000 in
theorem at_75_36 : am_at 75 36 = some (.iconst 0, 37, 0, []) := rfl
set_option maxRecDepth 20000 in
theorem at_75_37 : am_at 75 37 = some (.ireturn, 38, 0, [1]) := rfl
set_option maxRecDepth 20000 in
theorem at_76_0 : am_at 76 0 = some (.aload_n 1, 1, 1, []) := rfl
set_option maxRecDepth 20000 in
theorem at_76_1 : am_at 76 1 = some (.getfield 36, 4, 0, [1, 0, 3, 354]) := rfl
set_option maxRecDepth 20000 in
theorem at_76_4 : am_at 76 4 = some (.getfield 84, 7, 0, [5, 2, 3, 267]) := rfl
set_option maxRecDepth 20000 in
theorem at_76_7 : am_at 76 7 = some (.iload_n 2, 8, 2, []) := rfl
set_option maxRecDepth 20000 in
theorem at_76_8 : am_at 76 8 = some (.iaload, 9, 0, []) := rfl
set_option maxRecDepth 20000 in
theorem at_76_9 : am_at 76 9 = some (.tableswitch 124 0 9 #[55, 124, 124, 124, 124, 124, 100, 100, 124, 77], 64, 133, [64, 133, 133, 133, 133, 133, 109, 109, 133, 86]) := rfl
set_option maxRecDepth 20000 in
theorem at_76_64 : am_at 76 64 = some (.iload_n 3, 65, 3, []) := rfl
set_option maxRecDepth 20000 in
theorem at_76_65 : am_at 76 65 = some (.ifCond .eq 68, 68, 133, []) := rfl
set_option maxRecDepth 20000 in
theorem at_76_68 : am_at 76 68 = some (.aload_n 1, 69, 1, []) := rfl
set_option maxRecDepth 20000 in
theorem at_76_69 : am_at 76 69 = some (.getfield 62, 72, 0, [1, 3, 3, 363]) := rfl
set_option maxRecDepth 20000 in
theorem at_76_72 : am_at 76 72 = some (.iload_n 2, 73, 2, []) := rfl
set_option maxRecDepth 20000 in
theorem at_76_73 : am_at 76 73 = some (.iaload, 74, 0, []) := rfl
set_option maxRecDepth 20000 in
theorem at_76_74 : am_at 76 74 = some (.ifCond .le 59, 77, 133, []) := rfl
set_option maxRecDepth 20000 in
theorem at_76_77 : am_at 76 77 = some (.aload_n 0, 78, 0, []) := rfl
set_option maxRecDepth 20000 in
theorem at_76_78 : am_at 76 78 = some (.aload_n 1, 79, 1, []) := rfl
set_option maxRecDepth 20000 in
theorem at_76_79 : am_at 76 79 = some (.iload_n 2, 80, 2, []) := rfl
set_option maxRecDepth 20000 in
theorem at_76_80 : am_at 76 80 = some (.invokevirtual 66, 83, 34, [0, 2, 3, 414, 416, 5, 56]) := rfl
set_option maxRecDepth 20000 in
theorem at_76_83 : am_at 76 83 = some (.goto 50, 86, 133, []) := rfl
set_option maxRecDepth 20000 in
theorem at_76_86 : am_at 76 86 = some (.iload_n 3, 87, 3, []) := rfl
set_option maxRecDepth 20000 in
theorem at_76_87 : am_at 76 87 = some (.ifCond .ne 13, 90, 100, []) := rfl
set_option maxRecDepth 20000 in
theorem at_76_90 : am_at 76 90 = some (.aload_n 1, 91, 1, []) := rfl
set_option maxRecDepth 20000 in
theorem at_76_91 : am_at 76 91 = some (.getfield 220, 94, 0, [1, 1, 3, 359]) := rfl
set_option maxRecDepth 20000 in
theorem at_76_94 : am_at 76 94 = some (.iload_n 2, 95, 2, []) := rfl
set_option maxRecDepth 20000 in
theorem at_76_95 : am_at 76 95 = some (.iaload, 96, 0, []) := rfl
set_option maxRecDepth 20000 in
theorem at_76_96 : am_at 76 96 = some (.iconst 1, 97, 1, []) := rfl
set_option maxRecDepth 20000 in
theorem at_76_97 : am_at 76 97 = some (.if_icmp .ne 36, 100, 133, []) := rfl
set_option maxRecDepth 20000 in
theorem at_76_100 : am_at 76 100 = some (.aload_n 0, 101, 0, []) := rfl
set_option maxRecDepth 20000 in
theorem at_76_101 : am_at 76 101 = some (.aload_n 1, 102, 1, []) := rfl
set_option maxRecDepth 20000 in
theorem at_76_102 : am_at 76 102 = some (.iload_n 2, 103, 2, []) := rfl
set_option maxRecDepth 20000 in
theorem at_76_103 : am_at 76 103 = some (.invokevirtual 223, 106, 77, [0, 2, 3, 630, 632, 25, 56]) := rfl
set_option maxRecDepth 20000 in
theorem at_76_106 : am_at 76 106 = some (.goto 27, 109, 133, []) := rfl
set_option maxRecDepth 20000 in
theorem at_76_109 : am_at 76 109 = some (.iload_n 3, 110, 3, []) := rfl
set_option maxRecDepth 20000 in
theorem at_76_110 : am_at 76 110 = some (.ifCond .ne 13, 113, 123, []) := rfl
set_option maxRecDepth 20000 in
theorem at_76_113 : am_at 76 113 = some (.aload_n 1, 114, 1, []) := rfl
set_option maxRecDepth 20000 in
theorem at_76_114 : am_at 76 114 = some (.getfield 220, 117, 0, [1, 1, 3, 359]) := rfl
set_option maxRecDepth 20000 in
theorem at_76_117 : am_at 76 117 = some (.iload_n 2, 118, 2, []) := rfl
set_option maxRecDepth 20000 in
theorem at_76_118 : am_at 76 118 = some (.iaload, 119, 0, []) := rfl
set_option maxRecDepth 20000 in
theorem at_76_119 : am_at 76 119 = some (.iconst 3, 120, 3, []) := rfl
set_option maxRecDepth 20000 in
theorem at_76_120 : am_at 76 120 = some (.if_icmp .eq 13, 123, 133, []) := rfl
set_option maxRecDepth 20000 in
theorem at_76_123 : am_at 76 123 = some (.aload_n 1, 124, 1, []) := rfl
set_option maxRecDepth 20000 in
theorem at_76_124 : am_at 76 124 = some (.getfield 115, 127, 0, [1, 4, 3, 366]) := rfl
set_option maxRecDepth 20000 in
theorem at_76_127 : am_at 76 127 = some (.iload_n 2, 128, 2, []) := rfl
set_option maxRecDepth 20000 in
theorem at_76_128 : am_at 76 128 = some (.iconst 0, 129, 0, []) := rfl
set_option maxRecDepth 20000 in
theorem at_76_129 : am_at 76 129 = some (.iastore, 130, 0, []) := rfl
set_option maxRecDepth 20000 in
theorem at_76_130 : am_at 76 130 = some (.goto 3, 133, 133, []) := rfl
set_option maxRecDepth 20000 in
theorem at_76_133 : am_at 76 133 = some (.return_, 134, 0, []) := rfl
set_option maxRecDepth 20000 in
theorem at_77_0 : am_at 77 0 = some (.aload_n 1, 1, 1, []) := rfl
set_option maxRecDepth 20000 in
theorem at_77_1 : am_at 77 1 = some (.getfield 62, 4, 0, [1, 3, 3, 363]) := rfl
set_option maxRecDepth 20000 in
theorem at_77_4 : am_at 77 4 = some (.iload_n 2, 5, 2, []) := rfl
set_option maxRecDepth 20000 in
theorem at_77_5 : am_at 77 5 = some (.iaload, 6, 0, []) := rfl
set_option maxRecDepth 20000 in
theorem at_77_6 : am_at 77 6 = some (.ifCond .le 9, 9, 15, []) := rfl
set_option maxRecDepth 20000 in
theorem at_77_9 : am_at 77 9 = some (.aload_n 0, 10, 0, []) := rfl
set_option maxRecDepth 20000 in
theorem at_77_10 : am_at 77 10 = some (.aload_n 1, 11, 1, []) := rfl
set_option maxRecDepth 20000 in
theorem at_77_11 : am_at 77 11 = some (.iload_n 2, 12, 2, []) := rfl
set_option maxRecDepth 20000 in
theorem at_77_12 : am_at 77 12 = some (.invokevirtual 66, 15, 34, [0, 2, 3, 414, 416, 5, 56]) := rfl
set_option maxRecDepth 20000 in
theorem at_77_15 : am_at 77 15 = some (.aload_n 1, 16, 1, []) := rfl
set_option maxRecDepth 20000 in
theorem at_77_16 : am_at 77 16 = some (.iload_n 2, 17, 2, []) := rfl
set_option maxRecDepth 20000 in
theorem at_77_17 : am_at 77 17 = some (.invokevirtual 203, 20, 71, [0, 1, 1, 606, 607, 608, 62]) := rfl
set_option maxRecDepth 20000 in
theorem at_77_20 : am_at 77 20 = some (.return_, 21, 0, []) := rfl
set_option maxRecDepth 20000 in
theorem at_78_0 : am_at 78 0 = some (.iload_n 1, 1, 1, []) := rfl
set_option maxRecDepth 20000 in
theorem at_78_1 : am_at 78 1 = some (.ifCond .lt 9, 4, 10, []) := rfl
set_option maxRecDepth 20000 in
theorem at_78_4 : am_at 78 4 = some (.iload_n 1, 5, 1, []) := rfl
set_option maxRecDepth 20000 in
theorem at_78_5 : am_at 78 5 = some (.bipush 50, 7, 50, []) := rfl
set_option maxRecDepth 20000 in
theorem at_78_7 : am_at 78 7 = some (.if_icmp .le 5, 10, 12, []) := rfl
set_option maxRecDepth 20000 in
theorem at_78_10 : am_at 78 10 = some (.iconst (-1), 11, 4294967295, []) := rfl
set_option maxRecDepth 20000 in
theorem at_78_11 : am_at 78 11 = some (.ireturn, 12, 0, [0]) := rfl
set_option maxRecDepth 20000 in
theorem at_78_12 : am_at 78 12 = some (.iconst 0, 13, 0, []) := rfl
set_option maxRecDepth 20000 in
theorem at_78_13 : am_at 78 13 = some (.istore_n 2, 14, 2, []) := rfl
set_option maxRecDepth 20000 in
theorem at_78_14 : am_at 78 14 = some (.iconst 0, 15, 0, []) := rfl
set_option maxRecDepth 20000 in
theorem at_78_15 : am_at 78 15 = some (.istore_n 3, 16, 3, []) := rfl
set_option maxRecDepth 20000 in
theorem at_78_16 : am_at 78 16 = some (.iload_n 3, 17, 3, []) := rfl
set_option maxRecDepth 20000 in
theorem at_78_17 : am_at 78 17 = some (.iload_n 1, 18, 1, []) := rfl
set_option maxRecDepth 20000 in
theorem at_78_18 : am_at 78 18 = some (.if_icmp .ge 54, 21, 72, []) := rfl
set_option maxRecDepth 20000 in
theorem at_78_21 : am_at 78 21 = some (.iconst 0, 22, 0, []) := rfl
set_option maxRecDepth 20000 in
theorem at_78_22 : am_at 78 22 = some (.istore 4, 24, 4, []) := rfl
set_option maxRecDepth 20000 in
theorem at_78_24 : am_at 78 24 = some (.iload 4, 26, 4, []) := rfl
set_option maxRecDepth 20000 in
theorem at_78_26 : am_at 78 26 = some (.aload_n 0, 27, 0, []) := rfl
set_option maxRecDepth 20000 in
theorem at_78_27 : am_at 78 27 = some (.getfield 100, 30, 0, [7, 4, 0, 194]) := rfl
set_option maxRecDepth 20000 in
theorem at_78_30 : am_at 78 30 = some (.if_icmp .ge 36, 33, 66, []) := rfl
set_option maxRecDepth 20000 in
theorem at_78_33 : am_at 78 33 = some (.iload_n 2, 34, 2, []) := rfl
set_option maxRecDepth 20000 in
theorem at_78_34 : am_at 78 34 = some (.aload_n 0, 35, 0, []) := rfl
set_option maxRecDepth 20000 in
theorem at_78_35 : am_at 78 35 = some (.getfield 10, 38, 0, [7, 0, 3, 190]) := rfl
set_option maxRecDepth 20000 in
theorem at_78_38 : am_at 78 38 = some (.aload_n 0, 39, 0, []) := rfl
set_option maxRecDepth 20000 in
theorem at_78_39 : am_at 78 39 = some (.getfield 24, 42, 0, [7, 2, 3, 192]) := rfl
set_option maxRecDepth 20000 in
theorem at_78_42 : am_at 78 42 = some (.iload 4, 44, 4, []) := rfl
set_option maxRecDepth 20000 in
theorem at_78_44 : am_at 78 44 = some (.aaload, 45, 0, []) := rfl
set_option maxRecDepth 20000 in
theorem at_78_45 : am_at 78 45 = some (.invokevirtual 120, 48, 40, [0, 1, 3, 440, 441, 442, 56]) := rfl
set_option maxRecDepth 20000 in
theorem at_78_48 : am_at 78 48 = some (.bipush (-2), 50, 4294967294, []) := rfl
set_option maxRecDepth 20000 in
theorem at_78_50 : am_at 78 50 = some (.if_icmp .ne 7, 53, 57, []) := rfl
set_option maxRecDepth 20000 in
theorem at_78_53 : am_at 78 53 = some (.iconst 0, 54, 0, []) := rfl
set_option maxRecDepth 20000 in
theorem at_78_54 : am_at 78 54 = some (.goto 4, 57, 58, []) := rfl
set_option maxRecDepth 20000 in
theorem at_78_57 : am_at 78 57 = some (.iconst 1, 58, 1, []) := rfl
set_option maxRecDepth 20000 in
theorem at_78_58 : am_at 78 58 = some (.iadd, 59, 0, []) := rfl
set_option maxRecDepth 20000 in
theorem at_78_59 : am_at 78 59 = some (.istore_n 2, 60, 2, []) := rfl
set_option maxRecDepth 20000 in
theorem at_78_60 : am_at 78 60 = some (.iinc 4 1, 63, 4, []) := rfl
set_option maxRecDepth 20000 in
theorem at_78_63 : am_at 78 63 = some (.goto (-39), 66, 24, []) := rfl
set_option maxRecDepth 20000 in
theorem at_78_66 : am_at 78 66 = some (.iinc 3 1, 69, 3, []) := rfl
set_option maxRecDepth 20000 in
theorem at_78_69 : am_at 78 69 = some (.goto (-53), 72, 16, []) := rfl
set_option maxRecDepth 20000 in
theorem at_78_72 : am_at 78 72 = some (.iload_n 2, 73, 2, []) := rfl
set_option maxRecDepth 20000 in
theorem at_78_73 : am_at 78 73 = some (.ireturn, 74, 0, [0]) := rfl
set_option maxRecDepth 20000 in
theorem at_79_0 : am_at 79 0 = some (.iload_n 1, 1, 1, []) := rfl
set_option maxRecDepth 20000 in
theorem at_79_1 : am_at 79 1 = some (.invokestatic 46, 4, 9, [0, 1, 225, 226, 55]) := rfl
set_option maxRecDepth 20000 in
theorem at_79_4 : am_at 79 4 = some (.ifCond .ne 5, 7, 9, []) := rfl
set_option maxRecDepth 20000 in
theorem at_79_7 : am_at 79 7 = some (.iconst (-1), 8, 4294967295, []) := rfl
set_option maxRecDepth 20000 in
theorem at_79_8 : am_at 79 8 = some (.ireturn, 9, 0, [0]) := rfl
set_option maxRecDepth 20000 in
theorem at_79_9 : am_at 79 9 = some (.aload_n 0, 10, 0, []) := rfl
set_option maxRecDepth 20000 in
theorem at_79_10 : am_at 79 10 = some (.getfield 10, 13, 0, [7, 0, 3, 190]) := rfl
set_option maxRecDepth 20000 in
theorem at_79_13 : am_at 79 13 = some (.getfield 123, 16, 0, [3, 0, 3, 167]) := rfl
set_option maxRecDepth 20000 in
theorem at_79_16 : am_at 79 16 = some (.getfield 127, 19, 0, [6, 0, 0, 85]) := rfl
set_option maxRecDepth 20000 in
theorem at_79_19 : am_at 79 19 = some (.istore_n 2, 20, 2, []) := rfl
set_option maxRecDepth 20000 in
theorem at_79_20 : am_at 79 20 = some (.aload_n 0, 21, 0, []) := rfl
set_option maxRecDepth 20000 in
theorem at_79_21 : am_at 79 21 = some (.getfield 10, 24, 0, [7, 0, 3, 190]) := rfl
set_option maxRecDepth 20000 in
theorem at_79_24 : am_at 79 24 = some (.getfield 123, 27, 0, [3, 0, 3, 167]) := rfl
set_option maxRecDepth 20000 in
theorem at_79_27 : am_at 79 27 = some (.iload_n 1, 28, 1, []) := rfl
set_option maxRecDepth 20000 in
theorem at_79_28 : am_at 79 28 = some (.putfield 127, 31, 0, [6, 0, 0, 85]) := rfl
set_option maxRecDepth 20000 in
theorem at_79_31 : am_at 79 31 = some (.iload_n 2, 32, 2, []) := rfl
set_option maxRecDepth 20000 in
theorem at_79_32 : am_at 79 32 = some (.ireturn, 33, 0, [0]) := rfl
set_option maxRecDepth 20000 in
theorem at_80_0 : am_at 80 0 = some (.iload_n 1, 1, 1, []) := rfl
set_option maxRecDepth 20000 in
theorem at_80_1 : am_at 80 1 = some (.invokestatic 60, 4, 14, [0, 1, 244, 245, 55]) := rfl
set_option maxRecDepth 20000 in
theorem at_80_4 : am_at 80 4 = some (.ifCond .eq 25, 7, 29, []) := rfl
set_option maxRecDepth 20000 in
theorem at_80_7 : am_at 80 7 = some (.iload_n 2, 8, 2, []) := rfl
set_option maxRecDepth 20000 in
theorem at_80_8 : am_at 80 8 = some (.ifCond .lt 21, 11, 29, []) := rfl
set_option maxRecDepth 20000 in
theorem at_80_11 : am_at 80 11 = some (.iload_n 2, 12, 2, []) := rfl
set_option maxRecDepth 20000 in
theorem at_80_12 : am_at 80 12 = some (.iconst 3, 13, 3, []) := rfl
set_option maxRecDepth 20000 in
theorem at_80_13 : am_at 80 13 = some (.if_icmp .gt 16, 16, 29, []) := rfl
set_option maxRecDepth 20000 in
theorem at_80_16 : am_at 80 16 = some (.iload_n 2, 17, 2, []) := rfl
set_option maxRecDepth 20000 in
theorem at_80_17 : am_at 80 17 = some (.iconst 3, 18, 3, []) := rfl
set_option maxRecDepth 20000 in
theorem at_80_18 : am_at 80 18 = some (.if_icmp .ne 13, 21, 31, []) := rfl
set_option maxRecDepth 20000 in
theorem at_80_21 : am_at 80 21 = some (.lload_n 3, 22, 3, []) := rfl
set_option maxRecDepth 20000 in
theorem at_80_22 : am_at 80 22 = some (.ldc2_w 132, 25, 6, [646]) := rfl
set_option maxRecDepth 20000 in
theorem at_80_25 : am_at 80 25 = some (.lcmp, 26, 0, []) := rfl
set_option maxRecDepth 20000 in
theorem at_80_26 : am_at 80 26 = some (.ifCond .le 5, 29, 31, []) := rfl
set_option maxRecDepth 20000 in
theorem at_80_29 : am_at 80 29 = some (.iconst (-1), 30, 4294967295, []) := rfl
set_option maxRecDepth 20000 in
theorem at_80_30 : am_at 80 30 = some (.ireturn, 31, 0, [0]) := rfl
set_option maxRecDepth 20000 in
theorem at_80_31 : am_at 80 31 = some (.iload_n 2, 32, 2, []) := rfl
set_option maxRecDepth 20000 in
theorem at_80_32 : am_at 80 32 = some (.iconst 3, 33, 3, []) := rfl
set_option maxRecDepth 20000 in
theorem at_80_33 : am_at 80 33 = some (.if_icmp .ne 12, 36, 45, []) := rfl
set_option maxRecDepth 20000 in
theorem at_80_36 : am_at 80 36 = some (.lload_n 3, 37, 3, []) := rfl
set_option maxRecDepth 20000 in
theorem at_80_37 : am_at 80 37 = some (.lconst 0, 38, 0, []) := rfl
set_option maxRecDepth 20000 in
theorem at_80_38 : am_at 80 38 = some (.lcmp, 39, 0, []) := rfl
set_option maxRecDepth 20000 in
theorem at_80_39 : am_at 80 39 = some (.ifCond .ge 6, 42, 45, []) := rfl
set_option maxRecDepth 20000 in
theorem at_80_42 : am_at 80 42 = some (.bipush (-14), 44, 4294967282, []) := rfl
set_option maxRecDepth 20000 in
theorem at_80_44 : am_at 80 44 = some (.ireturn, 45, 0, [0]) := rfl
set_option maxRecDepth 20000 in
theorem at_80_45 : am_at 80 45 = some (.aload_n 0, 46, 0, []) := rfl
set_option maxRecDepth 20000 in
theorem at_80_46 : am_at 80 46 = some (.getfield 10, 49, 0, [7, 0, 3, 190]) := rfl
set_option maxRecDepth 20000 in
theorem at_80_49 : am_at 80 49 = some (.getfield 123, 52, 0, [3, 0, 3, 167]) := rfl
set_option maxRecDepth 20000 in
theorem at_80_52 : am_at 80 52 = some (.iload_n 1, 53, 1, []) := rfl
set_option maxRecDepth 20000 in
theorem at_80_53 : am_at 80 53 = some (.iload_n 2, 54, 2, []) := rfl
set_option maxRecDepth 20000 in
theorem at_80_54 : am_at 80 54 = some (.lload_n 3, 55, 3, []) := rfl
set_option maxRecDepth 20000 in
theorem at_80_55 : am_at 80 55 = some (.invokevirtual 134, 58, 81, [0, 3, 6, 647, 648, 649, 57]) := rfl
set_option maxRecDepth 20000 in
theorem at_80_58 : am_at 80 58 = some (.iconst 1, 59, 1, []) := rfl
set_option maxRecDepth 20000 in
theorem at_80_59 : am_at 80 59 = some (.ireturn, 60, 0, [0]) := rfl
set_option maxRecDepth 20000 in
theorem at_81_0 : am_at 81 0 = some (.aload_n 0, 1, 0, []) := rfl
set_option maxRecDepth 20000 in
theorem at_81_1 : am_at 81 1 = some (.getfield 9, 4, 0, [6, 1, 3, 86]) := rfl
set_option maxRecDepth 20000 in
theorem at_81_4 : am_at 81 4 = some (.iload_n 1, 5, 1, []) := rfl
set_option maxRecDepth 20000 in
theorem at_81_5 : am_at 81 5 = some (.iload_n 2, 6, 2, []) := rfl
set_option maxRecDepth 20000 in
theorem at_81_6 : am_at 81 6 = some (.iastore, 7, 0, []) := rfl
set_option maxRecDepth 20000 in
theorem at_81_7 : am_at 81 7 = some (.iload_n 2, 8, 2, []) := rfl
set_option maxRecDepth 20000 in
theorem at_81_8 : am_at 81 8 = some (.tableswitch 73 1 3 #[28, 38, 58], 36, 81, [36, 46, 66]) := rfl
set_option maxRecDepth 20000 in
theorem at_81_36 : am_at 81 36 = some (.aload_n 0, 37, 0, []) := rfl
set_option maxRecDepth 20000 in
theorem at_81_37 : am_at 81 37 = some (.getfield 15, 40, 0, [6, 2, 3, 88]) := rfl
set_option maxRecDepth 20000 in
theorem at_81_40 : am_at 81 40 = some (.iload_n 1, 41, 1, []) := rfl
set_option maxRecDepth 20000 in
theorem at_81_41 : am_at 81 41 = some (.lload_n 3, 42, 3, []) := rfl
set_option maxRecDepth 20000 in
theorem at_81_42 : am_at 81 42 = some (.lastore, 43, 0, []) := rfl
set_option maxRecDepth 20000 in
theorem at_81_43 : am_at 81 43 = some (.goto 45, 46, 88, []) := rfl
set_option maxRecDepth 20000 in
theorem at_81_46 : am_at 81 46 = some (.aload_n 0, 47, 0, []) := rfl
set_option maxRecDepth 20000 in
theorem at_81_47 : am_at 81 47 = some (.getfield 15, 50, 0, [6, 2, 3, 88]) := rfl
set_option maxRecDepth 20000 in
theorem at_81_50 : am_at 81 50 = some (.iload_n 1, 51, 1, []) := rfl
set_option maxRecDepth 20000 in
theorem at_81_51 : am_at 81 51 = some (.lload_n 3, 52, 3, []) := rfl
set_option maxRecDepth 20000 in
theorem at_81_52 : am_at 81 52 = some (.lconst 0, 53, 0, []) := rfl
set_option maxRecDepth 20000 in
theorem at_81_53 : am_at 81 53 = some (.lcmp, 54, 0, []) := rfl
set_option maxRecDepth 20000 in
theorem at_81_54 : am_at 81 54 = some (.ifCond .eq 7, 57, 61, []) := rfl
set_option maxRecDepth 20000 in
theorem at_81_57 : am_at 81 57 = some (.lconst 1, 58, 1, []) := rfl
set_option maxRecDepth 20000 in
theorem at_81_58 : am_at 81 58 = some (.goto 4, 61, 62, []) := rfl
set_option maxRecDepth 20000 in
theorem at_81_61 : am_at 81 61 = some (.lconst 0, 62, 0, []) := rfl
set_option maxRecDepth 20000 in
theorem at_81_62 : am_at 81 62 = some (.lastore, 63, 0, []) := rfl
set_option maxRecDepth 20000 in
theorem at_81_63 : am_at 81 63 = some (.goto 25, 66, 88, []) := rfl
set_option maxRecDepth 20000 in
theorem at_81_66 : am_at 81 66 = some (.aload_n 0, 67, 0, []) := rfl
set_option maxRecDepth 20000 in
theorem at_81_67 : am_at 81 67 = some (.getfield 15, 70, 0, [6, 2, 3, 88]) := rfl
set_option maxRecDepth 20000 in
theorem at_81_70 : am_at 81 70 = some (.iload_n 1, 71, 1, []) := rfl
set_option maxRecDepth 20000 in
theorem at_81_71 : am_at 81 71 = some (.lload_n 3, 72, 3, []) := rfl
set_option maxRecDepth 20000 in
theorem at_81_72 : am_at 81 72 = some (.lastore, 73, 0, []) := rfl
set_option maxRecDepth 20000 in
theorem at_81_73 : am_at 81 73 = some (.aload_n 0, 74, 0, []) := rfl
set_option maxRecDepth 20000 in
theorem at_81_74 : am_at 81 74 = some (.iload_n 1, 75, 1, []) := rfl
set_option maxRecDepth 20000 in
theorem at_81_75 : am_at 81 75 = some (.invokevirtual 22, 78, 82, [0, 1, 6, 651, 653, 26, 57]) := rfl
set_option maxRecDepth 20000 in
theorem at_81_78 : am_at 81 78 = some (.goto 10, 81, 88, []) := rfl
set_option maxRecDepth 20000 in
theorem at_81_81 : am_at 81 81 = some (.aload_n 0, 82, 0, []) := rfl
set_option maxRecDepth 20000 in
theorem at_81_82 : am_at 81 82 = some (.getfield 15, 85, 0, [6, 2, 3, 88]) := rfl
set_option maxRecDepth 20000 in
theorem at_81_85 : am_at 81 85 = some (.iload_n 1, 86, 1, []) := rfl
set_option maxRecDepth 20000 in
theorem at_81_86 : am_at 81 86 = some (.lconst 0, 87, 0, []) := rfl
set_option maxRecDepth 20000 in
theorem at_81_87 : am_at 81 87 = some (.lastore, 88, 0, []) := rfl
set_option maxRecDepth 20000 in
theorem at_81_88 : am_at 81 88 = some (.return_, 89, 0, []) := rfl
set_option maxRecDepth 20000 in
theorem at_82_0 : am_at 82 0 = some (.iconst 0, 1, 0, []) := rfl
set_option maxRecDepth 20000 in
theorem at_82_1 : am_at 82 1 = some (.istore_n 2, 2, 2, []) := rfl
set_option maxRecDepth 20000 in
theorem at_82_2 : am_at 82 2 = some (.iload_n 2, 3, 2, []) := rfl
set_option maxRecDepth 20000 in
theorem at_82_3 : am_at 82 3 = some (.bipush 6, 5, 6, []) := rfl
set_option maxRecDepth 20000 in
theorem at_82_5 : am_at 82 5 = some (.if_icmp .ge 21, 8, 26, []) := rfl
set_option maxRecDepth 20000 in
theorem at_82_8 : am_at 82 8 = some (.aload_n 0, 9, 0, []) := rfl
set_option maxRecDepth 20000 in
theorem at_82_9 : am_at 82 9 = some (.getfield 19, 12, 0, [6, 3, 3, 90]) := rfl
set_option maxRecDepth 20000 in
theorem at_82_12 : am_at 82 12 = some (.iload_n 1, 13, 1, []) := rfl
set_option maxRecDepth 20000 in
theorem at_82_13 : am_at 82 13 = some (.bipush 6, 15, 6, []) := rfl
set_option maxRecDepth 20000 in
theorem at_82_15 : am_at 82 15 = some (.imul, 16, 0, []) := rfl
set_option maxRecDepth 20000 in
theorem at_82_16 : am_at 82 16 = some (.iload_n 2, 17, 2, []) := rfl
set_option maxRecDepth 20000 in
theorem at_82_17 : am_at 82 17 = some (.iadd, 18, 0, []) := rfl
set_option maxRecDepth 20000 in
theorem at_82_18 : am_at 82 18 = some (.iconst 0, 19, 0, []) := rfl
set_option maxRecDepth 20000 in
theorem at_82_19 : am_at 82 19 = some (.iastore, 20, 0, []) := rfl
set_option maxRecDepth 20000 in
theorem at_82_20 : am_at 82 20 = some (.iinc 2 1, 23, 2, []) := rfl
set_option maxRecDepth 20000 in
theorem at_82_23 : am_at 82 23 = some (.goto (-21), 26, 2, []) := rfl
set_option maxRecDepth 20000 in
theorem at_82_26 : am_at 82 26 = some (.return_, 27, 0, []) := rfl
set_option maxRecDepth 20000 in
theorem at_83_0 : am_at 83 0 = some (.iload_n 1, 1, 1, []) := rfl
set_option maxRecDepth 20000 in
theorem at_83_1 : am_at 83 1 = some (.invokestatic 60, 4, 14, [0, 1, 244, 245, 55]) := rfl
set_option maxRecDepth 20000 in
theorem at_83_4 : am_at 83 4 = some (.ifCond .ne 5, 7, 9, []) := rfl
set_option maxRecDepth 20000 in
theorem at_83_7 : am_at 83 7 = some (.iconst (-1), 8, 4294967295, []) := rfl
set_option maxRecDepth 20000 in
theorem at_83_8 : am_at 83 8 = some (.ireturn, 9, 0, [0]) := rfl
set_option maxRecDepth 20000 in
theorem at_83_9 : am_at 83 9 = some (.aload_n 0, 10, 0, []) := rfl
set_option maxRecDepth 20000 in
theorem at_83_10 : am_at 83 10 = some (.getfield 10, 13, 0, [7, 0, 3, 190]) := rfl
set_option maxRecDepth 20000 in
theorem at_83_13 : am_at 83 13 = some (.getfield 123, 16, 0, [3, 0, 3, 167]) := rfl
set_option maxRecDepth 20000 in
theorem at_83_16 : am_at 83 16 = some (.iload_n 1, 17, 1, []) := rfl
set_option maxRecDepth 20000 in
theorem at_83_17 : am_at 83 17 = some (.iconst 3, 18, 3, []) := rfl
set_option maxRecDepth 20000 in
theorem at_83_18 : am_at 83 18 = some (.iload_n 2, 19, 2, []) := rfl
set_option maxRecDepth 20000 in
theorem at_83_19 : am_at 83 19 = some (.invokevirtual 138, 22, 51, [0, 3, 6, 659, 483, 484, 57]) := rfl
set_option maxRecDepth 20000 in
theorem at_83_22 : am_at 83 22 = some (.istore 4, 24, 4, []) := rfl
set_option maxRecDepth 20000 in
theorem at_83_24 : am_at 83 24 = some (.iload 4, 26, 4, []) := rfl
set_option maxRecDepth 20000 in
theorem at_83_26 : am_at 83 26 = some (.ifCond .eq 9, 29, 35, []) := rfl
set_option maxRecDepth 20000 in
theorem at_83_29 : am_at 83 29 = some (.bipush (-10), 31, 4294967286, []) := rfl
set_option maxRecDepth 20000 in
theorem at_83_31 : am_at 83 31 = some (.iload 4, 33, 4, []) := rfl
set_option maxRecDepth 20000 in
theorem at_83_33 : am_at 83 33 = some (.isub, 34, 0, []) := rfl
set_option maxRecDepth 20000 in
theorem at_83_34 : am_at 83 34 = some (.ireturn, 35, 0, [0]) := rfl
set_option maxRecDepth 20000 in
theorem at_83_35 : am_at 83 35 = some (.aload_n 0, 36, 0, []) := rfl
set_option maxRecDepth 20000 in
theorem at_83_36 : am_at 83 36 = some (.getfield 10, 39, 0, [7, 0, 3, 190]) := rfl
set_option maxRecDepth 20000 in
theorem at_83_39 : am_at 83 39 = some (.getfield 123, 42, 0, [3, 0, 3, 167]) := rfl
set_option maxRecDepth 20000 in
theorem at_83_42 : am_at 83 42 = some (.iload_n 1, 43, 1, []) := rfl
set_option maxRecDepth 20000 in
theorem at_83_43 : am_at 83 43 = some (.iload_n 2, 44, 2, []) := rfl
set_option maxRecDepth 20000 in
theorem at_83_44 : am_at 83 44 = some (.iload_n 3, 45, 3, []) := rfl
set_option maxRecDepth 20000 in
theorem at_83_45 : am_at 83 45 = some (.invokevirtual 142, 48, 84, [0, 3, 6, 660, 661, 662, 57]) := rfl
set_option maxRecDepth 20000 in
theorem at_83_48 : am_at 83 48 = some (.iconst 1, 49, 1, []) := rfl
set_option maxRecDepth 20000 in
theorem at_83_49 : am_at 83 49 = some (.ireturn, 50, 0, [0]) := rfl
set_option maxRecDepth 20000 in
theorem at_84_0 : am_at 84 0 = some (.aload_n 0, 1, 0, []) := rfl
set_option maxRecDepth 20000 in
theorem at_84_1 : am_at 84 1 = some (.getfield 19, 4, 0, [6, 3, 3, 90]) := rfl
set_option maxRecDepth 20000 in
theorem at_84_4 : am_at 84 4 = some (.iload_n 1, 5, 1, []) := rfl
set_option maxRecDepth 20000 in
theorem at_84_5 : am_at 84 5 = some (.bipush 6, 7, 6, []) := rfl
set_option maxRecDepth 20000 in
theorem at_84_7 : am_at 84 7 = some (.imul, 8, 0, []) := rfl
set_option maxRecDepth 20000 in
theorem at_84_8 : am_at 84 8 = some (.iload_n 2, 9, 2, []) := rfl
set_option maxRecDepth 20000 in
theorem at_84_9 : am_at 84 9 = some (.iadd, 10, 0, []) := rfl
set_option maxRecDepth 20000 in
theorem at_84_10 : am_at 84 10 = some (.iload_n 3, 11, 3, []) := rfl
set_option maxRecDepth 20000 in
theorem at_84_11 : am_at 84 11 = some (.iastore, 12, 0, []) := rfl
set_option maxRecDepth 20000 in
theorem at_84_12 : am_at 84 12 = some (.return_, 13, 0, []) := rfl
set_option maxRecDepth 20000 in
theorem at_85_0 : am_at 85 0 = some (.iload_n 2, 1, 2, []) := rfl
set_option maxRecDepth 20000 in
theorem at_85_1 : am_at 85 1 = some (.iconst 1, 2, 1, []) := rfl
set_option maxRecDepth 20000 in
theorem at_85_2 : am_at 85 2 = some (.if_icmp .ne 27, 5, 29, []) := rfl
set_option maxRecDepth 20000 in
theorem at_85_5 : am_at 85 5 = some (.iload_n 1, 6, 1, []) := rfl
set_option maxRecDepth 20000 in
theorem at_85_6 : am_at 85 6 = some (.invokestatic 60, 9, 14, [0, 1, 244, 245, 55]) := rfl
set_option maxRecDepth 20000 in
theorem at_85_9 : am_at 85 9 = some (.ifCond .eq 18, 12, 27, []) := rfl
set_option maxRecDepth 20000 in
theorem at_85_12 : am_at 85 12 = some (.aload_n 0, 13, 0, []) := rfl
set_option maxRecDepth 20000 in
theorem at_85_13 : am_at 85 13 = some (.getfield 10, 16, 0, [7, 0, 3, 190]) := rfl
set_option maxRecDepth 20000 in
theorem at_85_16 : am_at 85 16 = some (.getfield 123, 19, 0, [3, 0, 3, 167]) := rfl
set_option maxRecDepth 20000 in
theorem at_85_19 : am_at 85 19 = some (.getfield 145, 22, 0, [6, 2, 3, 89]) := rfl
set_option maxRecDepth 20000 in
theorem at_85_22 : am_at 85 22 = some (.iload_n 1, 23, 1, []) := rfl
set_option maxRecDepth 20000 in
theorem at_85_23 : am_at 85 23 = some (.laload, 24, 0, []) := rfl
set_option maxRecDepth 20000 in
theorem at_85_24 : am_at 85 24 = some (.goto 4, 27, 28, []) := rfl
set_option maxRecDepth 20000 in
theorem at_85_27 : am_at 85 27 = some (.lconst 0, 28, 0, []) := rfl
set_option maxRecDepth 20000 in
theorem at_85_28 : am_at 85 28 = some (.lreturn, 29, 0, []) := rfl
set_option maxRecDepth 20000 in
theorem at_85_29 : am_at 85 29 = some (.iload_n 2, 30, 2, []) := rfl
set_option maxRecDepth 20000 in
theorem at_85_30 : am_at 85 30 = some (.ifCond .ne 26, 33, 56, []) := rfl
set_option maxRecDepth 20000 in
theorem at_85_33 : am_at 85 33 = some (.iload_n 1, 34, 1, []) := rfl
set_option maxRecDepth 20000 in
theorem at_85_34 : am_at 85 34 = some (.invokestatic 60, 37, 14, [0, 1, 244, 245, 55]) := rfl
set_option maxRecDepth 20000 in
theorem at_85_37 : am_at 85 37 = some (.ifCond .eq 19, 40, 56, []) := rfl
set_option maxRecDepth 20000 in
theorem at_85_40 : am_at 85 40 = some (.aload_n 0, 41, 0, []) := rfl
set_option maxRecDepth 20000 in
theorem at_85_41 : am_at 85 41 = some (.getfield 10, 44, 0, [7, 0, 3, 190]) := rfl
set_option maxRecDepth 20000 in
theorem at_85_44 : am_at 85 44 = some (.getfield 123, 47, 0, [3, 0, 3, 167]) := rfl
set_option maxRecDepth 20000 in
theorem at_85_47 : am_at 85 47 = some (.getfield 149, 50, 0, [6, 1, 3, 87]) := rfl
set_option maxRecDepth 20000 in
theorem at_85_50 : am_at 85 50 = some (.iload_n 1, 51, 1, []) := rfl
set_option maxRecDepth 20000 in
theorem at_85_51 : am_at 85 51 = some (.iaload, 52, 0, []) := rfl
set_option maxRecDepth 20000 in
theorem at_85_52 : am_at 85 52 = some (.i2l, 53, 0, []) := rfl
set_option maxRecDepth 20000 in
theorem at_85_53 : am_at 85 53 = some (.goto 6, 56, 59, []) := rfl
set_option maxRecDepth 20000 in
theorem at_85_56 : am_at 85 56 = some (.ldc2_w 153, 59, 18446744073709551615, [668]) := rfl
set_option maxRecDepth 20000 in
theorem at_85_59 : am_at 85 59 = some (.lreturn, 60, 0, []) := rfl
set_option maxRecDepth 20000 in
theorem at_86_0 : am_at 86 0 = some (.aload_n 0, 1, 0, []) := rfl
set_option maxRecDepth 20000 in
theorem at_86_1 : am_at 86 1 = some (.iload_n 1, 2, 1, []) := rfl
set_option maxRecDepth 20000 in
theorem at_86_2 : am_at 86 2 = some (.invokevirtual 104, 5, 31, [0, 1, 7, 402, 404, 3, 55]) := rfl
set_option maxRecDepth 20000 in
theorem at_86_5 : am_at 86 5 = some (.astore 4, 7, 4, []) := rfl
set_option maxRecDepth 20000 in
theorem at_86_7 : am_at 86 7 = some (.aload 4, 9, 4, []) := rfl
set_option maxRecDepth 20000 in
theorem at_86_9 : am_at 86 9 = some (.ifnull 12, 12, 21, []) := rfl
set_option maxRecDepth 20000 in
theorem at_86_12 : am_at 86 12 = some (.aload 4, 14, 4, []) := rfl
set_option maxRecDepth 20000 in
theorem at_86_14 : am_at 86 14 = some (.iload_n 2, 15, 2, []) := rfl
set_option maxRecDepth 20000 in
theorem at_86_15 : am_at 86 15 = some (.invokevirtual 155, 18, 43, [0, 1, 1, 673, 453, 454, 62]) := rfl
set_option maxRecDepth 20000 in
theorem at_86_18 : am_at 86 18 = some (.ifCond .ne 5, 21, 23, []) := rfl
set_option maxRecDepth 20000 in
theorem at_86_21 : am_at 86 21 = some (.iconst (-1), 22, 4294967295, []) := rfl
set_option maxRecDepth 20000 in
theorem at_86_22 : am_at 86 22 = some (.ireturn, 23, 0, [0]) := rfl
set_option maxRecDepth 20000 in
theorem at_86_23 : am_at 86 23 = some (.iload_n 3, 24, 3, []) := rfl
set_option maxRecDepth 20000 in
theorem at_86_24 : am_at 86 24 = some (.tableswitch 63 0 3 #[32, 40, 48, 56], 56, 87, [56, 64, 72, 80]) := rfl
set_option maxRecDepth 20000 in
theorem at_86_56 : am_at 86 56 = some (.aload 4, 58, 4, []) := rfl
set_option maxRecDepth 20000 in
theorem at_86_58 : am_at 86 58 = some (.getfield 158, 61, 0, [1, 1, 3, 358]) := rfl
set_option maxRecDepth 20000 in
theorem at_86_61 : am_at 86 61 = some (.iload_n 2, 62, 2, []) := rfl
set_option maxRecDepth 20000 in
theorem at_86_62 : am_at 86 62 = some (.iaload, 63, 0, []) := rfl
set_option maxRecDepth 20000 in
theorem at_86_63 : am_at 86 63 = some (.ireturn, 64, 0, [0]) := rfl
set_option maxRecDepth 20000 in
theorem at_86_64 : am_at 86 64 = some (.aload 4, 66, 4, []) := rfl
set_option maxRecDepth 20000 in
theorem at_86_66 : am_at 86 66 = some (.getfield 161, 69, 0, [1, 2, 3, 361]) := rfl
set_option maxRecDepth 20000 in
theorem at_86_69 : am_at 86 69 = some (.iload_n 2, 70, 2, []) := rfl
set_option maxRecDepth 20000 in
theorem at_86_70 : am_at 86 70 = some (.iaload, 71, 0, []) := rfl
set_option maxRecDepth 20000 in
theorem at_86_71 : am_at 86 71 = some (.ireturn, 72, 0, [0]) := rfl
set_option maxRecDepth 20000 in
theorem at_86_72 : am_at 86 72 = some (.aload 4, 74, 4, []) := rfl
set_option maxRecDepth 20000 in
theorem at_86_74 : am_at 86 74 = some (.getfield 164, 77, 0, [1, 3, 3, 364]) := rfl
set_option maxRecDepth 20000 in
theorem at_86_77 : am_at 86 77 = some (.iload_n 2, 78, 2, []) := rfl
set_option maxRecDepth 20000 in
theorem at_86_78 : am_at 86 78 = some (.iaload, 79, 0, []) := rfl
set_option maxRecDepth 20000 in
theorem at_86_79 : am_at 86 79 = some (.ireturn, 80, 0, [0]) := rfl
set_option maxRecDepth 20000 in
theorem at_86_80 : am_at 86 80 = some (.aload 4, 82, 4, []) := rfl
set_option maxRecDepth 20000 in
theorem at_86_82 : am_at 86 82 = some (.iload_n 2, 83, 2, []) := rfl
set_option maxRecDepth 20000 in
theorem at_86_83 : am_at 86 83 = some (.invokevirtual 167, 86, 87, [0, 1, 1, 674, 675, 676, 62]) := rfl
set_option maxRecDepth 20000 in
theorem at_86_86 : am_at 86 86 = some (.ireturn, 87, 0, [0]) := rfl
set_option maxRecDepth 20000 in
theorem at_86_87 : am_at 86 87 = some (.iconst (-1), 88, 4294967295, []) := rfl
set_option maxRecDepth 20000 in
theorem at_86_88 : am_at 86 88 = some (.ireturn, 89, 0, [0]) := rfl
set_option maxRecDepth 20000 in
theorem at_87_0 : am_at 87 0 = some (.aload_n 0, 1, 0, []) := rfl
set_option maxRecDepth 20000 in
theorem at_87_1 : am_at 87 1 = some (.getfield 40, 4, 0, [1, 0, 3, 355]) := rfl
set_option maxRecDepth 20000 in
theorem at_87_4 : am_at 87 4 = some (.getfield 58, 7, 0, [5, 2, 3, 268]) := rfl
set_option maxRecDepth 20000 in
theorem at_87_7 : am_at 87 7 = some (.iload_n 1, 8, 1, []) := rfl
set_option maxRecDepth 20000 in
theorem at_87_8 : am_at 87 8 = some (.iaload, 9, 0, []) := rfl
set_option maxRecDepth 20000 in
theorem at_87_9 : am_at 87 9 = some (.bipush 9, 11, 9, []) := rfl
set_option maxRecDepth 20000 in
theorem at_87_11 : am_at 87 11 = some (.if_icmp .ne 17, 14, 28, []) := rfl
set_option maxRecDepth 20000 in
theorem at_87_14 : am_at 87 14 = some (.aload_n 0, 15, 0, []) := rfl
set_option maxRecDepth 20000 in
theorem at_87_15 : am_at 87 15 = some (.getfield 24, 18, 0, [1, 5, 3, 367]) := rfl
set_option maxRecDepth 20000 in
theorem at_87_18 : am_at 87 18 = some (.iload_n 1, 19, 1, []) := rfl
set_option maxRecDepth 20000 in
theorem at_87_19 : am_at 87 19 = some (.iaload, 20, 0, []) := rfl
set_option maxRecDepth 20000 in
theorem at_87_20 : am_at 87 20 = some (.ifCond .ne 8, 23, 28, []) := rfl
set_option maxRecDepth 20000 in
theorem at_87_23 : am_at 87 23 = some (.bipush (-4), 25, 4294967292, []) := rfl
set_option maxRecDepth 20000 in
theorem at_87_25 : am_at 87 25 = some (.goto 9, 28, 34, []) := rfl
set_option maxRecDepth 20000 in
theorem at_87_28 : am_at 87 28 = some (.aload_n 0, 29, 0, []) := rfl
set_option maxRecDepth 20000 in
theorem at_87_29 : am_at 87 29 = some (.getfield 21, 32, 0, [1, 4, 3, 365]) := rfl
set_option maxRecDepth 20000 in
theorem at_87_32 : am_at 87 32 = some (.iload_n 1, 33, 1, []) := rfl
set_option maxRecDepth 20000 in
theorem at_87_33 : am_at 87 33 = some (.iaload, 34, 0, []) := rfl
set_option maxRecDepth 20000 in
theorem at_87_34 : am_at 87 34 = some (.ireturn, 35, 0, [0]) := rfl
set_option maxRecDepth 20000 in
theorem at_88_0 : am_at 88 0 = some (.aload_n 0, 1, 0, []) := rfl
set_option maxRecDepth 20000 in
theorem at_88_1 : am_at 88 1 = some (.getfield 10, 4, 0, [7, 0, 3, 190]) := rfl
set_option maxRecDepth 20000 in
theorem at_88_4 : am_at 88 4 = some (.getfield 171, 7, 0, [3, 2, 3, 171]) := rfl
set_option maxRecDepth 20000 in
theorem at_88_7 : am_at 88 7 = some (.astore_n 3, 8, 3, []) := rfl
set_option maxRecDepth 20000 in
theorem at_88_8 : am_at 88 8 = some (.iload_n 1, 9, 1, []) := rfl
set_option maxRecDepth 20000 in
theorem at_88_9 : am_at 88 9 = some (.ifCond .lt 11, 12, 20, []) := rfl
set_option maxRecDepth 20000 in
theorem at_88_12 : am_at 88 12 = some (.iload_n 1, 13, 1, []) := rfl
set_option maxRecDepth 20000 in
theorem at_88_13 : am_at 88 13 = some (.aload_n 3, 14, 3, []) := rfl
set_option maxRecDepth 20000 in
theorem at_88_14 : am_at 88 14 = some (.invokevirtual 175, 17, 89, [0, 0, 0, 682, 683, 684, 59]) := rfl
set_option maxRecDepth 20000 in
theorem at_88_17 : am_at 88 17 = some (.if_icmp .lt 5, 20, 22, []) := rfl
set_option maxRecDepth 20000 in
theorem at_88_20 : am_at 88 20 = some (.iconst (-1), 21, 4294967295, []) := rfl
set_option maxRecDepth 20000 in
theorem at_88_21 : am_at 88 21 = some (.ireturn, 22, 0, [0]) := rfl
set_option maxRecDepth 20000 in
theorem at_88_22 : am_at 88 22 = some (.iload_n 2, 23, 2, []) := rfl
set_option maxRecDepth 20000 in
theorem at_88_23 : am_at 88 23 = some (.lookupswitch 39 #[(0, 25), (1, 32)], 48, 62, [48, 55]) := rfl
set_option maxRecDepth 20000 in
theorem at_88_48 : am_at 88 48 = some (.aload_n 3, 49, 3, []) := rfl
set_option maxRecDepth 20000 in
theorem at_88_49 : am_at 88 49 = some (.getfield 181, 52, 0, [0, 1, 3, 156]) := rfl
set_option maxRecDepth 20000 in
theorem at_88_52 : am_at 88 52 = some (.iload_n 1, 53, 1, []) := rfl
set_option maxRecDepth 20000 in
theorem at_88_53 : am_at 88 53 = some (.iaload, 54, 0, []) := rfl
set_option maxRecDepth 20000 in
theorem at_88_54 : am_at 88 54 = some (.ireturn, 55, 0, [0]) := rfl
set_option maxRecDepth 20000 in
theorem at_88_55 : am_at 88 55 = some (.aload_n 3, 56, 3, []) := rfl
set_option maxRecDepth 20000 in
theorem at_88_56 : am_at 88 56 = some (.getfield 183, 59, 0, [0, 2, 3, 158]) := rfl
set_option maxRecDepth 20000 in
theorem at_88_59 : am_at 88 59 = some (.iload_n 1, 60, 1, []) := rfl
set_option maxRecDepth 20000 in
theorem at_88_60 : am_at 88 60 = some (.iaload, 61, 0, []) := rfl
set_option maxRecDepth 20000 in
theorem at_88_61 : am_at 88 61 = some (.ireturn, 62, 0, [0]) := rfl
set_option maxRecDepth 20000 in
theorem at_88_62 : am_at 88 62 = some (.iconst (-1), 63, 4294967295, []) := rfl
set_option maxRecDepth 20000 in
theorem at_88_63 : am_at 88 63 = some (.ireturn, 64, 0, [0]) := rfl
set_option maxRecDepth 20000 in
theorem at_89_0 : am_at 89 0 = some (.aload_n 0, 1, 0, []) := rfl
set_option maxRecDepth 20000 in
theorem at_89_1 : am_at 89 1 = some (.getfield 18, 4, 0, [0, 0, 0, 152]) := rfl
set_option maxRecDepth 20000 in
theorem at_89_4 : am_at 89 4 = some (.bipush 40, 6, 40, []) := rfl
set_option maxRecDepth 20000 in
theorem at_89_6 : am_at 89 6 = some (.if_icmp .ge 10, 9, 16, []) := rfl
set_option maxRecDepth 20000 in
theorem at_89_9 : am_at 89 9 = some (.aload_n 0, 10, 0, []) := rfl
set_option maxRecDepth 20000 in
theorem at_89_10 : am_at 89 10 = some (.getfield 18, 13, 0, [0, 0, 0, 152]) := rfl
set_option maxRecDepth 20000 in
theorem at_89_13 : am_at 89 13 = some (.goto 5, 16, 18, []) := rfl
set_option maxRecDepth 20000 in
theorem at_89_16 : am_at 89 16 = some (.bipush 40, 18, 40, []) := rfl
set_option maxRecDepth 20000 in
theorem at_89_18 : am_at 89 18 = some (.ireturn, 19, 0, [0]) := rfl
set_option maxRecDepth 20000 in
theorem at_90_0 : am_at 90 0 = some (.aload_n 0, 1, 0, []) := rfl
set_option maxRecDepth 20000 in
theorem at_90_1 : am_at 90 1 = some (.iload_n 1, 2, 1, []) := rfl
set_option maxRecDepth 20000 in
theorem at_90_2 : am_at 90 2 = some (.invokevirtual 104, 5, 31, [0, 1, 7, 402, 404, 3, 55]) := rfl
set_option maxRecDepth 20000 in
theorem at_90_5 : am_at 90 5 = some (.astore 4, 7, 4, []) := rfl
set_option maxRecDepth 20000 in
theorem at_90_7 : am_at 90 7 = some (.aload 4, 9, 4, []) := rfl
set_option maxRecDepth 20000 in
theorem at_90_9 : am_at 90 9 = some (.ifnull 27, 12, 36, []) := rfl
set_option maxRecDepth 20000 in
theorem at_90_12 : am_at 90 12 = some (.aload 4, 14, 4, []) := rfl
set_option maxRecDepth 20000 in
theorem at_90_14 : am_at 90 14 = some (.iload_n 2, 15, 2, []) := rfl
set_option maxRecDepth 20000 in
theorem at_90_15 : am_at 90 15 = some (.invokevirtual 155, 18, 43, [0, 1, 1, 673, 453, 454, 62]) := rfl
set_option maxRecDepth 20000 in
theorem at_90_18 : am_at 90 18 = some (.ifCond .eq 18, 21, 36, []) := rfl
set_option maxRecDepth 20000 in
theorem at_90_21 : am_at 90 21 = some (.aload 4, 23, 4, []) := rfl
set_option maxRecDepth 20000 in
theorem at_90_23 : am_at 90 23 = some (.getfield 186, 26, 0, [1, 0, 3, 356]) := rfl
set_option maxRecDepth 20000 in
theorem at_90_26 : am_at 90 26 = some (.getfield 189, 29, 0, [5, 2, 3, 269]) := rfl
set_option maxRecDepth 20000 in
theorem at_90_29 : am_at 90 29 = some (.iload_n 2, 30, 2, []) := rfl
set_option maxRecDepth 20000 in
theorem at_90_30 : am_at 90 30 = some (.iaload, 31, 0, []) := rfl
set_option maxRecDepth 20000 in
theorem at_90_31 : am_at 90 31 = some (.bipush 9, 33, 9, []) := rfl
set_option maxRecDepth 20000 in
theorem at_90_33 : am_at 90 33 = some (.if_icmp .eq 5, 36, 38, []) := rfl
set_option maxRecDepth 20000 in
theorem at_90_36 : am_at 90 36 = some (.iconst (-1), 37, 4294967295, []) := rfl
set_option maxRecDepth 20000 in
theorem at_90_37 : am_at 90 37 = some (.ireturn, 38, 0, [0]) := rfl
set_option maxRecDepth 20000 in
theorem at_90_38 : am_at 90 38 = some (.aload 4, 40, 4, []) := rfl
set_option maxRecDepth 20000 in
theorem at_90_40 : am_at 90 40 = some (.iload_n 2, 41, 2, []) := rfl
set_option maxRecDepth 20000 in
theorem at_90_41 : am_at 90 41 = some (.iload_n 3, 42, 3, []) := rfl
set_option maxRecDepth 20000 in
theorem at_90_42 : am_at 90 42 = some (.invokevirtual 192, 45, 36, [0, 2, 1, 690, 423, 424, 62]) := rfl
set_option maxRecDepth 20000 in
theorem at_90_45 : am_at 90 45 = some (.ireturn, 46, 0, [0]) := rfl
set_option maxRecDepth 20000 in
theorem at_91_0 : am_at 91 0 = some (.aload_n 0, 1, 0, []) := rfl
set_option maxRecDepth 20000 in
theorem at_91_1 : am_at 91 1 = some (.iload_n 1, 2, 1, []) := rfl
set_option maxRecDepth 20000 in
theorem at_91_2 : am_at 91 2 = some (.invokevirtual 104, 5, 31, [0, 1, 7, 402, 404, 3, 55]) := rfl
set_option maxRecDepth 20000 in
theorem at_91_5 : am_at 91 5 = some (.astore_n 3, 6, 3, []) := rfl
set_option maxRecDepth 20000 in
theorem at_91_6 : am_at 91 6 = some (.aload_n 3, 7, 3, []) := rfl
set_option maxRecDepth 20000 in
theorem at_91_7 : am_at 91 7 = some (.ifnull 13, 10, 20, []) := rfl
set_option maxRecDepth 20000 in
theorem at_91_10 : am_at 91 10 = some (.iload_n 2, 11, 2, []) := rfl
set_option maxRecDepth 20000 in
theorem at_91_11 : am_at 91 11 = some (.ifCond .lt 9, 14, 20, []) := rfl
set_option maxRecDepth 20000 in
theorem at_91_14 : am_at 91 14 = some (.iload_n 2, 15, 2, []) := rfl
set_option maxRecDepth 20000 in
theorem at_91_15 : am_at 91 15 = some (.bipush 9, 17, 9, []) := rfl
set_option maxRecDepth 20000 in
theorem at_91_17 : am_at 91 17 = some (.if_icmp .lt 5, 20, 22, []) := rfl
set_option maxRecDepth 20000 in
theorem at_91_20 : am_at 91 20 = some (.iconst (-1), 21, 4294967295, []) := rfl
set_option maxRecDepth 20000 in
theorem at_91_21 : am_at 91 21 = some (.ireturn, 22, 0, [0]) := rfl
set_option maxRecDepth 20000 in
theorem at_91_22 : am_at 91 22 = some (.aload_n 3, 23, 3, []) := rfl
set_option maxRecDepth 20000 in
theorem at_91_23 : am_at 91 23 = some (.getfield 195, 26, 0, [1, 9, 3, 376]) := rfl
set_option maxRecDepth 20000 in
theorem at_91_26 : am_at 91 26 = some (.iload_n 2, 27, 2, []) := rfl
set_option maxRecDepth 20000 in
theorem at_91_27 : am_at 91 27 = some (.iaload, 28, 0, []) := rfl
set_option maxRecDepth 20000 in
theorem at_91_28 : am_at 91 28 = some (.ireturn, 29, 0, [0]) := rfl
set_option maxRecDepth 20000 in
theorem at_92_0 : am_at 92 0 = some (.iload_n 1, 1, 1, []) := rfl
set_option maxRecDepth 20000 in
theorem at_92_1 : am_at 92 1 = some (.tableswitch 102 0 5 #[39, 50, 55, 60, 71, 91], 40, 103, [40, 51, 56, 61, 72, 92]) := rfl
set_option maxRecDepth 20000 in
theorem at_92_40 : am_at 92 40 = some (.aload_n 0, 41, 0, []) := rfl
set_option maxRecDepth 20000 in
theorem at_92_41 : am_at 92 41 = some (.getfield 10, 44, 0, [7, 0, 3, 190]) := rfl
set_option maxRecDepth 20000 in
theorem at_92_44 : am_at 92 44 = some (.getfield 28, 47, 0, [3, 1, 3, 169]) := rfl
set_option maxRecDepth 20000 in
theorem at_92_47 : am_at 92 47 = some (.getfield 32, 50, 0, [2, 0, 0, 109]) := rfl
set_option maxRecDepth 20000 in
theorem at_92_50 : am_at 92 50 = some (.ireturn, 51, 0, [0]) := rfl
set_option maxRecDepth 20000 in
theorem at_92_51 : am_at 92 51 = some (.aload_n 0, 52, 0, []) := rfl
set_option maxRecDepth 20000 in
theorem at_92_52 : am_at 92 52 = some (.getfield 71, 55, 0, [7, 3, 0, 193]) := rfl
set_option maxRecDepth 20000 in
theorem at_92_55 : am_at 92 55 = some (.ireturn, 56, 0, [0]) := rfl
set_option maxRecDepth 20000 in
theorem at_92_56 : am_at 92 56 = some (.aload_n 0, 57, 0, []) := rfl
set_option maxRecDepth 20000 in
theorem at_92_57 : am_at 92 57 = some (.getfield 100, 60, 0, [7, 4, 0, 194]) := rfl
set_option maxRecDepth 20000 in
theorem at_92_60 : am_at 92 60 = some (.ireturn, 61, 0, [0]) := rfl
set_option maxRecDepth 20000 in
theorem at_92_61 : am_at 92 61 = some (.aload_n 0, 62, 0, []) := rfl
set_option maxRecDepth 20000 in
theorem at_92_62 : am_at 92 62 = some (.getfield 10, 65, 0, [7, 0, 3, 190]) := rfl
set_option maxRecDepth 20000 in
theorem at_92_65 : am_at 92 65 = some (.getfield 123, 68, 0, [3, 0, 3, 167]) := rfl
set_option maxRecDepth 20000 in
theorem at_92_68 : am_at 92 68 = some (.getfield 127, 71, 0, [6, 0, 0, 85]) := rfl
set_option maxRecDepth 20000 in
theorem at_92_71 : am_at 92 71 = some (.ireturn, 72, 0, [0]) := rfl
set_option maxRecDepth 20000 in
theorem at_92_72 : am_at 92 72 = some (.aload_n 0, 73, 0, []) := rfl
set_option maxRecDepth 20000 in
theorem at_92_73 : am_at 92 73 = some (.getfield 67, 76, 0, [7, 5, 3, 195]) := rfl
set_option maxRecDepth 20000 in
theorem at_92_76 : am_at 92 76 = some (.ifnonnull 8, 79, 84, []) := rfl
set_option maxRecDepth 20000 in
theorem at_92_79 : am_at 92 79 = some (.bipush (-4), 81, 4294967292, []) := rfl
set_option maxRecDepth 20000 in
theorem at_92_81 : am_at 92 81 = some (.goto 10, 84, 91, []) := rfl
set_option maxRecDepth 20000 in
theorem at_92_84 : am_at 92 84 = some (.aload_n 0, 85, 0, []) := rfl
set_option maxRecDepth 20000 in
theorem at_92_85 : am_at 92 85 = some (.getfield 67, 88, 0, [7, 5, 3, 195]) := rfl
set_option maxRecDepth 20000 in
theorem at_92_88 : am_at 92 88 = some (.getfield 97, 91, 0, [5, 0, 0, 263]) := rfl
set_option maxRecDepth 20000 in
theorem at_92_91 : am_at 92 91 = some (.ireturn, 92, 0, [0]) := rfl
set_option maxRecDepth 20000 in
theorem at_92_92 : am_at 92 92 = some (.aload_n 0, 93, 0, []) := rfl
set_option maxRecDepth 20000 in
theorem at_92_93 : am_at 92 93 = some (.getfield 10, 96, 0, [7, 0, 3, 190]) := rfl
set_option maxRecDepth 20000 in
theorem at_92_96 : am_at 92 96 = some (.getfield 171, 99, 0, [3, 2, 3, 171]) := rfl
set_option maxRecDepth 20000 in
theorem at_92_99 : am_at 92 99 = some (.getfield 198, 102, 0, [0, 0, 0, 154]) := rfl
set_option maxRecDepth 20000 in
theorem at_92_102 : am_at 92 102 = some (.ireturn, 103, 0, [0]) := rfl
set_option maxRecDepth 20000 in
theorem at_92_103 : am_at 92 103 = some (.iconst (-1), 104, 4294967295, []) := rfl
set_option maxRecDepth 20000 in
theorem at_92_104 : am_at 92 104 = some (.ireturn, 105, 0, [0]) := rfl
set_option maxRecDepth 20000 in
theorem at_93_0 : am_at 93 0 = some (.aload_n 0, 1, 0, []) := rfl
set_option maxRecDepth 20000 in
theorem at_93_1 : am_at 93 1 = some (.iload_n 1, 2, 1, []) := rfl
set_option maxRecDepth 20000 in
theorem at_93_2 : am_at 93 2 = some (.invokevirtual 108, 5, 32, [0, 1, 7, 406, 408, 4, 55]) := rfl
set_option maxRecDepth 20000 in
theorem at_93_5 : am_at 93 5 = some (.astore 4, 7, 4, []) := rfl
set_option maxRecDepth 20000 in
theorem at_93_7 : am_at 93 7 = some (.aload 4, 9, 4, []) := rfl
set_option maxRecDepth 20000 in
theorem at_93_9 : am_at 93 9 = some (.ifnull 16, 12, 25, []) := rfl
set_option maxRecDepth 20000 in
theorem at_93_12 : am_at 93 12 = some (.iload_n 2, 13, 2, []) := rfl
set_option maxRecDepth 20000 in
theorem at_93_13 : am_at 93 13 = some (.ifCond .lt 12, 16, 25, []) := rfl
set_option maxRecDepth 20000 in
theorem at_93_16 : am_at 93 16 = some (.iload_n 2, 17, 2, []) := rfl
set_option maxRecDepth 20000 in
theorem at_93_17 : am_at 93 17 = some (.aload 4, 19, 4, []) := rfl
set_option maxRecDepth 20000 in
theorem at_93_19 : am_at 93 19 = some (.getfield 97, 22, 0, [5, 0, 0, 263]) := rfl
set_option maxRecDepth 20000 in
theorem at_93_22 : am_at 93 22 = some (.if_icmp .lt 5, 25, 27, []) := rfl
set_option maxRecDepth 20000 in
theorem at_93_25 : am_at 93 25 = some (.iconst (-1), 26, 4294967295, []) := rfl
set_option maxRecDepth 20000 in
theorem at_93_26 : am_at 93 26 = some (.ireturn, 27, 0, [0]) := rfl
set_option maxRecDepth 20000 in
theorem at_93_27 : am_at 93 27 = some (.iload_n 3, 28, 3, []) := rfl
set_option maxRecDepth 20000 in
theorem at_93_28 : am_at 93 28 = some (.tableswitch 88 0 5 #[40, 48, 56, 64, 72, 80], 68, 116, [68, 76, 84, 92, 100, 108]) := rfl
set_option maxRecDepth 20000 in
theorem at_93_68 : am_at 93 68 = some (.aload 4, 70, 4, []) := rfl
set_option maxRecDepth 20000 in
theorem at_93_70 : am_at 93 70 = some (.getfield 189, 73, 0, [5, 2, 3, 269]) := rfl
set_option maxRecDepth 20000 in
theorem at_93_73 : am_at 93 73 = some (.iload_n 2, 74, 2, []) := rfl
set_option maxRecDepth 20000 in
theorem at_93_74 : am_at 93 74 = some (.iaload, 75, 0, []) := rfl
set_option maxRecDepth 20000 in
theorem at_93_75 : am_at 93 75 = some (.ireturn, 76, 0, [0]) := rfl
set_option maxRecDepth 20000 in
theorem at_93_76 : am_at 93 76 = some (.aload 4, 78, 4, []) := rfl
set_option maxRecDepth 20000 in
theorem at_93_78 : am_at 93 78 = some (.getfield 201, 81, 0, [5, 3, 3, 273]) := rfl
set_option maxRecDepth 20000 in
theorem at_93_81 : am_at 93 81 = some (.iload_n 2, 82, 2, []) := rfl
set_option maxRecDepth 20000 in
theorem at_93_82 : am_at 93 82 = some (.iaload, 83, 0, []) := rfl
set_option maxRecDepth 20000 in
theorem at_93_83 : am_at 93 83 = some (.ireturn, 84, 0, [0]) := rfl
set_option maxRecDepth 20000 in
theorem at_93_84 : am_at 93 84 = some (.aload 4, 86, 4, []) := rfl
set_option maxRecDepth 20000 in
theorem at_93_86 : am_at 93 86 = some (.getfield 204, 89, 0, [5, 4, 3, 276]) := rfl
set_option maxRecDepth 20000 in
theorem at_93_89 : am_at 93 89 = some (.iload_n 2, 90, 2, []) := rfl
set_option maxRecDepth 20000 in
theorem at_93_90 : am_at 93 90 = some (.iaload, 91, 0, []) := rfl
set_option maxRecDepth 20000 in
theorem at_93_91 : am_at 93 91 = some (.ireturn, 92, 0, [0]) := rfl
set_option maxRecDepth 20000 in
theorem at_93_92 : am_at 93 92 = some (.aload 4, 94, 4, []) := rfl
set_option maxRecDepth 20000 in
theorem at_93_94 : am_at 93 94 = some (.getfield 207, 97, 0, [5, 5, 3, 279]) := rfl
set_option maxRecDepth 20000 in
theorem at_93_97 : am_at 93 97 = some (.iload_n 2, 98, 2, []) := rfl
set_option maxRecDepth 20000 in
theorem at_93_98 : am_at 93 98 = some (.iaload, 99, 0, []) := rfl
set_option maxRecDepth 20000 in
theorem at_93_99 : am_at 93 99 = some (.ireturn, 100, 0, [0]) := rfl
set_option maxRecDepth 20000 in
theorem at_93_100 : am_at 93 100 = some (.aload 4, 102, 4, []) := rfl
set_option maxRecDepth 20000 in
theorem at_93_102 : am_at 93 102 = some (.getfield 210, 105, 0, [5, 6, 3, 282]) := rfl
set_option maxRecDepth 20000 in
theorem at_93_105 : am_at 93 105 = some (.iload_n 2, 106, 2, []) := rfl
set_option maxRecDepth 20000 in
theorem at_93_106 : am_at 93 106 = some (.iaload, 107, 0, []) := rfl
set_option maxRecDepth 20000 in
theorem at_93_107 : am_at 93 107 = some (.ireturn, 108, 0, [0]) := rfl
set_option maxRecDepth 20000 in
theorem at_93_108 : am_at 93 108 = some (.aload 4, 110, 4, []) := rfl
set_option maxRecDepth 20000 in
theorem at_93_110 : am_at 93 110 = some (.getfield 213, 113, 0, [5, 7, 3, 285]) := rfl
set_option maxRecDepth 20000 in
theorem at_93_113 : am_at 93 113 = some (.iload_n 2, 114, 2, []) := rfl
set_option maxRecDepth 20000 in
theorem at_93_114 : am_at 93 114 = some (.iaload, 115, 0, []) := rfl
set_option maxRecDepth 20000 in
theorem at_93_115 : am_at 93 115 = some (.ireturn, 116, 0, [0]) := rfl
set_option maxRecDepth 20000 in
theorem at_93_116 : am_at 93 116 = some (.iconst (-1), 117, 4294967295, []) := rfl
set_option maxRecDepth 20000 in
theorem at_93_117 : am_at 93 117 = some (.ireturn, 118, 0, [0]) := rfl
set_option maxRecDepth 20000 in
theorem at_94_0 : am_at 94 0 = some (.aload_n 0, 1, 0, []) := rfl
set_option maxRecDepth 20000 in
theorem at_94_1 : am_at 94 1 = some (.invokespecial 1, 4, 1000, [708, 70, 71]) := rfl
set_option maxRecDepth 20000 in
theorem at_94_4 : am_at 94 4 = some (.aload_n 0, 5, 0, []) := rfl
set_option maxRecDepth 20000 in
theorem at_94_5 : am_at 94 5 = some (.bipush 12, 7, 12, []) := rfl
set_option maxRecDepth 20000 in
theorem at_94_7 : am_at 94 7 = some (.newarray .int, 9, 901, [100]) := rfl
set_option maxRecDepth 20000 in
theorem at_94_9 : am_at 94 9 = some (.putfield 7, 12, 0, [8, 1, 3, 711]) := rfl
set_option maxRecDepth 20000 in
theorem at_94_12 : am_at 94 12 = some (.aload_n 0, 13, 0, []) := rfl
set_option maxRecDepth 20000 in
theorem at_94_13 : am_at 94 13 = some (.bipush 12, 15, 12, []) := rfl
set_option maxRecDepth 20000 in
theorem at_94_15 : am_at 94 15 = some (.newarray .long, 17, 902, [101]) := rfl
set_option maxRecDepth 20000 in
theorem at_94_17 : am_at 94 17 = some (.putfield 13, 20, 0, [8, 2, 3, 712]) := rfl
set_option maxRecDepth 20000 in
theorem at_94_20 : am_at 94 20 = some (.aload_n 0, 21, 0, []) := rfl
set_option maxRecDepth 20000 in
theorem at_94_21 : am_at 94 21 = some (.bipush 72, 23, 72, []) := rfl
set_option maxRecDepth 20000 in
theorem at_94_23 : am_at 94 23 = some (.newarray .int, 25, 903, [100]) := rfl
set_option maxRecDepth 20000 in
theorem at_94_25 : am_at 94 25 = some (.putfield 17, 28, 0, [8, 3, 3, 713]) := rfl
set_option maxRecDepth 20000 in
theorem at_94_28 : am_at 94 28 = some (.aload_n 0, 29, 0, []) := rfl
set_option maxRecDepth 20000 in
theorem at_94_29 : am_at 94 29 = some (.bipush 10, 31, 10, []) := rfl
set_option maxRecDepth 20000 in
theorem at_94_31 : am_at 94 31 = some (.newarray .int, 33, 905, [100]) := rfl
set_option maxRecDepth 20000 in
theorem at_94_33 : am_at 94 33 = some (.putfield 20, 36, 0, [8, 5, 3, 715]) := rfl
set_option maxRecDepth 20000 in
theorem at_94_36 : am_at 94 36 = some (.aload_n 0, 37, 0, []) := rfl
set_option maxRecDepth 20000 in
theorem at_94_37 : am_at 94 37 = some (.bipush 10, 39, 10, []) := rfl
set_option maxRecDepth 20000 in
theorem at_94_39 : am_at 94 39 = some (.newarray .int, 41, 906, [100]) := rfl
set_option maxRecDepth 20000 in
theorem at_94_41 : am_at 94 41 = some (.putfield 23, 44, 0, [8, 6, 3, 716]) := rfl
set_option maxRecDepth 20000 in
theorem at_94_44 : am_at 94 44 = some (.aload_n 0, 45, 0, []) := rfl
set_option maxRecDepth 20000 in
theorem at_94_45 : am_at 94 45 = some (.bipush 10, 47, 10, []) := rfl
set_option maxRecDepth 20000 in
theorem at_94_47 : am_at 94 47 = some (.newarray .int, 49, 907, [100]) := rfl
set_option maxRecDepth 20000 in
theorem at_94_49 : am_at 94 49 = some (.putfield 26, 52, 0, [8, 7, 3, 717]) := rfl
set_option maxRecDepth 20000 in
theorem at_94_52 : am_at 94 52 = some (.aload_n 0, 53, 0, []) := rfl
set_option maxRecDepth 20000 in
theorem at_94_53 : am_at 94 53 = some (.bipush 10, 55, 10, []) := rfl
set_option maxRecDepth 20000 in
theorem at_94_55 : am_at 94 55 = some (.newarray .int, 57, 908, [100]) := rfl
set_option maxRecDepth 20000 in
theorem at_94_57 : am_at 94 57 = some (.putfield 29, 60, 0, [8, 8, 3, 718]) := rfl
set_option maxRecDepth 20000 in
theorem at_94_60 : am_at 94 60 = some (.aload_n 0, 61, 0, []) := rfl
set_option maxRecDepth 20000 in
theorem at_94_61 : am_at 94 61 = some (.bipush 10, 63, 10, []) := rfl
set_option maxRecDepth 20000 in
theorem at_94_63 : am_at 94 63 = some (.newarray .int, 65, 909, [100]) := rfl
set_option maxRecDepth 20000 in
theorem at_94_65 : am_at 94 65 = some (.putfield 32, 68, 0, [8, 9, 3, 719]) := rfl
set_option maxRecDepth 20000 in
theorem at_94_68 : am_at 94 68 = some (.aload_n 0, 69, 0, []) := rfl
set_option maxRecDepth 20000 in
theorem at_94_69 : am_at 94 69 = some (.bipush 10, 71, 10, []) := rfl
set_option maxRecDepth 20000 in
theorem at_94_71 : am_at 94 71 = some (.newarray .int, 73, 910, [100]) := rfl
set_option maxRecDepth 20000 in
theorem at_94_73 : am_at 94 73 = some (.putfield 35, 76, 0, [8, 10, 3, 720]) := rfl
set_option maxRecDepth 20000 in
theorem at_94_76 : am_at 94 76 = some (.aload_n 0, 77, 0, []) := rfl
set_option maxRecDepth 20000 in
theorem at_94_77 : am_at 94 77 = some (.bipush 10, 79, 10, []) := rfl
set_option maxRecDepth 20000 in
theorem at_94_79 : am_at 94 79 = some (.newarray .int, 81, 911, [100]) := rfl
set_option maxRecDepth 20000 in
theorem at_94_81 : am_at 94 81 = some (.putfield 38, 84, 0, [8, 11, 3, 721]) := rfl
set_option maxRecDepth 20000 in
theorem at_94_84 : am_at 94 84 = some (.aload_n 0, 85, 0, []) := rfl
set_option maxRecDepth 20000 in
theorem at_94_85 : am_at 94 85 = some (.bipush 10, 87, 10, []) := rfl
set_option maxRecDepth 20000 in
theorem at_94_87 : am_at 94 87 = some (.newarray .int, 89, 912, [100]) := rfl
set_option maxRecDepth 20000 in
theorem at_94_89 : am_at 94 89 = some (.putfield 41, 92, 0, [8, 12, 3, 722]) := rfl
set_option maxRecDepth 20000 in
theorem at_94_92 : am_at 94 92 = some (.aload_n 0, 93, 0, []) := rfl
set_option maxRecDepth 20000 in
theorem at_94_93 : am_at 94 93 = some (.bipush 10, 95, 10, []) := rfl
set_option maxRecDepth 20000 in
theorem at_94_95 : am_at 94 95 = some (.newarray .int, 97, 913, [100]) := rfl
set_option maxRecDepth 20000 in
theorem at_94_97 : am_at 94 97 = some (.putfield 44, 100, 0, [8, 13, 3, 723]) := rfl
set_option maxRecDepth 20000 in
theorem at_94_100 : am_at 94 100 = some (.aload_n 0, 101, 0, []) := rfl
set_option maxRecDepth 20000 in
theorem at_94_101 : am_at 94 101 = some (.bipush 9, 103, 9, []) := rfl
set_option maxRecDepth 20000 in
theorem at_94_103 : am_at 94 103 = some (.newarray .int, 105, 917, [100]) := rfl
set_option maxRecDepth 20000 in
theorem at_94_105 : am_at 94 105 = some (.putfield 47, 108, 0, [8, 17, 3, 727]) := rfl
set_option maxRecDepth 20000 in
theorem at_94_108 : am_at 94 108 = some (.aload_n 0, 109, 0, []) := rfl
set_option maxRecDepth 20000 in
theorem at_94_109 : am_at 94 109 = some (.sipush 270, 112, 270, []) := rfl
set_option maxRecDepth 20000 in
theorem at_94_112 : am_at 94 112 = some (.newarray .int, 114, 918, [100]) := rfl
set_option maxRecDepth 20000 in
theorem at_94_114 : am_at 94 114 = some (.putfield 50, 117, 0, [8, 18, 3, 728]) := rfl
set_option maxRecDepth 20000 in
theorem at_94_117 : am_at 94 117 = some (.aload_n 0, 118, 0, []) := rfl
set_option maxRecDepth 20000 in
theorem at_94_118 : am_at 94 118 = some (.sipush 270, 121, 270, []) := rfl
set_option maxRecDepth 20000 in
theorem at_94_121 : am_at 94 121 = some (.newarray .int, 123, 919, [100]) := rfl
set_option maxRecDepth 20000 in
theorem at_94_123 : am_at 94 123 = some (.putfield 53, 126, 0, [8, 19, 3, 729]) := rfl
set_option maxRecDepth 20000 in
theorem at_94_126 : am_at 94 126 = some (.aload_n 0, 127, 0, []) := rfl
set_option maxRecDepth 20000 in
theorem at_94_127 : am_at 94 127 = some (.sipush 270, 130, 270, []) := rfl
set_option maxRecDepth 20000 in
theorem at_94_130 : am_at 94 130 = some (.newarray .int, 132, 920, [100]) := rfl
set_option maxRecDepth 20000 in
theorem at_94_132 : am_at 94 132 = some (.putfield 56, 135, 0, [8, 20, 3, 730]) := rfl
set_option maxRecDepth 20000 in
theorem at_94_135 : am_at 94 135 = some (.aload_n 0, 136, 0, []) := rfl
set_option maxRecDepth 20000 in
theorem at_94_136 : am_at 94 136 = some (.sipush 270, 139, 270, []) := rfl
set_option maxRecDepth 20000 in
theorem at_94_139 : am_at 94 139 = some (.newarray .int, 141, 921, [100]) := rfl
set_option maxRecDepth 20000 in
theorem at_94_141 : am_at 94 141 = some (.putfield 59, 144, 0, [8, 21, 3, 731]) := rfl
set_option maxRecDepth 20000 in
theorem at_94_144 : am_at 94 144 = some (.aload_n 0, 145, 0, []) := rfl
set_option maxRecDepth 20000 in
theorem at_94_145 : am_at 94 145 = some (.sipush 270, 148, 270, []) := rfl
set_option maxRecDepth 20000 in
theorem at_94_148 : am_at 94 148 = some (.newarray .int, 150, 922, [100]) := rfl
set_option maxRecDepth 20000 in
theorem at_94_150 : am_at 94 150 = some (.putfield 62, 153, 0, [8, 22, 3, 732]) := rfl
set_option maxRecDepth 20000 in
theorem at_94_153 : am_at 94 153 = some (.aload_n 0, 154, 0, []) := rfl
set_option maxRecDepth 20000 in
theorem at_94_154 : am_at 94 154 = some (.sipush 270, 157, 270, []) := rfl
set_option maxRecDepth 20000 in
theorem at_94_157 : am_at 94 157 = some (.newarray .int, 159, 923, [100]) := rfl
set_option maxRecDepth 20000 in
theorem at_94_159 : am_at 94 159 = some (.putfield 65, 162, 0, [8, 23, 3, 733]) := rfl
set_option maxRecDepth 20000 in
theorem at_94_162 : am_at 94 162 = some (.aload_n 0, 163, 0, []) := rfl
set_option maxRecDepth 20000 in
theorem at_94_163 : am_at 94 163 = some (.sipush 270, 166, 270, []) := rfl
set_option maxRecDepth 20000 in
theorem at_94_166 : am_at 94 166 = some (.newarray .int, 168, 924, [100]) := rfl
set_option maxRecDepth 20000 in
theorem at_94_168 : am_at 94 168 = some (.putfield 68, 171, 0, [8, 24, 3, 734]) := rfl
set_option maxRecDepth 20000 in
theorem at_94_171 : am_at 94 171 = some (.aload_n 0, 172, 0, []) := rfl
set_option maxRecDepth 20000 in
theorem at_94_172 : am_at 94 172 = some (.bipush 6, 174, 6, []) := rfl
set_option maxRecDepth 20000 in
theorem at_94_174 : am_at 94 174 = some (.newarray .int, 176, 926, [100]) := rfl
set_option maxRecDepth 20000 in
theorem at_94_176 : am_at 94 176 = some (.putfield 71, 179, 0, [8, 26, 3, 736]) := rfl
set_option maxRecDepth 20000 in
theorem at_94_179 : am_at 94 179 = some (.aload_n 0, 180, 0, []) := rfl
set_option maxRecDepth 20000 in
theorem at_94_180 : am_at 94 180 = some (.bipush 48, 182, 48, []) := rfl
set_option maxRecDepth 20000 in
theorem at_94_182 : am_at 94 182 = some (.newarray .int, 184, 927, [100]) := rfl
set_option maxRecDepth 20000 in
theorem at_94_184 : am_at 94 184 = some (.putfield 74, 187, 0, [8, 27, 3, 737]) := rfl
set_option maxRecDepth 20000 in
theorem at_94_187 : am_at 94 187 = some (.aload_n 0, 188, 0, []) := rfl
set_option maxRecDepth 20000 in
theorem at_94_188 : am_at 94 188 = some (.sipush 180, 191, 180, []) := rfl
set_option maxRecDepth 20000 in
theorem at_94_191 : am_at 94 191 = some (.newarray .int, 193, 928, [100]) := rfl
set_option maxRecDepth 20000 in
theorem at_94_193 : am_at 94 193 = some (.putfield 77, 196, 0, [8, 28, 3, 738]) := rfl
set_option maxRecDepth 20000 in
theorem at_94_196 : am_at 94 196 = some (.aload_n 0, 197, 0, []) := rfl
set_option maxRecDepth 20000 in
theorem at_94_197 : am_at 94 197 = some (.sipush 180, 200, 180, []) := rfl
set_option maxRecDepth 20000 in
theorem at_94_200 : am_at 94 200 = some (.newarray .int, 202, 929, [100]) := rfl
set_option maxRecDepth 20000 in
theorem at_94_202 : am_at 94 202 = some (.putfield 80, 205, 0, [8, 29, 3, 739]) := rfl
set_option maxRecDepth 20000 in
theorem at_94_205 : am_at 94 205 = some (.aload_n 0, 206, 0, []) := rfl
set_option maxRecDepth 20000 in
theorem at_94_206 : am_at 94 206 = some (.sipush 180, 209, 180, []) := rfl
set_option maxRecDepth 20000 in
theorem at_94_209 : am_at 94 209 = some (.newarray .boolean, 211, 930, [185]) := rfl
set_option maxRecDepth 20000 in
theorem at_94_211 : am_at 94 211 = some (.putfield 83, 214, 0, [8, 30, 3, 740]) := rfl
set_option maxRecDepth 20000 in
theorem at_94_214 : am_at 94 214 = some (.aload_n 0, 215, 0, []) := rfl
set_option maxRecDepth 20000 in
theorem at_94_215 : am_at 94 215 = some (.sipush 180, 218, 180, []) := rfl
set_option maxRecDepth 20000 in
theorem at_94_218 : am_at 94 218 = some (.newarray .int, 220, 931, [100]) := rfl
set_option maxRecDepth 20000 in
theorem at_94_220 : am_at 94 220 = some (.putfield 87, 223, 0, [8, 31, 3, 741]) := rfl
set_option maxRecDepth 20000 in
theorem at_94_223 : am_at 94 223 = some (.aload_n 0, 224, 0, []) := rfl
set_option maxRecDepth 20000 in
theorem at_94_224 : am_at 94 224 = some (.sipush 180, 227, 180, []) := rfl
set_option maxRecDepth 20000 in
theorem at_94_227 : am_at 94 227 = some (.newarray .int, 229, 932, [100]) := rfl
set_option maxRecDepth 20000 in
theorem at_94_229 : am_at 94 229 = some (.putfield 90, 232, 0, [8, 32, 3, 742]) := rfl
set_option maxRecDepth 20000 in
theorem at_94_232 : am_at 94 232 = some (.aload_n 0, 233, 0, []) := rfl
set_option maxRecDepth 20000 in
theorem at_94_233 : am_at 94 233 = some (.sipush 180, 236, 180, []) := rfl
set_option maxRecDepth 20000 in
theorem at_94_236 : am_at 94 236 = some (.newarray .int, 238, 933, [100]) := rfl
set_option maxRecDepth 20000 in
theorem at_94_238 : am_at 94 238 = some (.putfield 93, 241, 0, [8, 33, 3, 743]) := rfl
set_option maxRecDepth 20000 in
theorem at_94_241 : am_at 94 241 = some (.aload_n 0, 242, 0, []) := rfl
set_option maxRecDepth 20000 in
theorem at_94_242 : am_at 94 242 = some (.sipush 2160, 245, 2160, []) := rfl
set_option maxRecDepth 20000 in
theorem at_94_245 : am_at 94 245 = some (.newarray .int, 247, 934, [100]) := rfl
set_option maxRecDepth 20000 in
theorem at_94_247 : am_at 94 247 = some (.putfield 96, 250, 0, [8, 34, 3, 744]) := rfl
set_option maxRecDepth 20000 in
theorem at_94_250 : am_at 94 250 = some (.aload_n 0, 251, 0, []) := rfl
set_option maxRecDepth 20000 in
theorem at_94_251 : am_at 94 251 = some (.sipush 180, 254, 180, []) := rfl
set_option maxRecDepth 20000 in
theorem at_94_254 : am_at 94 254 = some (.newarray .int, 256, 935, [100]) := rfl
set_option maxRecDepth 20000 in
theorem at_94_256 : am_at 94 256 = some (.putfield 99, 259, 0, [8, 35, 3, 745]) := rfl
set_option maxRecDepth 20000 in
theorem at_94_259 : am_at 94 259 = some (.aload_n 0, 260, 0, []) := rfl
set_option maxRecDepth 20000 in
theorem at_94_260 : am_at 94 260 = some (.ldc 102, 262, 798720, [709]) := rfl
set_option maxRecDepth 20000 in
theorem at_94_262 : am_at 94 262 = some (.newarray .int, 264, 936, [100]) := rfl
set_option maxRecDepth 20000 in
theorem at_94_264 : am_at 94 264 = some (.putfield 103, 267, 0, [8, 36, 3, 746]) := rfl
set_option maxRecDepth 20000 in
theorem at_94_267 : am_at 94 267 = some (.aload_n 0, 268, 0, []) := rfl
set_option maxRecDepth 20000 in
theorem at_94_268 : am_at 94 268 = some (.sipush 240, 271, 240, []) := rfl
set_option maxRecDepth 20000 in
theorem at_94_271 : am_at 94 271 = some (.newarray .boolean, 273, 937, [185]) := rfl
set_option maxRecDepth 20000 in
theorem at_94_273 : am_at 94 273 = some (.putfield 106, 276, 0, [8, 37, 3, 747]) := rfl
set_option maxRecDepth 20000 in
theorem at_94_276 : am_at 94 276 = some (.aload_n 0, 277, 0, []) := rfl
set_option maxRecDepth 20000 in
theorem at_94_277 : am_at 94 277 = some (.bipush 40, 279, 40, []) := rfl
set_option maxRecDepth 20000 in
theorem at_94_279 : am_at 94 279 = some (.newarray .int, 281, 940, [100]) := rfl
set_option maxRecDepth 20000 in
theorem at_94_281 : am_at 94 281 = some (.putfield 109, 284, 0, [8, 40, 3, 750]) := rfl
set_option maxRecDepth 20000 in
theorem at_94_284 : am_at 94 284 = some (.aload_n 0, 285, 0, []) := rfl
set_option maxRecDepth 20000 in
theorem at_94_285 : am_at 94 285 = some (.bipush 40, 287, 40, []) := rfl
set_option maxRecDepth 20000 in
theorem at_94_287 : am_at 94 287 = some (.newarray .int, 289, 941, [100]) := rfl
set_option maxRecDepth 20000 in
theorem at_94_289 : am_at 94 289 = some (.putfield 112, 292, 0, [8, 41, 3, 751]) := rfl
set_option maxRecDepth 20000 in
theorem at_94_292 : am_at 94 292 = some (.aload_n 0, 293, 0, []) := rfl
set_option maxRecDepth 20000 in
theorem at_94_293 : am_at 94 293 = some (.bipush 30, 295, 30, []) := rfl
set_option maxRecDepth 20000 in
theorem at_94_295 : am_at 94 295 = some (.newarray .boolean, 297, 942, [185]) := rfl
set_option maxRecDepth 20000 in
theorem at_94_297 : am_at 94 297 = some (.putfield 115, 300, 0, [8, 42, 3, 752]) := rfl
set_option maxRecDepth 20000 in
theorem at_94_300 : am_at 94 300 = some (.aload_n 0, 301, 0, []) := rfl
set_option maxRecDepth 20000 in
theorem at_94_301 : am_at 94 301 = some (.bipush 31, 303, 31, []) := rfl
set_option maxRecDepth 20000 in
theorem at_94_303 : am_at 94 303 = some (.newarray .int, 305, 944, [100]) := rfl
set_option maxRecDepth 20000 in
theorem at_94_305 : am_at 94 305 = some (.putfield 118, 308, 0, [8, 44, 3, 754]) := rfl
set_option maxRecDepth 20000 in
theorem at_94_308 : am_at 94 308 = some (.aload_n 0, 309, 0, []) := rfl
set_option maxRecDepth 20000 in
theorem at_94_309 : am_at 94 309 = some (.bipush 31, 311, 31, []) := rfl
set_option maxRecDepth 20000 in
theorem at_94_311 : am_at 94 311 = some (.newarray .int, 313, 945, [100]) := rfl
set_option maxRecDepth 20000 in
theorem at_94_313 : am_at 94 313 = some (.putfield 121, 316, 0, [8, 45, 3, 755]) := rfl
set_option maxRecDepth 20000 in
theorem at_94_316 : am_at 94 316 = some (.aload_n 0, 317, 0, []) := rfl
set_option maxRecDepth 20000 in
theorem at_94_317 : am_at 94 317 = some (.bipush 31, 319, 31, []) := rfl
set_option maxRecDepth 20000 in
theorem at_94_319 : am_at 94 319 = some (.newarray .int, 321, 946, [100]) := rfl
set_option maxRecDepth 20000 in
theorem at_94_321 : am_at 94 321 = some (.putfield 124, 324, 0, [8, 46, 3, 756]) := rfl
set_option maxRecDepth 20000 in
theorem at_94_324 : am_at 94 324 = some (.aload_n 0, 325, 0, []) := rfl
set_option maxRecDepth 20000 in
theorem at_94_325 : am_at 94 325 = some (.bipush 31, 327, 31, []) := rfl
set_option maxRecDepth 20000 in
theorem at_94_327 : am_at 94 327 = some (.newarray .int, 329, 947, [100]) := rfl
set_option maxRecDepth 20000 in
theorem at_94_329 : am_at 94 329 = some (.putfield 127, 332, 0, [8, 47, 3, 757]) := rfl
set_option maxRecDepth 20000 in
theorem at_94_332 : am_at 94 332 = some (.aload_n 0, 333, 0, []) := rfl
set_option maxRecDepth 20000 in
theorem at_94_333 : am_at 94 333 = some (.bipush 31, 335, 31, []) := rfl
set_option maxRecDepth 20000 in
theorem at_94_335 : am_at 94 335 = some (.newarray .int, 337, 948, [100]) := rfl
set_option maxRecDepth 20000 in
theorem at_94_337 : am_at 94 337 = some (.putfield 130, 340, 0, [8, 48, 3, 758]) := rfl
set_option maxRecDepth 20000 in
theorem at_94_340 : am_at 94 340 = some (.return_, 341, 0, []) := rfl
set_option maxRecDepth 20000 in
theorem at_95_0 : am_at 95 0 = some (.iload_n 1, 1, 1, []) := rfl
set_option maxRecDepth 20000 in
theorem at_95_1 : am_at 95 1 = some (.i2l, 2, 0, []) := rfl
set_option maxRecDepth 20000 in
theorem at_95_2 : am_at 95 2 = some (.lconst 1, 3, 1, []) := rfl
set_option maxRecDepth 20000 in
theorem at_95_3 : am_at 95 3 = some (.ldc2_w 133, 6, 20, [871]) := rfl
set_option maxRecDepth 20000 in
theorem at_95_6 : am_at 95 6 = some (.invokestatic 135, 9, 96, [0, 3, 872, 873, 60]) := rfl
set_option maxRecDepth 20000 in
theorem at_95_9 : am_at 95 9 = some (.ifCond .eq 15, 12, 24, []) := rfl
set_option maxRecDepth 20000 in
theorem at_95_12 : am_at 95 12 = some (.iload_n 2, 13, 2, []) := rfl
set_option maxRecDepth 20000 in
theorem at_95_13 : am_at 95 13 = some (.i2l, 14, 0, []) := rfl
set_option maxRecDepth 20000 in
theorem at_95_14 : am_at 95 14 = some (.lconst 0, 15, 0, []) := rfl
set_option maxRecDepth 20000 in
theorem at_95_15 : am_at 95 15 = some (.ldc2_w 139, 18, 100, [875]) := rfl
set_option maxRecDepth 20000 in
theorem at_95_18 : am_at 95 18 = some (.invokestatic 135, 21, 96, [0, 3, 872, 873, 60]) := rfl
set_option maxRecDepth 20000 in
theorem at_95_21 : am_at 95 21 = some (.ifCond .ne 5, 24, 26, []) := rfl
set_option maxRecDepth 20000 in
theorem at_95_24 : am_at 95 24 = some (.iconst (-1), 25, 4294967295, []) := rfl
set_option maxRecDepth 20000 in
theorem at_95_25 : am_at 95 25 = some (.ireturn, 26, 0, [0]) := rfl
set_option maxRecDepth 20000 in
theorem at_95_26 : am_at 95 26 = some (.aload_n 0, 27, 0, []) := rfl
set_option maxRecDepth 20000 in
theorem at_95_27 : am_at 95 27 = some (.getfield 141, 30, 0, [8, 4, 0, 714]) := rfl
set_option maxRecDepth 20000 in
theorem at_95_30 : am_at 95 30 = some (.bipush 10, 32, 10, []) := rfl
set_option maxRecDepth 20000 in
theorem at_95_32 : am_at 95 32 = some (.if_icmp .ne 6, 35, 38, []) := rfl
set_option maxRecDepth 20000 in
theorem at_95_35 : am_at 95 35 = some (.bipush (-3), 37, 4294967293, []) := rfl
set_option maxRecDepth 20000 in
theorem at_95_37 : am_at 95 37 = some (.ireturn, 38, 0, [0]) := rfl
set_option maxRecDepth 20000 in
theorem at_95_38 : am_at 95 38 = some (.aload_n 0, 39, 0, []) := rfl
set_option maxRecDepth 20000 in
theorem at_95_39 : am_at 95 39 = some (.getfield 20, 42, 0, [8, 5, 3, 715]) := rfl
set_option maxRecDepth 20000 in
theorem at_95_42 : am_at 95 42 = some (.aload_n 0, 43, 0, []) := rfl
set_option maxRecDepth 20000 in
theorem at_95_43 : am_at 95 43 = some (.getfield 141, 46, 0, [8, 4, 0, 714]) := rfl
set_option maxRecDepth 20000 in
theorem at_95_46 : am_at 95 46 = some (.iload_n 1, 47, 1, []) := rfl
set_option maxRecDepth 20000 in
theorem at_95_47 : am_at 95 47 = some (.iastore, 48, 0, []) := rfl
set_option maxRecDepth 20000 in
theorem at_95_48 : am_at 95 48 = some (.aload_n 0, 49, 0, []) := rfl
set_option maxRecDepth 20000 in
theorem at_95_49 : am_at 95 49 = some (.getfield 23, 52, 0, [8, 6, 3, 716]) := rfl
set_option maxRecDepth 20000 in
theorem at_95_52 : am_at 95 52 = some (.aload_n 0, 53, 0, []) := rfl
set_option maxRecDepth 20000 in
theorem at_95_53 : am_at 95 53 = some (.getfield 141, 56, 0, [8, 4, 0, 714]) := rfl
set_option maxRecDepth 20000 in
theorem at_95_56 : am_at 95 56 = some (.iload_n 2, 57, 2, []) := rfl
set_option maxRecDepth 20000 in
theorem at_95_57 : am_at 95 57 = some (.iastore, 58, 0, []) := rfl
set_option maxRecDepth 20000 in
theorem at_95_58 : am_at 95 58 = some (.aload_n 0, 59, 0, []) := rfl
set_option maxRecDepth 20000 in
theorem at_95_59 : am_at 95 59 = some (.getfield 38, 62, 0, [8, 11, 3, 721]) := rfl
set_option maxRecDepth 20000 in
theorem at_95_62 : am_at 95 62 = some (.aload_n 0, 63, 0, []) := rfl
set_option maxRecDepth 20000 in
theorem at_95_63 : am_at 95 63 = some (.getfield 141, 66, 0, [8, 4, 0, 714]) := rfl
set_option maxRecDepth 20000 in
theorem at_95_66 : am_at 95 66 = some (.bipush (-4), 68, 4294967292, []) := rfl
set_option maxRecDepth 20000 in
theorem at_95_68 : am_at 95 68 = some (.iastore, 69, 0, []) := rfl
set_option maxRecDepth 20000 in
theorem at_95_69 : am_at 95 69 = some (.aload_n 0, 70, 0, []) := rfl
set_option maxRecDepth 20000 in
theorem at_95_70 : am_at 95 70 = some (.dup, 71, 0, []) := rfl
set_option maxRecDepth 20000 in
theorem at_95_71 : am_at 95 71 = some (.getfield 141, 74, 0, [8, 4, 0, 714]) := rfl
set_option maxRecDepth 20000 in
theorem at_95_74 : am_at 95 74 = some (.iconst 1, 75, 1, []) := rfl
set_option maxRecDepth 20000 in
theorem at_95_75 : am_at 95 75 = some (.iadd, 76, 0, []) := rfl
set_option maxRecDepth 20000 in
theorem at_95_76 : am_at 95 76 = some (.putfield 141, 79, 0, [8, 4, 0, 714]) := rfl
set_option maxRecDepth 20000 in
theorem at_95_79 : am_at 95 79 = some (.aload_n 0, 80, 0, []) := rfl
set_option maxRecDepth 20000 in
theorem at_95_80 : am_at 95 80 = some (.invokevirtual 145, 83, 97, [0, 0, 8, 876, 878, 27, 60]) := rfl
set_option maxRecDepth 20000 in
theorem at_95_83 : am_at 95 83 = some (.aload_n 0, 84, 0, []) := rfl
set_option maxRecDepth 20000 in
theorem at_95_84 : am_at 95 84 = some (.getfield 141, 87, 0, [8, 4, 0, 714]) := rfl
set_option maxRecDepth 20000 in
theorem at_95_87 : am_at 95 87 = some (.iconst 1, 88, 1, []) := rfl
set_option maxRecDepth 20000 in
theorem at_95_88 : am_at 95 88 = some (.isub, 89, 0, []) := rfl
set_option maxRecDepth 20000 in
theorem at_95_89 : am_at 95 89 = some (.ireturn, 90, 0, [0]) := rfl
set_option maxRecDepth 20000 in
theorem at_96_0 : am_at 96 0 = some (.lload_n 0, 1, 0, []) := rfl
set_option maxRecDepth 20000 in
theorem at_96_1 : am_at 96 1 = some (.lload_n 2, 2, 2, []) := rfl
set_option maxRecDepth 20000 in
theorem at_96_2 : am_at 96 2 = some (.lcmp, 3, 0, []) := rfl
set_option maxRecDepth 20000 in
theorem at_96_3 : am_at 96 3 = some (.ifCond .lt 14, 6, 17, []) := rfl
set_option maxRecDepth 20000 in
theorem at_96_6 : am_at 96 6 = some (.lload_n 0, 7, 0, []) := rfl
set_option maxRecDepth 20000 in
theorem at_96_7 : am_at 96 7 = some (.lload 4, 9, 4, []) := rfl
set_option maxRecDepth 20000 in
theorem at_96_9 : am_at 96 9 = some (.lcmp, 10, 0, []) := rfl
set_option maxRecDepth 20000 in
theorem at_96_10 : am_at 96 10 = some (.ifCond .gt 7, 13, 17, []) := rfl
set_option maxRecDepth 20000 in
theorem at_96_13 : am_at 96 13 = some (.iconst 1, 14, 1, []) := rfl
set_option maxRecDepth 20000 in
theorem at_96_14 : am_at 96 14 = some (.goto 4, 17, 18, []) := rfl
set_option maxRecDepth 20000 in
theorem at_96_17 : am_at 96 17 = some (.iconst 0, 18, 0, []) := rfl
set_option maxRecDepth 20000 in
theorem at_96_18 : am_at 96 18 = some (.ireturn, 19, 0, [1]) := rfl
set_option maxRecDepth 20000 in
theorem at_97_0 : am_at 97 0 = some (.iconst 0, 1, 0, []) := rfl
set_option maxRecDepth 20000 in
theorem at_97_1 : am_at 97 1 = some (.istore_n 1, 2, 1, []) := rfl
set_option maxRecDepth 20000 in
theorem at_97_2 : am_at 97 2 = some (.iload_n 1, 3, 1, []) := rfl
set_option maxRecDepth 20000 in
theorem at_97_3 : am_at 97 3 = some (.sipush 240, 6, 240, []) := rfl
set_option maxRecDepth 20000 in
theorem at_97_6 : am_at 97 6 = some (.if_icmp .ge 16, 9, 22, []) := rfl
set_option maxRecDepth 20000 in
theorem at_97_9 : am_at 97 9 = some (.aload_n 0, 10, 0, []) := rfl
set_option maxRecDepth 20000 in
theorem at_97_10 : am_at 97 10 = some (.getfield 106, 13, 0, [8, 37, 3, 747]) := rfl
set_option maxRecDepth 20000 in
theorem at_97_13 : am_at 97 13 = some (.iload_n 1, 14, 1, []) := rfl
set_option maxRecDepth 20000 in
theorem at_97_14 : am_at 97 14 = some (.iconst 0, 15, 0, []) := rfl
set_option maxRecDepth 20000 in
theorem at_97_15 : am_at 97 15 = some (.bastore, 16, 0, []) := rfl
set_option maxRecDepth 20000 in
theorem at_97_16 : am_at 97 16 = some (.iinc 1 1, 19, 1, []) := rfl
set_option maxRecDepth 20000 in
theorem at_97_19 : am_at 97 19 = some (.goto (-17), 22, 2, []) := rfl
set_option maxRecDepth 20000 in
theorem at_97_22 : am_at 97 22 = some (.return_, 23, 0, []) := rfl
set_option maxRecDepth 20000 in
theorem at_98_0 : am_at 98 0 = some (.aload_n 0, 1, 0, []) := rfl
set_option maxRecDepth 20000 in
theorem at_98_1 : am_at 98 1 = some (.iload_n 1, 2, 1, []) := rfl
set_option maxRecDepth 20000 in
theorem at_98_2 : am_at 98 2 = some (.invokevirtual 151, 5, 99, [0, 1, 8, 884, 886, 28, 60]) := rfl
set_option maxRecDepth 20000 in
theorem at_98_5 : am_at 98 5 = some (.ifCond .eq 28, 8, 33, []) := rfl
set_option maxRecDepth 20000 in
theorem at_98_8 : am_at 98 8 = some (.iload_n 3, 9, 3, []) := rfl
set_option maxRecDepth 20000 in
theorem at_98_9 : am_at 98 9 = some (.i2l, 10, 0, []) := rfl
set_option maxRecDepth 20000 in
theorem at_98_10 : am_at 98 10 = some (.lconst 0, 11, 0, []) := rfl
set_option maxRecDepth 20000 in
theorem at_98_11 : am_at 98 11 = some (.ldc2_w 155, 14, 255, [888]) := rfl
set_option maxRecDepth 20000 in
theorem at_98_14 : am_at 98 14 = some (.invokestatic 135, 17, 96, [0, 3, 872, 873, 60]) := rfl
set_option maxRecDepth 20000 in
theorem at_98_17 : am_at 98 17 = some (.ifCond .eq 16, 20, 33, []) := rfl
set_option maxRecDepth 20000 in
theorem at_98_20 : am_at 98 20 = some (.iload 4, 22, 4, []) := rfl
set_option maxRecDepth 20000 in
theorem at_98_22 : am_at 98 22 = some (.i2l, 23, 0, []) := rfl
set_option maxRecDepth 20000 in
theorem at_98_23 : am_at 98 23 = some (.lconst 0, 24, 0, []) := rfl
set_option maxRecDepth 20000 in
theorem at_98_24 : am_at 98 24 = some (.ldc2_w 155, 27, 255, [888]) := rfl
set_option maxRecDepth 20000 in
theorem at_98_27 : am_at 98 27 = some (.invokestatic 135, 30, 96, [0, 3, 872, 873, 60]) := rfl
set_option maxRecDepth 20000 in
theorem at_98_30 : am_at 98 30 = some (.ifCond .ne 5, 33, 35, []) := rfl
set_option maxRecDepth 20000 in
theorem at_98_33 : am_at 98 33 = some (.iconst (-1), 34, 4294967295, []) := rfl
set_option maxRecDepth 20000 in
theorem at_98_34 : am_at 98 34 = some (.ireturn, 35, 0, [0]) := rfl
set_option maxRecDepth 20000 in
theorem at_98_35 : am_at 98 35 = some (.aload_n 0, 36, 0, []) := rfl
set_option maxRecDepth 20000 in
theorem at_98_36 : am_at 98 36 = some (.invokevirtual 157, 39, 100, [0, 0, 8, 889, 891, 29, 60]) := rfl
set_option maxRecDepth 20000 in
theorem at_98_39 : am_at 98 39 = some (.ifCond .eq 6, 42, 45, []) := rfl
set_option maxRecDepth 20000 in
theorem at_98_42 : am_at 98 42 = some (.bipush (-2), 44, 4294967294, []) := rfl
set_option maxRecDepth 20000 in
theorem at_98_44 : am_at 98 44 = some (.ireturn, 45, 0, [0]) := rfl
set_option maxRecDepth 20000 in
theorem at_98_45 : am_at 98 45 = some (.aload_n 0, 46, 0, []) := rfl
set_option maxRecDepth 20000 in
theorem at_98_46 : am_at 98 46 = some (.invokevirtual 145, 49, 97, [0, 0, 8, 876, 878, 27, 60]) := rfl
set_option maxRecDepth 20000 in
theorem at_98_49 : am_at 98 49 = some (.iload_n 2, 50, 2, []) := rfl
set_option maxRecDepth 20000 in
theorem at_98_50 : am_at 98 50 = some (.ifCond .eq 21, 53, 71, []) := rfl
set_option maxRecDepth 20000 in
theorem at_98_53 : am_at 98 53 = some (.aload_n 0, 54, 0, []) := rfl
set_option maxRecDepth 20000 in
theorem at_98_54 : am_at 98 54 = some (.getfield 32, 57, 0, [8, 9, 3, 719]) := rfl
set_option maxRecDepth 20000 in
theorem at_98_57 : am_at 98 57 = some (.iload_n 1, 58, 1, []) := rfl
set_option maxRecDepth 20000 in
theorem at_98_58 : am_at 98 58 = some (.iload_n 3, 59, 3, []) := rfl
set_option maxRecDepth 20000 in
theorem at_98_59 : am_at 98 59 = some (.iastore, 60, 0, []) := rfl
set_option maxRecDepth 20000 in
theorem at_98_60 : am_at 98 60 = some (.aload_n 0, 61, 0, []) := rfl
set_option maxRecDepth 20000 in
theorem at_98_61 : am_at 98 61 = some (.getfield 35, 64, 0, [8, 10, 3, 720]) := rfl
set_option maxRecDepth 20000 in
theorem at_98_64 : am_at 98 64 = some (.iload_n 1, 65, 1, []) := rfl
set_option maxRecDepth 20000 in
theorem at_98_65 : am_at 98 65 = some (.iload 4, 67, 4, []) := rfl
set_option maxRecDepth 20000 in
theorem at_98_67 : am_at 98 67 = some (.iastore, 68, 0, []) := rfl
set_option maxRecDepth 20000 in
theorem at_98_68 : am_at 98 68 = some (.goto 18, 71, 86, []) := rfl
set_option maxRecDepth 20000 in
theorem at_98_71 : am_at 98 71 = some (.aload_n 0, 72, 0, []) := rfl
set_option maxRecDepth 20000 in
theorem at_98_72 : am_at 98 72 = some (.getfield 26, 75, 0, [8, 7, 3, 717]) := rfl
set_option maxRecDepth 20000 in
theorem at_98_75 : am_at 98 75 = some (.iload_n 1, 76, 1, []) := rfl
set_option maxRecDepth 20000 in
theorem at_98_76 : am_at 98 76 = some (.iload_n 3, 77, 3, []) := rfl
set_option maxRecDepth 20000 in
theorem at_98_77 : am_at 98 77 = some (.iastore, 78, 0, []) := rfl
set_option maxRecDepth 20000 in
theorem at_98_78 : am_at 98 78 = some (.aload_n 0, 79, 0, []) := rfl
set_option maxRecDepth 20000 in
theorem at_98_79 : am_at 98 79 = some (.getfield 29, 82, 0, [8, 8, 3, 718]) := rfl
set_option maxRecDepth 20000 in
theorem at_98_82 : am_at 98 82 = some (.iload_n 1, 83, 1, []) := rfl
set_option maxRecDepth 20000 in
theorem at_98_83 : am_at 98 83 = some (.iload 4, 85, 4, []) := rfl
set_option maxRecDepth 20000 in
theorem at_98_85 : am_at 98 85 = some (.iastore, 86, 0, []) := rfl
set_option maxRecDepth 20000 in
theorem at_98_86 : am_at 98 86 = some (.iconst 1, 87, 1, []) := rfl
set_option maxRecDepth 20000 in
theorem at_98_87 : am_at 98 87 = some (.ireturn, 88, 0, [0]) := rfl
set_option maxRecDepth 20000 in
theorem at_99_0 : am_at 99 0 = some (.iload_n 1, 1, 1, []) := rfl
set_option maxRecDepth 20000 in
theorem at_99_1 : am_at 99 1 = some (.i2l, 2, 0, []) := rfl
set_option maxRecDepth 20000 in
theorem at_99_2 : am_at 99 2 = some (.lconst 0, 3, 0, []) := rfl
set_option maxRecDepth 20000 in
theorem at_99_3 : am_at 99 3 = some (.aload_n 0, 4, 0, []) := rfl
set_option maxRecDepth 20000 in
theorem at_99_4 : am_at 99 4 = some (.getfield 141, 7, 0, [8, 4, 0, 714]) := rfl
set_option maxRecDepth 20000 in
theorem at_99_7 : am_at 99 7 = some (.iconst 1, 8, 1, []) := rfl
set_option maxRecDepth 20000 in
theorem at_99_8 : am_at 99 8 = some (.isub, 9, 0, []) := rfl
set_option maxRecDepth 20000 in
theorem at_99_9 : am_at 99 9 = some (.i2l, 10, 0, []) := rfl
set_option maxRecDepth 20000 in
theorem at_99_10 : am_at 99 10 = some (.invokestatic 135, 13, 96, [0, 3, 872, 873, 60]) := rfl
set_option maxRecDepth 20000 in
theorem at_99_13 : am_at 99 13 = some (.ireturn, 14, 0, [1]) := rfl
set_option maxRecDepth 20000 in
theorem at_100_0 : am_at 100 0 = some (.iconst 0, 1, 0, []) := rfl
set_option maxRecDepth 20000 in
theorem at_100_1 : am_at 100 1 = some (.istore_n 1, 2, 1, []) := rfl
set_option maxRecDepth 20000 in
theorem at_100_2 : am_at 100 2 = some (.iconst 0, 3, 0, []) := rfl
set_option maxRecDepth 20000 in
theorem at_100_3 : am_at 100 3 = some (.istore_n 2, 4, 2, []) := rfl
set_option maxRecDepth 20000 in
theorem at_100_4 : am_at 100 4 = some (.iload_n 2, 5, 2, []) := rfl
set_option maxRecDepth 20000 in
theorem at_100_5 : am_at 100 5 = some (.aload_n 0, 6, 0, []) := rfl
set_option maxRecDepth 20000 in
theorem at_100_6 : am_at 100 6 = some (.getfield 148, 9, 0, [8, 25, 0, 735]) := rfl
set_option maxRecDepth 20000 in
theorem at_100_9 : am_at 100 9 = some (.if_icmp .ge 30, 12, 39, []) := rfl
set_option maxRecDepth 20000 in
theorem at_100_12 : am_at 100 12 = some (.iload_n 1, 13, 1, []) := rfl
set_option maxRecDepth 20000 in
theorem at_100_13 : am_at 100 13 = some (.ifCond .ne 14, 16, 27, []) := rfl
set_option maxRecDepth 20000 in
theorem at_100_16 : am_at 100 16 = some (.aload_n 0, 17, 0, []) := rfl
set_option maxRecDepth 20000 in
theorem at_100_17 : am_at 100 17 = some (.getfield 71, 20, 0, [8, 26, 3, 736]) := rfl
set_option maxRecDepth 20000 in
theorem at_100_20 : am_at 100 20 = some (.iload_n 2, 21, 2, []) := rfl
set_option maxRecDepth 20000 in
theorem at_100_21 : am_at 100 21 = some (.iaload, 22, 0, []) := rfl
set_option maxRecDepth 20000 in
theorem at_100_22 : am_at 100 22 = some (.bipush (-4), 24, 4294967292, []) := rfl
set_option maxRecDepth 20000 in
theorem at_100_24 : am_at 100 24 = some (.if_icmp .eq 7, 27, 31, []) := rfl
set_option maxRecDepth 20000 in
theorem at_100_27 : am_at 100 27 = some (.iconst 1, 28, 1, []) := rfl
set_option maxRecDepth 20000 in
theorem at_100_28 : am_at 100 28 = some (.goto 4, 31, 32, []) := rfl
set_option maxRecDepth 20000 in
theorem at_100_31 : am_at 100 31 = some (.iconst 0, 32, 0, []) := rfl
set_option maxRecDepth 20000 in
theorem at_100_32 : am_at 100 32 = some (.istore_n 1, 33, 1, []) := rfl
set_option maxRecDepth 20000 in
theorem at_100_33 : am_at 100 33 = some (.iinc 2 1, 36, 2, []) := rfl
set_option maxRecDepth 20000 in
theorem at_100_36 : am_at 100 36 = some (.goto (-32), 39, 4, []) := rfl
set_option maxRecDepth 20000 in
theorem at_100_39 : am_at 100 39 = some (.iload_n 1, 40, 1, []) := rfl
set_option maxRecDepth 20000 in
theorem at_100_40 : am_at 100 40 = some (.ireturn, 41, 0, [1]) := rfl
set_option maxRecDepth 20000 in
theorem at_101_0 : am_at 101 0 = some (.aload_n 0, 1, 0, []) := rfl
set_option maxRecDepth 20000 in
theorem at_101_1 : am_at 101 1 = some (.iload_n 1, 2, 1, []) := rfl
set_option maxRecDepth 20000 in
theorem at_101_2 : am_at 101 2 = some (.invokevirtual 151, 5, 99, [0, 1, 8, 884, 886, 28, 60]) := rfl
set_option maxRecDepth 20000 in
theorem at_101_5 : am_at 101 5 = some (.ifCond .eq 21, 8, 26, []) := rfl
set_option maxRecDepth 20000 in
theorem at_101_8 : am_at 101 8 = some (.iload_n 2, 9, 2, []) := rfl
set_option maxRecDepth 20000 in
theorem at_101_9 : am_at 101 9 = some (.bipush (-4), 11, 4294967292, []) := rfl
set_option maxRecDepth 20000 in
theorem at_101_11 : am_at 101 11 = some (.if_icmp .eq 17, 14, 28, []) := rfl
set_option maxRecDepth 20000 in
theorem at_101_14 : am_at 101 14 = some (.iload_n 2, 15, 2, []) := rfl
set_option maxRecDepth 20000 in
theorem at_101_15 : am_at 101 15 = some (.i2l, 16, 0, []) := rfl
set_option maxRecDepth 20000 in
theorem at_101_16 : am_at 101 16 = some (.lconst 0, 17, 0, []) := rfl
set_option maxRecDepth 20000 in
theorem at_101_17 : am_at 101 17 = some (.ldc2_w 161, 20, 11, [897]) := rfl
set_option maxRecDepth 20000 in
theorem at_101_20 : am_at 101 20 = some (.invokestatic 135, 23, 96, [0, 3, 872, 873, 60]) := rfl
set_option maxRecDepth 20000 in
theorem at_101_23 : am_at 101 23 = some (.ifCond .ne 5, 26, 28, []) := rfl
set_option maxRecDepth 20000 in
theorem at_101_26 : am_at 101 26 = some (.iconst (-1), 27, 4294967295, []) := rfl
set_option maxRecDepth 20000 in
theorem at_101_27 : am_at 101 27 = some (.ireturn, 28, 0, [0]) := rfl
set_option maxRecDepth 20000 in
theorem at_101_28 : am_at 101 28 = some (.aload_n 0, 29, 0, []) := rfl
set_option maxRecDepth 20000 in
theorem at_101_29 : am_at 101 29 = some (.invokevirtual 157, 32, 100, [0, 0, 8, 889, 891, 29, 60]) := rfl
set_option maxRecDepth 20000 in
theorem at_101_32 : am_at 101 32 = some (.ifCond .eq 6, 35, 38, []) := rfl
set_option maxRecDepth 20000 in
theorem at_101_35 : am_at 101 35 = some (.bipush (-2), 37, 4294967294, []) := rfl
set_option maxRecDepth 20000 in
theorem at_101_37 : am_at 101 37 = some (.ireturn, 38, 0, [0]) := rfl
set_option maxRecDepth 20000 in
theorem at_101_38 : am_at 101 38 = some (.aload_n 0, 39, 0, []) := rfl
set_option maxRecDepth 20000 in
theorem at_101_39 : am_at 101 39 = some (.getfield 38, 42, 0, [8, 11, 3, 721]) := rfl
set_option maxRecDepth 20000 in
theorem at_101_42 : am_at 101 42 = some (.iload_n 1, 43, 1, []) := rfl
set_option maxRecDepth 20000 in
theorem at_101_43 : am_at 101 43 = some (.iload_n 2, 44, 2, []) := rfl
set_option maxRecDepth 20000 in
theorem at_101_44 : am_at 101 44 = some (.iastore, 45, 0, []) := rfl
set_option maxRecDepth 20000 in
theorem at_101_45 : am_at 101 45 = some (.aload_n 0, 46, 0, []) := rfl
set_option maxRecDepth 20000 in
theorem at_101_46 : am_at 101 46 = some (.getfield 41, 49, 0, [8, 12, 3, 722]) := rfl
set_option maxRecDepth 20000 in
theorem at_101_49 : am_at 101 49 = some (.iload_n 1, 50, 1, []) := rfl
set_option maxRecDepth 20000 in
theorem at_101_50 : am_at 101 50 = some (.iload_n 3, 51, 3, []) := rfl
set_option maxRecDepth 20000 in
theorem at_101_51 : am_at 101 51 = some (.iastore, 52, 0, []) := rfl
set_option maxRecDepth 20000 in
theorem at_101_52 : am_at 101 52 = some (.aload_n 0, 53, 0, []) := rfl
set_option maxRecDepth 20000 in
theorem at_101_53 : am_at 101 53 = some (.getfield 44, 56, 0, [8, 13, 3, 723]) := rfl
set_option maxRecDepth 20000 in
theorem at_101_56 : am_at 101 56 = some (.iload_n 1, 57, 1, []) := rfl
set_option maxRecDepth 20000 in
theorem at_101_57 : am_at 101 57 = some (.iload 4, 59, 4, []) := rfl
set_option maxRecDepth 20000 in
theorem at_101_59 : am_at 101 59 = some (.iastore, 60, 0, []) := rfl
set_option maxRecDepth 20000 in
theorem at_101_60 : am_at 101 60 = some (.iconst 1, 61, 1, []) := rfl
set_option maxRecDepth 20000 in
theorem at_101_61 : am_at 101 61 = some (.ireturn, 62, 0, [0]) := rfl
set_option maxRecDepth 20000 in
theorem at_102_0 : am_at 102 0 = some (.aload_n 0, 1, 0, []) := rfl
set_option maxRecDepth 20000 in
theorem at_102_1 : am_at 102 1 = some (.getfield 163, 4, 0, [8, 15, 1, 725]) := rfl
set_option maxRecDepth 20000 in
theorem at_102_4 : am_at 102 4 = some (.ifCond .eq 6, 7, 10, []) := rfl
set_option maxRecDepth 20000 in
theorem at_102_7 : am_at 102 7 = some (.bipush (-2), 9, 4294967294, []) := rfl
set_option maxRecDepth 20000 in
theorem at_102_9 : am_at 102 9 = some (.ireturn, 10, 0, [0]) := rfl
set_option maxRecDepth 20000 in
theorem at_102_10 : am_at 102 10 = some (.aload_n 0, 11, 0, []) := rfl
set_option maxRecDepth 20000 in
theorem at_102_11 : am_at 102 11 = some (.getfield 167, 14, 0, [8, 14, 0, 724]) := rfl
set_option maxRecDepth 20000 in
theorem at_102_14 : am_at 102 14 = some (.bipush 8, 16, 8, []) := rfl
set_option maxRecDepth 20000 in
theorem at_102_16 : am_at 102 16 = some (.if_icmp .ne 6, 19, 22, []) := rfl
set_option maxRecDepth 20000 in
theorem at_102_19 : am_at 102 19 = some (.bipush (-3), 21, 4294967293, []) := rfl
set_option maxRecDepth 20000 in
theorem at_102_21 : am_at 102 21 = some (.ireturn, 22, 0, [0]) := rfl
set_option maxRecDepth 20000 in
theorem at_102_22 : am_at 102 22 = some (.aload_n 0, 23, 0, []) := rfl
set_option maxRecDepth 20000 in
theorem at_102_23 : am_at 102 23 = some (.iconst 1, 24, 1, []) := rfl
set_option maxRecDepth 20000 in
theorem at_102_24 : am_at 102 24 = some (.putfield 163, 27, 0, [8, 15, 1, 725]) := rfl
set_option maxRecDepth 20000 in
theorem at_102_27 : am_at 102 27 = some (.aload_n 0, 28, 0, []) := rfl
set_option maxRecDepth 20000 in
theorem at_102_28 : am_at 102 28 = some (.iconst 1, 29, 1, []) := rfl
set_option maxRecDepth 20000 in
theorem at_102_29 : am_at 102 29 = some (.putfield 170, 32, 0, [8, 16, 0, 726]) := rfl
set_option maxRecDepth 20000 in
theorem at_102_32 : am_at 102 32 = some (.aload_n 0, 33, 0, []) := rfl
set_option maxRecDepth 20000 in
theorem at_102_33 : am_at 102 33 = some (.getfield 47, 36, 0, [8, 17, 3, 727]) := rfl
set_option maxRecDepth 20000 in
theorem at_102_36 : am_at 102 36 = some (.aload_n 0, 37, 0, []) := rfl
set_option maxRecDepth 20000 in
theorem at_102_37 : am_at 102 37 = some (.getfield 167, 40, 0, [8, 14, 0, 724]) := rfl
set_option maxRecDepth 20000 in
theorem at_102_40 : am_at 102 40 = some (.iconst 0, 41, 0, []) := rfl
set_option maxRecDepth 20000 in
theorem at_102_41 : am_at 102 41 = some (.iastore, 42, 0, []) := rfl
set_option maxRecDepth 20000 in
theorem at_102_42 : am_at 102 42 = some (.aload_n 0, 43, 0, []) := rfl
set_option maxRecDepth 20000 in
theorem at_102_43 : am_at 102 43 = some (.getfield 167, 46, 0, [8, 14, 0, 724]) := rfl
set_option maxRecDepth 20000 in
theorem at_102_46 : am_at 102 46 = some (.ireturn, 47, 0, [0]) := rfl
set_option maxRecDepth 20000 in
theorem at_103_0 : am_at 103 0 = some (.aload_n 0, 1, 0, []) := rfl
set_option maxRecDepth 20000 in
theorem at_103_1 : am_at 103 1 = some (.iload_n 1, 2, 1, []) := rfl
set_option maxRecDepth 20000 in
theorem at_103_2 : am_at 103 2 = some (.iload_n 2, 3, 2, []) := rfl
set_option maxRecDepth 20000 in
theorem at_103_3 : am_at 103 3 = some (.iload_n 3, 4, 3, []) := rfl
set_option maxRecDepth 20000 in
theorem at_103_4 : am_at 103 4 = some (.iload 4, 6, 4, []) := rfl
set_option maxRecDepth 20000 in
theorem at_103_6 : am_at 103 6 = some (.invokevirtual 185, 9, 104, [0, 4, 8, 906, 908, 30, 60]) := rfl
set_option maxRecDepth 20000 in
theorem at_103_9 : am_at 103 9 = some (.ifCond .ne 5, 12, 14, []) := rfl
set_option maxRecDepth 20000 in
theorem at_103_12 : am_at 103 12 = some (.iconst (-1), 13, 4294967295, []) := rfl
set_option maxRecDepth 20000 in
theorem at_103_13 : am_at 103 13 = some (.ireturn, 14, 0, [0]) := rfl
set_option maxRecDepth 20000 in
theorem at_103_14 : am_at 103 14 = some (.aload_n 0, 15, 0, []) := rfl
set_option maxRecDepth 20000 in
theorem at_103_15 : am_at 103 15 = some (.getfield 163, 18, 0, [8, 15, 1, 725]) := rfl
set_option maxRecDepth 20000 in
theorem at_103_18 : am_at 103 18 = some (.ifCond .ne 6, 21, 24, []) := rfl
set_option maxRecDepth 20000 in
theorem at_103_21 : am_at 103 21 = some (.bipush (-2), 23, 4294967294, []) := rfl
set_option maxRecDepth 20000 in
theorem at_103_23 : am_at 103 23 = some (.ireturn, 24, 0, [0]) := rfl
set_option maxRecDepth 20000 in
theorem at_103_24 : am_at 103 24 = some (.aload_n 0, 25, 0, []) := rfl
set_option maxRecDepth 20000 in
theorem at_103_25 : am_at 103 25 = some (.getfield 47, 28, 0, [8, 17, 3, 727]) := rfl
set_option maxRecDepth 20000 in
theorem at_103_28 : am_at 103 28 = some (.aload_n 0, 29, 0, []) := rfl
set_option maxRecDepth 20000 in
theorem at_103_29 : am_at 103 29 = some (.getfield 167, 32, 0, [8, 14, 0, 724]) := rfl
set_option maxRecDepth 20000 in
theorem at_103_32 : am_at 103 32 = some (.iaload, 33, 0, []) := rfl
set_option maxRecDepth 20000 in
theorem at_103_33 : am_at 103 33 = some (.istore 5, 35, 5, []) := rfl
set_option maxRecDepth 20000 in
theorem at_103_35 : am_at 103 35 = some (.iload_n 1, 36, 1, []) := rfl
set_option maxRecDepth 20000 in
theorem at_103_36 : am_at 103 36 = some (.iload_n 2, 37, 2, []) := rfl
set_option maxRecDepth 20000 in
theorem at_103_37 : am_at 103 37 = some (.invokestatic 189, 40, 106, [0, 2, 918, 919, 60]) := rfl
set_option maxRecDepth 20000 in
theorem at_103_40 : am_at 103 40 = some (.istore 6, 42, 6, []) := rfl
set_option maxRecDepth 20000 in
theorem at_103_42 : am_at 103 42 = some (.iload 5, 44, 5, []) := rfl
set_option maxRecDepth 20000 in
theorem at_103_44 : am_at 103 44 = some (.aload_n 0, 45, 0, []) := rfl
set_option maxRecDepth 20000 in
theorem at_103_45 : am_at 103 45 = some (.getfield 170, 48, 0, [8, 16, 0, 726]) := rfl
set_option maxRecDepth 20000 in
theorem at_103_48 : am_at 103 48 = some (.iadd, 49, 0, []) := rfl
set_option maxRecDepth 20000 in
theorem at_103_49 : am_at 103 49 = some (.iload 6, 51, 6, []) := rfl
set_option maxRecDepth 20000 in
theorem at_103_51 : am_at 103 51 = some (.iadd, 52, 0, []) := rfl
set_option maxRecDepth 20000 in
theorem at_103_52 : am_at 103 52 = some (.bipush 30, 54, 30, []) := rfl
set_option maxRecDepth 20000 in
theorem at_103_54 : am_at 103 54 = some (.if_icmp .le 6, 57, 60, []) := rfl
set_option maxRecDepth 20000 in
theorem at_103_57 : am_at 103 57 = some (.bipush (-3), 59, 4294967293, []) := rfl
set_option maxRecDepth 20000 in
theorem at_103_59 : am_at 103 59 = some (.ireturn, 60, 0, [0]) := rfl
set_option maxRecDepth 20000 in
theorem at_103_60 : am_at 103 60 = some (.bipush 30, 62, 30, []) := rfl
set_option maxRecDepth 20000 in
theorem at_103_62 : am_at 103 62 = some (.aload_n 0, 63, 0, []) := rfl
set_option maxRecDepth 20000 in
theorem at_103_63 : am_at 103 63 = some (.getfield 167, 66, 0, [8, 14, 0, 724]) := rfl
set_option maxRecDepth 20000 in
theorem at_103_66 : am_at 103 66 = some (.imul, 67, 0, []) := rfl
set_option maxRecDepth 20000 in
theorem at_103_67 : am_at 103 67 = some (.iload 5, 69, 5, []) := rfl
set_option maxRecDepth 20000 in
theorem at_103_69 : am_at 103 69 = some (.iadd, 70, 0, []) := rfl
set_option maxRecDepth 20000 in
theorem at_103_70 : am_at 103 70 = some (.istore 7, 72, 7, []) := rfl
set_option maxRecDepth 20000 in
theorem at_103_72 : am_at 103 72 = some (.aload_n 0, 73, 0, []) := rfl
set_option maxRecDepth 20000 in
theorem at_103_73 : am_at 103 73 = some (.getfield 50, 76, 0, [8, 18, 3, 728]) := rfl
set_option maxRecDepth 20000 in
theorem at_103_76 : am_at 103 76 = some (.iload 7, 78, 7, []) := rfl
set_option maxRecDepth 20000 in
theorem at_103_78 : am_at 103 78 = some (.iload_n 1, 79, 1, []) := rfl
set_option maxRecDepth 20000 in
theorem at_103_79 : am_at 103 79 = some (.iastore, 80, 0, []) := rfl
set_option maxRecDepth 20000 in
theorem at_103_80 : am_at 103 80 = some (.aload_n 0, 81, 0, []) := rfl
set_option maxRecDepth 20000 in
theorem at_103_81 : am_at 103 81 = some (.getfield 53, 84, 0, [8, 19, 3, 729]) := rfl
set_option maxRecDepth 20000 in
theorem at_103_84 : am_at 103 84 = some (.iload 7, 86, 7, []) := rfl
set_option maxRecDepth 20000 in
theorem at_103_86 : am_at 103 86 = some (.iload_n 2, 87, 2, []) := rfl
set_option maxRecDepth 20000 in
theorem at_103_87 : am_at 103 87 = some (.iastore, 88, 0, []) := rfl
set_option maxRecDepth 20000 in
theorem at_103_88 : am_at 103 88 = some (.aload_n 0, 89, 0, []) := rfl
set_option maxRecDepth 20000 in
theorem at_103_89 : am_at 103 89 = some (.getfield 56, 92, 0, [8, 20, 3, 730]) := rfl
set_option maxRecDepth 20000 in
theorem at_103_92 : am_at 103 92 = some (.iload 7, 94, 7, []) := rfl
set_option maxRecDepth 20000 in
theorem at_103_94 : am_at 103 94 = some (.iload_n 3, 95, 3, []) := rfl
set_option maxRecDepth 20000 in
theorem at_103_95 : am_at 103 95 = some (.iastore, 96, 0, []) := rfl
set_option maxRecDepth 20000 in
theorem at_103_96 : am_at 103 96 = some (.aload_n 0, 97, 0, []) := rfl
set_option maxRecDepth 20000 in
theorem at_103_97 : am_at 103 97 = some (.getfield 59, 100, 0, [8, 21, 3, 731]) := rfl
set_option maxRecDepth 20000 in
theorem at_103_100 : am_at 103 100 = some (.iload 7, 102, 7, []) := rfl
set_option maxRecDepth 20000 in
theorem at_103_102 : am_at 103 102 = some (.iload 4, 104, 4, []) := rfl
set_option maxRecDepth 20000 in
theorem at_103_104 : am_at 103 104 = some (.iastore, 105, 0, []) := rfl
set_option maxRecDepth 20000 in
theorem at_103_105 : am_at 103 105 = some (.aload_n 0, 106, 0, []) := rfl
set_option maxRecDepth 20000 in
theorem at_103_106 : am_at 103 106 = some (.getfield 68, 109, 0, [8, 24, 3, 734]) := rfl
set_option maxRecDepth 20000 in
theorem at_103_109 : am_at 103 109 = some (.iload 7, 111, 7, []) := rfl
set_option maxRecDepth 20000 in
theorem at_103_111 : am_at 103 111 = some (.iload 6, 113, 6, []) := rfl
set_option maxRecDepth 20000 in
theorem at_103_113 : am_at 103 113 = some (.iastore, 114, 0, []) := rfl
set_option maxRecDepth 20000 in
theorem at_103_114 : am_at 103 114 = some (.iload 5, 116, 5, []) := rfl
set_option maxRecDepth 20000 in
theorem at_103_116 : am_at 103 116 = some (.iconst 1, 117, 1, []) := rfl
set_option maxRecDepth 20000 in
theorem at_103_117 : am_at 103 117 = some (.isub, 118, 0, []) := rfl
set_option maxRecDepth 20000 in
theorem at_103_118 : am_at 103 118 = some (.istore 8, 120, 8, []) := rfl
set_option maxRecDepth 20000 in
theorem at_103_120 : am_at 103 120 = some (.iload 8, 122, 8, []) := rfl
set_option maxRecDepth 20000 in
theorem at_103_122 : am_at 103 122 = some (.ifCond .lt 27, 125, 149, []) := rfl
set_option maxRecDepth 20000 in
theorem at_103_125 : am_at 103 125 = some (.aload_n 0, 126, 0, []) := rfl
set_option maxRecDepth 20000 in
theorem at_103_126 : am_at 103 126 = some (.getfield 68, 129, 0, [8, 24, 3, 734]) := rfl
set_option maxRecDepth 20000 in
theorem at_103_129 : am_at 103 129 = some (.bipush 30, 131, 30, []) := rfl
set_option maxRecDepth 20000 in
theorem at_103_131 : am_at 103 131 = some (.aload_n 0, 132, 0, []) := rfl
set_option maxRecDepth 20000 in
theorem at_103_132 : am_at 103 132 = some (.getfield 167, 135, 0, [8, 14, 0, 724]) := rfl
set_option maxRecDepth 20000 in
theorem at_103_135 : am_at 103 135 = some (.imul, 136, 0, []) := rfl
set_option maxRecDepth 20000 in
theorem at_103_136 : am_at 103 136 = some (.iload 8, 138, 8, []) := rfl
set_option maxRecDepth 20000 in
theorem at_103_138 : am_at 103 138 = some (.iadd, 139, 0, []) := rfl
set_option maxRecDepth 20000 in
theorem at_103_139 : am_at 103 139 = some (.iaload, 140, 0, []) := rfl
set_option maxRecDepth 20000 in
theorem at_103_140 : am_at 103 140 = some (.ifCond .ne 9, 143, 149, []) := rfl
set_option maxRecDepth 20000 in
theorem at_103_143 : am_at 103 143 = some (.iinc 8 (-1), 146, 8, []) := rfl
set_option maxRecDepth 20000 in
theorem at_103_146 : am_at 103 146 = some (.goto (-26), 149, 120, []) := rfl
set_option maxRecDepth 20000 in
theorem at_103_149 : am_at 103 149 = some (.aload_n 0, 150, 0, []) := rfl
set_option maxRecDepth 20000 in
theorem at_103_150 : am_at 103 150 = some (.getfield 62, 153, 0, [8, 22, 3, 732]) := rfl
set_option maxRecDepth 20000 in
theorem at_103_153 : am_at 103 153 = some (.iload 7, 155, 7, []) := rfl
set_option maxRecDepth 20000 in
theorem at_103_155 : am_at 103 155 = some (.iload 8, 157, 8, []) := rfl
set_option maxRecDepth 20000 in
theorem at_103_157 : am_at 103 157 = some (.ifCond .ge 8, 160, 165, []) := rfl
set_option maxRecDepth 20000 in
theorem at_103_160 : am_at 103 160 = some (.bipush (-4), 162, 4294967292, []) := rfl
set_option maxRecDepth 20000 in
theorem at_103_162 : am_at 103 162 = some (.goto 5, 165, 167, []) := rfl
set_option maxRecDepth 20000 in
theorem at_103_165 : am_at 103 165 = some (.iload 8, 167, 8, []) := rfl
set_option maxRecDepth 20000 in
theorem at_103_167 : am_at 103 167 = some (.iastore, 168, 0, []) := rfl
set_option maxRecDepth 20000 in
theorem at_103_168 : am_at 103 168 = some (.iload 8, 170, 8, []) := rfl
set_option maxRecDepth 20000 in
theorem at_103_170 : am_at 103 170 = some (.ifCond .lt 22, 173, 192, []) := rfl
set_option maxRecDepth 20000 in
theorem at_103_173 : am_at 103 173 = some (.aload_n 0, 174, 0, []) := rfl
set_option maxRecDepth 20000 in
theorem at_103_174 : am_at 103 174 = some (.getfield 68, 177, 0, [8, 24, 3, 734]) := rfl
set_option maxRecDepth 20000 in
theorem at_103_177 : am_at 103 177 = some (.bipush 30, 179, 30, []) := rfl
set_option maxRecDepth 20000 in
theorem at_103_179 : am_at 103 179 = some (.aload_n 0, 180, 0, []) := rfl
set_option maxRecDepth 20000 in
theorem at_103_180 : am_at 103 180 = some (.getfield 167, 183, 0, [8, 14, 0, 724]) := rfl
set_option maxRecDepth 20000 in
theorem at_103_183 : am_at 103 183 = some (.imul, 184, 0, []) := rfl
set_option maxRecDepth 20000 in
theorem at_103_184 : am_at 103 184 = some (.iload 8, 186, 8, []) := rfl
set_option maxRecDepth 20000 in
theorem at_103_186 : am_at 103 186 = some (.iadd, 187, 0, []) := rfl
set_option maxRecDepth 20000 in
theorem at_103_187 : am_at 103 187 = some (.dup2, 188, 0, []) := rfl
set_option maxRecDepth 20000 in
theorem at_103_188 : am_at 103 188 = some (.iaload, 189, 0, []) := rfl
set_option maxRecDepth 20000 in
theorem at_103_189 : am_at 103 189 = some (.iconst 1, 190, 1, []) := rfl
set_option maxRecDepth 20000 in
theorem at_103_190 : am_at 103 190 = some (.isub, 191, 0, []) := rfl
set_option maxRecDepth 20000 in
theorem at_103_191 : am_at 103 191 = some (.iastore, 192, 0, []) := rfl
set_option maxRecDepth 20000 in
theorem at_103_192 : am_at 103 192 = some (.aload_n 0, 193, 0, []) := rfl
set_option maxRecDepth 20000 in
theorem at_103_193 : am_at 103 193 = some (.getfield 65, 196, 0, [8, 23, 3, 733]) := rfl
set_option maxRecDepth 20000 in
theorem at_103_196 : am_at 103 196 = some (.iload 7, 198, 7, []) := rfl
set_option maxRecDepth 20000 in
theorem at_103_198 : am_at 103 198 = some (.iconst 1, 199, 1, []) := rfl
set_option maxRecDepth 20000 in
theorem at_103_199 : am_at 103 199 = some (.iastore, 200, 0, []) := rfl
set_option maxRecDepth 20000 in
theorem at_103_200 : am_at 103 200 = some (.iload 8, 202, 8, []) := rfl
set_option maxRecDepth 20000 in
theorem at_103_202 : am_at 103 202 = some (.ifCond .lt 66, 205, 268, []) := rfl
set_option maxRecDepth 20000 in
theorem at_103_205 : am_at 103 205 = some (.aload_n 0, 206, 0, []) := rfl
set_option maxRecDepth 20000 in
theorem at_103_206 : am_at 103 206 = some (.getfield 65, 209, 0, [8, 23, 3, 733]) := rfl
set_option maxRecDepth 20000 in
theorem at_103_209 : am_at 103 209 = some (.bipush 30, 211, 30, []) := rfl
set_option maxRecDepth 20000 in
theorem at_103_211 : am_at 103 211 = some (.aload_n 0, 212, 0, []) := rfl
set_option maxRecDepth 20000 in
theorem at_103_212 : am_at 103 212 = some (.getfield 167, 215, 0, [8, 14, 0, 724]) := rfl
set_option maxRecDepth 20000 in
theorem at_103_215 : am_at 103 215 = some (.imul, 216, 0, []) := rfl
set_option maxRecDepth 20000 in
theorem at_103_216 : am_at 103 216 = some (.iload 8, 218, 8, []) := rfl
set_option maxRecDepth 20000 in
theorem at_103_218 : am_at 103 218 = some (.iadd, 219, 0, []) := rfl
set_option maxRecDepth 20000 in
theorem at_103_219 : am_at 103 219 = some (.dup2, 220, 0, []) := rfl
set_option maxRecDepth 20000 in
theorem at_103_220 : am_at 103 220 = some (.iaload, 221, 0, []) := rfl
set_option maxRecDepth 20000 in
theorem at_103_221 : am_at 103 221 = some (.iconst 1, 222, 1, []) := rfl
set_option maxRecDepth 20000 in
theorem at_103_222 : am_at 103 222 = some (.iadd, 223, 0, []) := rfl
set_option maxRecDepth 20000 in
theorem at_103_223 : am_at 103 223 = some (.iastore, 224, 0, []) := rfl
set_option maxRecDepth 20000 in
theorem at_103_224 : am_at 103 224 = some (.aload_n 0, 225, 0, []) := rfl
set_option maxRecDepth 20000 in
theorem at_103_225 : am_at 103 225 = some (.getfield 62, 228, 0, [8, 22, 3, 732]) := rfl
set_option maxRecDepth 20000 in
theorem at_103_228 : am_at 103 228 = some (.bipush 30, 230, 30, []) := rfl
set_option maxRecDepth 20000 in
theorem at_103_230 : am_at 103 230 = some (.aload_n 0, 231, 0, []) := rfl
set_option maxRecDepth 20000 in
theorem at_103_231 : am_at 103 231 = some (.getfield 167, 234, 0, [8, 14, 0, 724]) := rfl
set_option maxRecDepth 20000 in
theorem at_103_234 : am_at 103 234 = some (.imul, 235, 0, []) := rfl
set_option maxRecDepth 20000 in
theorem at_103_235 : am_at 103 235 = some (.iload 8, 237, 8, []) := rfl
set_option maxRecDepth 20000 in
theorem at_103_237 : am_at 103 237 = some (.iadd, 238, 0, []) := rfl
set_option maxRecDepth 20000 in
theorem at_103_238 : am_at 103 238 = some (.iaload, 239, 0, []) := rfl
set_option maxRecDepth 20000 in
theorem at_103_239 : am_at 103 239 = some (.bipush (-4), 241, 4294967292, []) := rfl
set_option maxRecDepth 20000 in
theorem at_103_241 : am_at 103 241 = some (.if_icmp .ne 7, 244, 248, []) := rfl
set_option maxRecDepth 20000 in
theorem at_103_244 : am_at 103 244 = some (.iconst (-1), 245, 4294967295, []) := rfl
set_option maxRecDepth 20000 in
theorem at_103_245 : am_at 103 245 = some (.goto 18, 248, 263, []) := rfl
set_option maxRecDepth 20000 in
theorem at_103_248 : am_at 103 248 = some (.aload_n 0, 249, 0, []) := rfl
set_option maxRecDepth 20000 in
theorem at_103_249 : am_at 103 249 = some (.getfield 62, 252, 0, [8, 22, 3, 732]) := rfl
set_option maxRecDepth 20000 in
theorem at_103_252 : am_at 103 252 = some (.bipush 30, 254, 30, []) := rfl
set_option maxRecDepth 20000 in
theorem at_103_254 : am_at 103 254 = some (.aload_n 0, 255, 0, []) := rfl
set_option maxRecDepth 20000 in
theorem at_103_255 : am_at 103 255 = some (.getfield 167, 258, 0, [8, 14, 0, 724]) := rfl
set_option maxRecDepth 20000 in
theorem at_103_258 : am_at 103 258 = some (.imul, 259, 0, []) := rfl
set_option maxRecDepth 20000 in
theorem at_103_259 : am_at 103 259 = some (.iload 8, 261, 8, []) := rfl
set_option maxRecDepth 20000 in
theorem at_103_261 : am_at 103 261 = some (.iadd, 262, 0, []) := rfl
set_option maxRecDepth 20000 in
theorem at_103_262 : am_at 103 262 = some (.iaload, 263, 0, []) := rfl
set_option maxRecDepth 20000 in
theorem at_103_263 : am_at 103 263 = some (.istore 8, 265, 8, []) := rfl
set_option maxRecDepth 20000 in
theorem at_103_265 : am_at 103 265 = some (.goto (-65), 268, 200, []) := rfl
set_option maxRecDepth 20000 in
theorem at_103_268 : am_at 103 268 = some (.aload_n 0, 269, 0, []) := rfl
set_option maxRecDepth 20000 in
theorem at_103_269 : am_at 103 269 = some (.getfield 47, 272, 0, [8, 17, 3, 727]) := rfl
set_option maxRecDepth 20000 in
theorem at_103_272 : am_at 103 272 = some (.aload_n 0, 273, 0, []) := rfl
set_option maxRecDepth 20000 in
theorem at_103_273 : am_at 103 273 = some (.getfield 167, 276, 0, [8, 14, 0, 724]) := rfl
set_option maxRecDepth 20000 in
theorem at_103_276 : am_at 103 276 = some (.iload 5, 278, 5, []) := rfl
set_option maxRecDepth 20000 in
theorem at_103_278 : am_at 103 278 = some (.iconst 1, 279, 1, []) := rfl
set_option maxRecDepth 20000 in
theorem at_103_279 : am_at 103 279 = some (.iadd, 280, 0, []) := rfl
set_option maxRecDepth 20000 in
theorem at_103_280 : am_at 103 280 = some (.iastore, 281, 0, []) := rfl
set_option maxRecDepth 20000 in
theorem at_103_281 : am_at 103 281 = some (.aload_n 0, 282, 0, []) := rfl
set_option maxRecDepth 20000 in
theorem at_103_282 : am_at 103 282 = some (.dup, 283, 0, []) := rfl
set_option maxRecDepth 20000 in
theorem at_103_283 : am_at 103 283 = some (.getfield 170, 286, 0, [8, 16, 0, 726]) := rfl
set_option maxRecDepth 20000 in
theorem at_103_286 : am_at 103 286 = some (.iload 6, 288, 6, []) := rfl
set_option maxRecDepth 20000 in
theorem at_103_288 : am_at 103 288 = some (.iconst 1, 289, 1, []) := rfl
set_option maxRecDepth 20000 in
theorem at_103_289 : am_at 103 289 = some (.isub, 290, 0, []) := rfl
set_option maxRecDepth 20000 in
theorem at_103_290 : am_at 103 290 = some (.iadd, 291, 0, []) := rfl
set_option maxRecDepth 20000 in
theorem at_103_291 : am_at 103 291 = some (.putfield 170, 294, 0, [8, 16, 0, 726]) := rfl
set_option maxRecDepth 20000 in
theorem at_103_294 : am_at 103 294 = some (.aload_n 0, 295, 0, []) := rfl
set_option maxRecDepth 20000 in
theorem at_103_295 : am_at 103 295 = some (.getfield 170, 298, 0, [8, 16, 0, 726]) := rfl
set_option maxRecDepth 20000 in
theorem at_103_298 : am_at 103 298 = some (.ifCond .ne 18, 301, 316, []) := rfl
set_option maxRecDepth 20000 in
theorem at_103_301 : am_at 103 301 = some (.aload_n 0, 302, 0, []) := rfl
set_option maxRecDepth 20000 in
theorem at_103_302 : am_at 103 302 = some (.iconst 0, 303, 0, []) := rfl
set_option maxRecDepth 20000 in
theorem at_103_303 : am_at 103 303 = some (.putfield 163, 306, 0, [8, 15, 1, 725]) := rfl
set_option maxRecDepth 20000 in
theorem at_103_306 : am_at 103 306 = some (.aload_n 0, 307, 0, []) := rfl
set_option maxRecDepth 20000 in
theorem at_103_307 : am_at 103 307 = some (.dup, 308, 0, []) := rfl
set_option maxRecDepth 20000 in
theorem at_103_308 : am_at 103 308 = some (.getfield 167, 311, 0, [8, 14, 0, 724]) := rfl
set_option maxRecDepth 20000 in
theorem at_103_311 : am_at 103 311 = some (.iconst 1, 312, 1, []) := rfl
set_option maxRecDepth 20000 in
theorem at_103_312 : am_at 103 312 = some (.iadd, 313, 0, []) := rfl
set_option maxRecDepth 20000 in
theorem at_103_313 : am_at 103 313 = some (.putfield 167, 316, 0, [8, 14, 0, 724]) := rfl
set_option maxRecDepth 20000 in
theorem at_103_316 : am_at 103 316 = some (.aload_n 0, 317, 0, []) := rfl
set_option maxRecDepth 20000 in
theorem at_103_317 : am_at 103 317 = some (.getfield 170, 320, 0, [8, 16, 0, 726]) := rfl
set_option maxRecDepth 20000 in
theorem at_103_320 : am_at 103 320 = some (.ireturn, 321, 0, [0]) := rfl
set_option maxRecDepth 20000 in
theorem at_104_0 : am_at 104 0 = some (.iload_n 1, 1, 1, []) := rfl
set_option maxRecDepth 20000 in
theorem at_104_1 : am_at 104 1 = some (.tableswitch 229 0 9 #[55, 78, 87, 87, 114, 78, 148, 87, 175, 194], 56, 230, [56, 79, 88, 88, 115, 79, 149, 88, 176, 195]) := rfl
set_option maxRecDepth 20000 in
theorem at_104_56 : am_at 104 56 = some (.aload_n 0, 57, 0, []) := rfl
set_option maxRecDepth 20000 in
theorem at_104_57 : am_at 104 57 = some (.iload_n 2, 58, 2, []) := rfl
set_option maxRecDepth 20000 in
theorem at_104_58 : am_at 104 58 = some (.invokevirtual 151, 61, 99, [0, 1, 8, 884, 886, 28, 60]) := rfl
set_option maxRecDepth 20000 in
theorem at_104_61 : am_at 104 61 = some (.ifCond .eq 16, 64, 77, []) := rfl
set_option maxRecDepth 20000 in
theorem at_104_64 : am_at 104 64 = some (.iload_n 3, 65, 3, []) := rfl
set_option maxRecDepth 20000 in
theorem at_104_65 : am_at 104 65 = some (.ifCond .ne 12, 68, 77, []) := rfl
set_option maxRecDepth 20000 in
theorem at_104_68 : am_at 104 68 = some (.iload 4, 70, 4, []) := rfl
set_option maxRecDepth 20000 in
theorem at_104_70 : am_at 104 70 = some (.ifCond .ne 7, 73, 77, []) := rfl
set_option maxRecDepth 20000 in
theorem at_104_73 : am_at 104 73 = some (.iconst 1, 74, 1, []) := rfl
set_option maxRecDepth 20000 in
theorem at_104_74 : am_at 104 74 = some (.goto 4, 77, 78, []) := rfl
set_option maxRecDepth 20000 in
theorem at_104_77 : am_at 104 77 = some (.iconst 0, 78, 0, []) := rfl
set_option maxRecDepth 20000 in
theorem at_104_78 : am_at 104 78 = some (.ireturn, 79, 0, [1]) := rfl
set_option maxRecDepth 20000 in
theorem at_104_79 : am_at 104 79 = some (.aload_n 0, 80, 0, []) := rfl
set_option maxRecDepth 20000 in
theorem at_104_80 : am_at 104 80 = some (.iload_n 2, 81, 2, []) := rfl
set_option maxRecDepth 20000 in
theorem at_104_81 : am_at 104 81 = some (.iload_n 3, 82, 3, []) := rfl
set_option maxRecDepth 20000 in
theorem at_104_82 : am_at 104 82 = some (.iload 4, 84, 4, []) := rfl
set_option maxRecDepth 20000 in
theorem at_104_84 : am_at 104 84 = some (.invokevirtual 177, 87, 105, [0, 3, 8, 910, 912, 31, 60]) := rfl
set_option maxRecDepth 20000 in
theorem at_104_87 : am_at 104 87 = some (.ireturn, 88, 0, [1]) := rfl
set_option maxRecDepth 20000 in
theorem at_104_88 : am_at 104 88 = some (.iload_n 2, 89, 2, []) := rfl
set_option maxRecDepth 20000 in
theorem at_104_89 : am_at 104 89 = some (.i2l, 90, 0, []) := rfl
set_option maxRecDepth 20000 in
theorem at_104_90 : am_at 104 90 = some (.lconst 1, 91, 1, []) := rfl
set_option maxRecDepth 20000 in
theorem at_104_91 : am_at 104 91 = some (.ldc2_w 181, 94, 6, [916]) := rfl
set_option maxRecDepth 20000 in
theorem at_104_94 : am_at 104 94 = some (.invokestatic 135, 97, 96, [0, 3, 872, 873, 60]) := rfl
set_option maxRecDepth 20000 in
theorem at_104_97 : am_at 104 97 = some (.ifCond .eq 16, 100, 113, []) := rfl
set_option maxRecDepth 20000 in
theorem at_104_100 : am_at 104 100 = some (.iload_n 3, 101, 3, []) := rfl
set_option maxRecDepth 20000 in
theorem at_104_101 : am_at 104 101 = some (.ifCond .ne 12, 104, 113, []) := rfl
set_option maxRecDepth 20000 in
theorem at_104_104 : am_at 104 104 = some (.iload 4, 106, 4, []) := rfl
set_option maxRecDepth 20000 in
theorem at_104_106 : am_at 104 106 = some (.ifCond .ne 7, 109, 113, []) := rfl
set_option maxRecDepth 20000 in
theorem at_104_109 : am_at 104 109 = some (.iconst 1, 110, 1, []) := rfl
set_option maxRecDepth 20000 in
theorem at_104_110 : am_at 104 110 = some (.goto 4, 113, 114, []) := rfl
set_option maxRecDepth 20000 in
theorem at_104_113 : am_at 104 113 = some (.iconst 0, 114, 0, []) := rfl
set_option maxRecDepth 20000 in
theorem at_104_114 : am_at 104 114 = some (.ireturn, 115, 0, [1]) := rfl
set_option maxRecDepth 20000 in
theorem at_104_115 : am_at 104 115 = some (.iload_n 2, 116, 2, []) := rfl
set_option maxRecDepth 20000 in
theorem at_104_116 : am_at 104 116 = some (.i2l, 117, 0, []) := rfl
set_option maxRecDepth 20000 in
theorem at_104_117 : am_at 104 117 = some (.lconst 1, 118, 1, []) := rfl
set_option maxRecDepth 20000 in
theorem at_104_118 : am_at 104 118 = some (.ldc2_w 181, 121, 6, [916]) := rfl
set_option maxRecDepth 20000 in
theorem at_104_121 : am_at 104 121 = some (.invokestatic 135, 124, 96, [0, 3, 872, 873, 60]) := rfl
set_option maxRecDepth 20000 in
theorem at_104_124 : am_at 104 124 = some (.ifCond .eq 23, 127, 147, []) := rfl
set_option maxRecDepth 20000 in
theorem at_104_127 : am_at 104 127 = some (.iload_n 3, 128, 3, []) := rfl
set_option maxRecDepth 20000 in
theorem at_104_128 : am_at 104 128 = some (.i2l, 129, 0, []) := rfl
set_option maxRecDepth 20000 in
theorem at_104_129 : am_at 104 129 = some (.lconst 1, 130, 1, []) := rfl
set_option maxRecDepth 20000 in
theorem at_104_130 : am_at 104 130 = some (.iload_n 2, 131, 2, []) := rfl
set_option maxRecDepth 20000 in
theorem at_104_131 : am_at 104 131 = some (.i2l, 132, 0, []) := rfl
set_option maxRecDepth 20000 in
theorem at_104_132 : am_at 104 132 = some (.invokestatic 135, 135, 96, [0, 3, 872, 873, 60]) := rfl
set_option maxRecDepth 20000 in
theorem at_104_135 : am_at 104 135 = some (.ifCond .eq 12, 138, 147, []) := rfl
set_option maxRecDepth 20000 in
theorem at_104_138 : am_at 104 138 = some (.iload 4, 140, 4, []) := rfl
set_option maxRecDepth 20000 in
theorem at_104_140 : am_at 104 140 = some (.ifCond .ne 7, 143, 147, []) := rfl
set_option maxRecDepth 20000 in
theorem at_104_143 : am_at 104 143 = some (.iconst 1, 144, 1, []) := rfl
set_option maxRecDepth 20000 in
theorem at_104_144 : am_at 104 144 = some (.goto 4, 147, 148, []) := rfl
set_option maxRecDepth 20000 in
theorem at_104_147 : am_at 104 147 = some (.iconst 0, 148, 0, []) := rfl
set_option maxRecDepth 20000 in
theorem at_104_148 : am_at 104 148 = some (.ireturn, 149, 0, [1]) := rfl
set_option maxRecDepth 20000 in
theorem at_104_149 : am_at 104 149 = some (.iload_n 2, 150, 2, []) := rfl
set_option maxRecDepth 20000 in
theorem at_104_150 : am_at 104 150 = some (.i2l, 151, 0, []) := rfl
set_option maxRecDepth 20000 in
theorem at_104_151 : am_at 104 151 = some (.lconst 1, 152, 1, []) := rfl
set_option maxRecDepth 20000 in
theorem at_104_152 : am_at 104 152 = some (.ldc2_w 183, 155, 50, [917]) := rfl
set_option maxRecDepth 20000 in
theorem at_104_155 : am_at 104 155 = some (.invokestatic 135, 158, 96, [0, 3, 872, 873, 60]) := rfl
set_option maxRecDepth 20000 in
theorem at_104_158 : am_at 104 158 = some (.ifCond .eq 16, 161, 174, []) := rfl
set_option maxRecDepth 20000 in
theorem at_104_161 : am_at 104 161 = some (.iload_n 3, 162, 3, []) := rfl
set_option maxRecDepth 20000 in
theorem at_104_162 : am_at 104 162 = some (.ifCond .ne 12, 165, 174, []) := rfl
set_option maxRecDepth 20000 in
theorem at_104_165 : am_at 104 165 = some (.iload 4, 167, 4, []) := rfl
set_option maxRecDepth 20000 in
theorem at_104_167 : am_at 104 167 = some (.ifCond .ne 7, 170, 174, []) := rfl
set_option maxRecDepth 20000 in
theorem at_104_170 : am_at 104 170 = some (.iconst 1, 171, 1, []) := rfl
set_option maxRecDepth 20000 in
theorem at_104_171 : am_at 104 171 = some (.goto 4, 174, 175, []) := rfl
set_option maxRecDepth 20000 in
theorem at_104_174 : am_at 104 174 = some (.iconst 0, 175, 0, []) := rfl
set_option maxRecDepth 20000 in
theorem at_104_175 : am_at 104 175 = some (.ireturn, 176, 0, [1]) := rfl
set_option maxRecDepth 20000 in
theorem at_104_176 : am_at 104 176 = some (.iload_n 2, 177, 2, []) := rfl
set_option maxRecDepth 20000 in
theorem at_104_177 : am_at 104 177 = some (.ifCond .ne 16, 180, 193, []) := rfl
set_option maxRecDepth 20000 in
theorem at_104_180 : am_at 104 180 = some (.iload_n 3, 181, 3, []) := rfl
set_option maxRecDepth 20000 in
theorem at_104_181 : am_at 104 181 = some (.ifCond .ne 12, 184, 193, []) := rfl
set_option maxRecDepth 20000 in
theorem at_104_184 : am_at 104 184 = some (.iload 4, 186, 4, []) := rfl
set_option maxRecDepth 20000 in
theorem at_104_186 : am_at 104 186 = some (.ifCond .ne 7, 189, 193, []) := rfl
set_option maxRecDepth 20000 in
theorem at_104_189 : am_at 104 189 = some (.iconst 1, 190, 1, []) := rfl
set_option maxRecDepth 20000 in
theorem at_104_190 : am_at 104 190 = some (.goto 4, 193, 194, []) := rfl
set_option maxRecDepth 20000 in
theorem at_104_193 : am_at 104 193 = some (.iconst 0, 194, 0, []) := rfl
set_option maxRecDepth 20000 in
theorem at_104_194 : am_at 104 194 = some (.ireturn, 195, 0, [1]) := rfl
set_option maxRecDepth 20000 in
theorem at_104_195 : am_at 104 195 = some (.iload_n 2, 196, 2, []) := rfl
set_option maxRecDepth 20000 in
theorem at_104_196 : am_at 104 196 = some (.i2l, 197, 0, []) := rfl
set_option maxRecDepth 20000 in
theorem at_104_197 : am_at 104 197 = some (.lconst 1, 198, 1, []) := rfl
set_option maxRecDepth 20000 in
theorem at_104_198 : am_at 104 198 = some (.ldc2_w 155, 201, 255, [888]) := rfl
set_option maxRecDepth 20000 in
theorem at_104_201 : am_at 104 201 = some (.invokestatic 135, 204, 96, [0, 3, 872, 873, 60]) := rfl
set_option maxRecDepth 20000 in
theorem at_104_204 : am_at 104 204 = some (.ifCond .eq 24, 207, 228, []) := rfl
set_option maxRecDepth 20000 in
theorem at_104_207 : am_at 104 207 = some (.iload_n 3, 208, 3, []) := rfl
set_option maxRecDepth 20000 in
theorem at_104_208 : am_at 104 208 = some (.i2l, 209, 0, []) := rfl
set_option maxRecDepth 20000 in
theorem at_104_209 : am_at 104 209 = some (.lconst 0, 210, 0, []) := rfl
set_option maxRecDepth 20000 in
theorem at_104_210 : am_at 104 210 = some (.ldc2_w 155, 213, 255, [888]) := rfl
set_option maxRecDepth 20000 in
theorem at_104_213 : am_at 104 213 = some (.invokestatic 135, 216, 96, [0, 3, 872, 873, 60]) := rfl
set_option maxRecDepth 20000 in
theorem at_104_216 : am_at 104 216 = some (.ifCond .eq 12, 219, 228, []) := rfl
set_option maxRecDepth 20000 in
theorem at_104_219 : am_at 104 219 = some (.iload 4, 221, 4, []) := rfl
set_option maxRecDepth 20000 in
theorem at_104_221 : am_at 104 221 = some (.ifCond .ne 7, 224, 228, []) := rfl
set_option maxRecDepth 20000 in
theorem at_104_224 : am_at 104 224 = some (.iconst 1, 225, 1, []) := rfl
set_option maxRecDepth 20000 in
theorem at_104_225 : am_at 104 225 = some (.goto 4, 228, 229, []) := rfl
set_option maxRecDepth 20000 in
theorem at_104_228 : am_at 104 228 = some (.iconst 0, 229, 0, []) := rfl
set_option maxRecDepth 20000 in
theorem at_104_229 : am_at 104 229 = some (.ireturn, 230, 0, [1]) := rfl
set_option maxRecDepth 20000 in
theorem at_104_230 : am_at 104 230 = some (.iconst 0, 231, 0, []) := rfl
set_option maxRecDepth 20000 in
theorem at_104_231 : am_at 104 231 = some (.ireturn, 232, 0, [1]) := rfl
set_option maxRecDepth 20000 in
theorem at_105_0 : am_at 105 0 = some (.iload_n 1, 1, 1, []) := rfl
set_option maxRecDepth 20000 in
theorem at_105_1 : am_at 105 1 = some (.i2l, 2, 0, []) := rfl
set_option maxRecDepth 20000 in
theorem at_105_2 : am_at 105 2 = some (.lconst 0, 3, 0, []) := rfl
set_option maxRecDepth 20000 in
theorem at_105_3 : am_at 105 3 = some (.ldc2_w 173, 6, 3, [914]) := rfl
set_option maxRecDepth 20000 in
theorem at_105_6 : am_at 105 6 = some (.invokestatic 135, 9, 96, [0, 3, 872, 873, 60]) := rfl
set_option maxRecDepth 20000 in
theorem at_105_9 : am_at 105 9 = some (.ifCond .eq 15, 12, 24, []) := rfl
set_option maxRecDepth 20000 in
theorem at_105_12 : am_at 105 12 = some (.iload_n 2, 13, 2, []) := rfl
set_option maxRecDepth 20000 in
theorem at_105_13 : am_at 105 13 = some (.i2l, 14, 0, []) := rfl
set_option maxRecDepth 20000 in
theorem at_105_14 : am_at 105 14 = some (.lconst 0, 15, 0, []) := rfl
set_option maxRecDepth 20000 in
theorem at_105_15 : am_at 105 15 = some (.ldc2_w 161, 18, 11, [897]) := rfl
set_option maxRecDepth 20000 in
theorem at_105_18 : am_at 105 18 = some (.invokestatic 135, 21, 96, [0, 3, 872, 873, 60]) := rfl
set_option maxRecDepth 20000 in
theorem at_105_21 : am_at 105 21 = some (.ifCond .ne 24, 24, 45, []) := rfl
set_option maxRecDepth 20000 in
theorem at_105_24 : am_at 105 24 = some (.iload_n 1, 25, 1, []) := rfl
set_option maxRecDepth 20000 in
theorem at_105_25 : am_at 105 25 = some (.iconst 4, 26, 4, []) := rfl
set_option maxRecDepth 20000 in
theorem at_105_26 : am_at 105 26 = some (.if_icmp .ne 23, 29, 49, []) := rfl
set_option maxRecDepth 20000 in
theorem at_105_29 : am_at 105 29 = some (.iload_n 2, 30, 2, []) := rfl
set_option maxRecDepth 20000 in
theorem at_105_30 : am_at 105 30 = some (.ifCond .ne 19, 33, 49, []) := rfl
set_option maxRecDepth 20000 in
theorem at_105_33 : am_at 105 33 = some (.iload_n 3, 34, 3, []) := rfl
set_option maxRecDepth 20000 in
theorem at_105_34 : am_at 105 34 = some (.i2l, 35, 0, []) := rfl
set_option maxRecDepth 20000 in
theorem at_105_35 : am_at 105 35 = some (.lconst 0, 36, 0, []) := rfl
set_option maxRecDepth 20000 in
theorem at_105_36 : am_at 105 36 = some (.ldc2_w 175, 39, 7, [915]) := rfl
set_option maxRecDepth 20000 in
theorem at_105_39 : am_at 105 39 = some (.invokestatic 135, 42, 96, [0, 3, 872, 873, 60]) := rfl
set_option maxRecDepth 20000 in
theorem at_105_42 : am_at 105 42 = some (.ifCond .eq 7, 45, 49, []) := rfl
set_option maxRecDepth 20000 in
theorem at_105_45 : am_at 105 45 = some (.iconst 1, 46, 1, []) := rfl
set_option maxRecDepth 20000 in
theorem at_105_46 : am_at 105 46 = some (.goto 4, 49, 50, []) := rfl
set_option maxRecDepth 20000 in
theorem at_105_49 : am_at 105 49 = some (.iconst 0, 50, 0, []) := rfl
set_option maxRecDepth 20000 in
theorem at_105_50 : am_at 105 50 = some (.ireturn, 51, 0, [1]) := rfl
set_option maxRecDepth 20000 in
theorem at_106_0 : am_at 106 0 = some (.iload_n 0, 1, 0, []) := rfl
set_option maxRecDepth 20000 in
theorem at_106_1 : am_at 106 1 = some (.iconst 2, 2, 2, []) := rfl
set_option maxRecDepth 20000 in
theorem at_106_2 : am_at 106 2 = some (.if_icmp .eq 19, 5, 21, []) := rfl
set_option maxRecDepth 20000 in
theorem at_106_5 : am_at 106 5 = some (.iload_n 0, 6, 0, []) := rfl
set_option maxRecDepth 20000 in
theorem at_106_6 : am_at 106 6 = some (.iconst 3, 7, 3, []) := rfl
set_option maxRecDepth 20000 in
theorem at_106_7 : am_at 106 7 = some (.if_icmp .eq 14, 10, 21, []) := rfl
set_option maxRecDepth 20000 in
theorem at_106_10 : am_at 106 10 = some (.iload_n 0, 11, 0, []) := rfl
set_option maxRecDepth 20000 in
theorem at_106_11 : am_at 106 11 = some (.iconst 4, 12, 4, []) := rfl
set_option maxRecDepth 20000 in
theorem at_106_12 : am_at 106 12 = some (.if_icmp .eq 9, 15, 21, []) := rfl
set_option maxRecDepth 20000 in
theorem at_106_15 : am_at 106 15 = some (.iload_n 0, 16, 0, []) := rfl
set_option maxRecDepth 20000 in
theorem at_106_16 : am_at 106 16 = some (.bipush 7, 18, 7, []) := rfl
set_option maxRecDepth 20000 in
theorem at_106_18 : am_at 106 18 = some (.if_icmp .ne 7, 21, 25, []) := rfl
set_option maxRecDepth 20000 in
theorem at_106_21 : am_at 106 21 = some (.iload_n 1, 22, 1, []) := rfl
set_option maxRecDepth 20000 in
theorem at_106_22 : am_at 106 22 = some (.goto 25, 25, 47, []) := rfl
set_option maxRecDepth 20000 in
theorem at_106_25 : am_at 106 25 = some (.iload_n 0, 26, 0, []) := rfl
set_option maxRecDepth 20000 in
theorem at_106_26 : am_at 106 26 = some (.iconst 5, 27, 5, []) := rfl
set_option maxRecDepth 20000 in
theorem at_106_27 : am_at 106 27 = some (.if_icmp .eq 15, 30, 42, []) := rfl
set_option maxRecDepth 20000 in
theorem at_106_30 : am_at 106 30 = some (.iload_n 0, 31, 0, []) := rfl
set_option maxRecDepth 20000 in
theorem at_106_31 : am_at 106 31 = some (.bipush 6, 33, 6, []) := rfl
set_option maxRecDepth 20000 in
theorem at_106_33 : am_at 106 33 = some (.if_icmp .eq 9, 36, 42, []) := rfl
set_option maxRecDepth 20000 in
theorem at_106_36 : am_at 106 36 = some (.iload_n 0, 37, 0, []) := rfl
set_option maxRecDepth 20000 in
theorem at_106_37 : am_at 106 37 = some (.bipush 8, 39, 8, []) := rfl
set_option maxRecDepth 20000 in
theorem at_106_39 : am_at 106 39 = some (.if_icmp .ne 7, 42, 46, []) := rfl
set_option maxRecDepth 20000 in
theorem at_106_42 : am_at 106 42 = some (.iconst 1, 43, 1, []) := rfl
set_option maxRecDepth 20000 in
theorem at_106_43 : am_at 106 43 = some (.goto 4, 46, 47, []) := rfl
set_option maxRecDepth 20000 in
theorem at_106_46 : am_at 106 46 = some (.iconst 0, 47, 0, []) := rfl
set_option maxRecDepth 20000 in
theorem at_106_47 : am_at 106 47 = some (.ireturn, 48, 0, [0]) := rfl
set_option maxRecDepth 20000 in
theorem at_107_0 : am_at 107 0 = some (.aload_n 0, 1, 0, []) := rfl
set_option maxRecDepth 20000 in
theorem at_107_1 : am_at 107 1 = some (.getfield 163, 4, 0, [8, 15, 1, 725]) := rfl
set_option maxRecDepth 20000 in
theorem at_107_4 : am_at 107 4 = some (.ifCond .ne 6, 7, 10, []) := rfl
set_option maxRecDepth 20000 in
theorem at_107_7 : am_at 107 7 = some (.bipush (-2), 9, 4294967294, []) := rfl
set_option maxRecDepth 20000 in
theorem at_107_9 : am_at 107 9 = some (.ireturn, 10, 0, [0]) := rfl
set_option maxRecDepth 20000 in
theorem at_107_10 : am_at 107 10 = some (.aload_n 0, 11, 0, []) := rfl
set_option maxRecDepth 20000 in
theorem at_107_11 : am_at 107 11 = some (.iconst 0, 12, 0, []) := rfl
set_option maxRecDepth 20000 in
theorem at_107_12 : am_at 107 12 = some (.putfield 163, 15, 0, [8, 15, 1, 725]) := rfl
set_option maxRecDepth 20000 in
theorem at_107_15 : am_at 107 15 = some (.aload_n 0, 16, 0, []) := rfl
set_option maxRecDepth 20000 in
theorem at_107_16 : am_at 107 16 = some (.getfield 47, 19, 0, [8, 17, 3, 727]) := rfl
set_option maxRecDepth 20000 in
theorem at_107_19 : am_at 107 19 = some (.aload_n 0, 20, 0, []) := rfl
set_option maxRecDepth 20000 in
theorem at_107_20 : am_at 107 20 = some (.getfield 167, 23, 0, [8, 14, 0, 724]) := rfl
set_option maxRecDepth 20000 in
theorem at_107_23 : am_at 107 23 = some (.iaload, 24, 0, []) := rfl
set_option maxRecDepth 20000 in
theorem at_107_24 : am_at 107 24 = some (.ireturn, 25, 0, [0]) := rfl
set_option maxRecDepth 20000 in
theorem at_108_0 : am_at 108 0 = some (.aload_n 0, 1, 0, []) := rfl
set_option maxRecDepth 20000 in
theorem at_108_1 : am_at 108 1 = some (.getfield 148, 4, 0, [8, 25, 0, 735]) := rfl
set_option maxRecDepth 20000 in
theorem at_108_4 : am_at 108 4 = some (.bipush 6, 6, 6, []) := rfl
set_option maxRecDepth 20000 in
theorem at_108_6 : am_at 108 6 = some (.if_icmp .ne 6, 9, 12, []) := rfl
set_option maxRecDepth 20000 in
theorem at_108_9 : am_at 108 9 = some (.bipush (-3), 11, 4294967293, []) := rfl
set_option maxRecDepth 20000 in
theorem at_108_11 : am_at 108 11 = some (.ireturn, 12, 0, [0]) := rfl
set_option maxRecDepth 20000 in
theorem at_108_12 : am_at 108 12 = some (.aload_n 0, 13, 0, []) := rfl
set_option maxRecDepth 20000 in
theorem at_108_13 : am_at 108 13 = some (.getfield 71, 16, 0, [8, 26, 3, 736]) := rfl
set_option maxRecDepth 20000 in
theorem at_108_16 : am_at 108 16 = some (.aload_n 0, 17, 0, []) := rfl
set_option maxRecDepth 20000 in
theorem at_108_17 : am_at 108 17 = some (.getfield 148, 20, 0, [8, 25, 0, 735]) := rfl
set_option maxRecDepth 20000 in
theorem at_108_20 : am_at 108 20 = some (.bipush (-4), 22, 4294967292, []) := rfl
set_option maxRecDepth 20000 in
theorem at_108_22 : am_at 108 22 = some (.iastore, 23, 0, []) := rfl
set_option maxRecDepth 20000 in
theorem at_108_23 : am_at 108 23 = some (.aload_n 0, 24, 0, []) := rfl
set_option maxRecDepth 20000 in
theorem at_108_24 : am_at 108 24 = some (.getfield 74, 27, 0, [8, 27, 3, 737]) := rfl
set_option maxRecDepth 20000 in
theorem at_108_27 : am_at 108 27 = some (.bipush 8, 29, 8, []) := rfl
set_option maxRecDepth 20000 in
theorem at_108_29 : am_at 108 29 = some (.aload_n 0, 30, 0, []) := rfl
set_option maxRecDepth 20000 in
theorem at_108_30 : am_at 108 30 = some (.getfield 148, 33, 0, [8, 25, 0, 735]) := rfl
set_option maxRecDepth 20000 in
theorem at_108_33 : am_at 108 33 = some (.imul, 34, 0, []) := rfl
set_option maxRecDepth 20000 in
theorem at_108_34 : am_at 108 34 = some (.bipush 6, 36, 6, []) := rfl
set_option maxRecDepth 20000 in
theorem at_108_36 : am_at 108 36 = some (.iadd, 37, 0, []) := rfl
set_option maxRecDepth 20000 in
theorem at_108_37 : am_at 108 37 = some (.bipush (-4), 39, 4294967292, []) := rfl
set_option maxRecDepth 20000 in
theorem at_108_39 : am_at 108 39 = some (.iastore, 40, 0, []) := rfl
set_option maxRecDepth 20000 in
theorem at_108_40 : am_at 108 40 = some (.aload_n 0, 41, 0, []) := rfl
set_option maxRecDepth 20000 in
theorem at_108_41 : am_at 108 41 = some (.dup, 42, 0, []) := rfl
set_option maxRecDepth 20000 in
theorem at_108_42 : am_at 108 42 = some (.getfield 148, 45, 0, [8, 25, 0, 735]) := rfl
set_option maxRecDepth 20000 in
theorem at_108_45 : am_at 108 45 = some (.iconst 1, 46, 1, []) := rfl
set_option maxRecDepth 20000 in
theorem at_108_46 : am_at 108 46 = some (.iadd, 47, 0, []) := rfl
set_option maxRecDepth 20000 in
theorem at_108_47 : am_at 108 47 = some (.putfield 148, 50, 0, [8, 25, 0, 735]) := rfl
set_option maxRecDepth 20000 in
theorem at_108_50 : am_at 108 50 = some (.aload_n 0, 51, 0, []) := rfl
set_option maxRecDepth 20000 in
theorem at_108_51 : am_at 108 51 = some (.getfield 148, 54, 0, [8, 25, 0, 735]) := rfl
set_option maxRecDepth 20000 in
theorem at_108_54 : am_at 108 54 = some (.iconst 1, 55, 1, []) := rfl
set_option maxRecDepth 20000 in
theorem at_108_55 : am_at 108 55 = some (.isub, 56, 0, []) := rfl
set_option maxRecDepth 20000 in
theorem at_108_56 : am_at 108 56 = some (.ireturn, 57, 0, [0]) := rfl
set_option maxRecDepth 20000 in
theorem at_109_0 : am_at 109 0 = some (.aload_n 0, 1, 0, []) := rfl
set_option maxRecDepth 20000 in
theorem at_109_1 : am_at 109 1 = some (.iload_n 1, 2, 1, []) := rfl
set_option maxRecDepth 20000 in
theorem at_109_2 : am_at 109 2 = some (.invokevirtual 200, 5, 110, [0, 1, 8, 933, 935, 32, 60]) := rfl
set_option maxRecDepth 20000 in
theorem at_109_5 : am_at 109 5 = some (.ifCond .eq 25, 8, 30, []) := rfl
set_option maxRecDepth 20000 in
theorem at_109_8 : am_at 109 8 = some (.iload_n 2, 9, 2, []) := rfl
set_option maxRecDepth 20000 in
theorem at_109_9 : am_at 109 9 = some (.bipush (-4), 11, 4294967292, []) := rfl
set_option maxRecDepth 20000 in
theorem at_109_11 : am_at 109 11 = some (.if_icmp .eq 21, 14, 32, []) := rfl
set_option maxRecDepth 20000 in
theorem at_109_14 : am_at 109 14 = some (.iload_n 2, 15, 2, []) := rfl
set_option maxRecDepth 20000 in
theorem at_109_15 : am_at 109 15 = some (.i2l, 16, 0, []) := rfl
set_option maxRecDepth 20000 in
theorem at_109_16 : am_at 109 16 = some (.lconst 0, 17, 0, []) := rfl
set_option maxRecDepth 20000 in
theorem at_109_17 : am_at 109 17 = some (.aload_n 0, 18, 0, []) := rfl
set_option maxRecDepth 20000 in
theorem at_109_18 : am_at 109 18 = some (.getfield 167, 21, 0, [8, 14, 0, 724]) := rfl
set_option maxRecDepth 20000 in
theorem at_109_21 : am_at 109 21 = some (.iconst 1, 22, 1, []) := rfl
set_option maxRecDepth 20000 in
theorem at_109_22 : am_at 109 22 = some (.isub, 23, 0, []) := rfl
set_option maxRecDepth 20000 in
theorem at_109_23 : am_at 109 23 = some (.i2l, 24, 0, []) := rfl
set_option maxRecDepth 20000 in
theorem at_109_24 : am_at 109 24 = some (.invokestatic 135, 27, 96, [0, 3, 872, 873, 60]) := rfl
set_option maxRecDepth 20000 in
theorem at_109_27 : am_at 109 27 = some (.ifCond .ne 5, 30, 32, []) := rfl
set_option maxRecDepth 20000 in
theorem at_109_30 : am_at 109 30 = some (.iconst (-1), 31, 4294967295, []) := rfl
set_option maxRecDepth 20000 in
theorem at_109_31 : am_at 109 31 = some (.ireturn, 32, 0, [0]) := rfl
set_option maxRecDepth 20000 in
theorem at_109_32 : am_at 109 32 = some (.iconst 0, 33, 0, []) := rfl
set_option maxRecDepth 20000 in
theorem at_109_33 : am_at 109 33 = some (.istore_n 3, 34, 3, []) := rfl
set_option maxRecDepth 20000 in
theorem at_109_34 : am_at 109 34 = some (.aload_n 0, 35, 0, []) := rfl
set_option maxRecDepth 20000 in
theorem at_109_35 : am_at 109 35 = some (.getfield 71, 38, 0, [8, 26, 3, 736]) := rfl
set_option maxRecDepth 20000 in
theorem at_109_38 : am_at 109 38 = some (.iload_n 1, 39, 1, []) := rfl
set_option maxRecDepth 20000 in
theorem at_109_39 : am_at 109 39 = some (.iaload, 40, 0, []) := rfl
set_option maxRecDepth 20000 in
theorem at_109_40 : am_at 109 40 = some (.istore 4, 42, 4, []) := rfl
set_option maxRecDepth 20000 in
theorem at_109_42 : am_at 109 42 = some (.iconst 0, 43, 0, []) := rfl
set_option maxRecDepth 20000 in
theorem at_109_43 : am_at 109 43 = some (.istore 5, 45, 5, []) := rfl
set_option maxRecDepth 20000 in
theorem at_109_45 : am_at 109 45 = some (.iload 4, 47, 4, []) := rfl
set_option maxRecDepth 20000 in
theorem at_109_47 : am_at 109 47 = some (.bipush (-4), 49, 4294967292, []) := rfl
set_option maxRecDepth 20000 in
theorem at_109_49 : am_at 109 49 = some (.if_icmp .eq 46, 52, 95, []) := rfl
set_option maxRecDepth 20000 in
theorem at_109_52 : am_at 109 52 = some (.iload 5, 54, 5, []) := rfl
set_option maxRecDepth 20000 in
theorem at_109_54 : am_at 109 54 = some (.aload_n 0, 55, 0, []) := rfl
set_option maxRecDepth 20000 in
theorem at_109_55 : am_at 109 55 = some (.getfield 47, 58, 0, [8, 17, 3, 727]) := rfl
set_option maxRecDepth 20000 in
theorem at_109_58 : am_at 109 58 = some (.iload 4, 60, 4, []) := rfl
set_option maxRecDepth 20000 in
theorem at_109_60 : am_at 109 60 = some (.iaload, 61, 0, []) := rfl
set_option maxRecDepth 20000 in
theorem at_109_61 : am_at 109 61 = some (.if_icmp .ge 34, 64, 95, []) := rfl
set_option maxRecDepth 20000 in
theorem at_109_64 : am_at 109 64 = some (.aload_n 0, 65, 0, []) := rfl
set_option maxRecDepth 20000 in
theorem at_109_65 : am_at 109 65 = some (.getfield 83, 68, 0, [8, 30, 3, 740]) := rfl
set_option maxRecDepth 20000 in
theorem at_109_68 : am_at 109 68 = some (.bipush 30, 70, 30, []) := rfl
set_option maxRecDepth 20000 in
theorem at_109_70 : am_at 109 70 = some (.iload_n 1, 71, 1, []) := rfl
set_option maxRecDepth 20000 in
theorem at_109_71 : am_at 109 71 = some (.imul, 72, 0, []) := rfl
set_option maxRecDepth 20000 in
theorem at_109_72 : am_at 109 72 = some (.iload 5, 74, 5, []) := rfl
set_option maxRecDepth 20000 in
theorem at_109_74 : am_at 109 74 = some (.iadd, 75, 0, []) := rfl
set_option maxRecDepth 20000 in
theorem at_109_75 : am_at 109 75 = some (.baload, 76, 0, []) := rfl
set_option maxRecDepth 20000 in
theorem at_109_76 : am_at 109 76 = some (.ifCond .eq 13, 79, 89, []) := rfl
set_option maxRecDepth 20000 in
theorem at_109_79 : am_at 109 79 = some (.aload_n 0, 80, 0, []) := rfl
set_option maxRecDepth 20000 in
theorem at_109_80 : am_at 109 80 = some (.iload_n 1, 81, 1, []) := rfl
set_option maxRecDepth 20000 in
theorem at_109_81 : am_at 109 81 = some (.iload 5, 83, 5, []) := rfl
set_option maxRecDepth 20000 in
theorem at_109_83 : am_at 109 83 = some (.invokevirtual 203, 86, 111, [0, 2, 8, 937, 939, 33, 60]) := rfl
set_option maxRecDepth 20000 in
theorem at_109_86 : am_at 109 86 = some (.iinc 3 1, 89, 3, []) := rfl
set_option maxRecDepth 20000 in
theorem at_109_89 : am_at 109 89 = some (.iinc 5 1, 92, 5, []) := rfl
set_option maxRecDepth 20000 in
theorem at_109_92 : am_at 109 92 = some (.goto (-47), 95, 45, []) := rfl
set_option maxRecDepth 20000 in
theorem at_109_95 : am_at 109 95 = some (.aload_n 0, 96, 0, []) := rfl
set_option maxRecDepth 20000 in
theorem at_109_96 : am_at 109 96 = some (.getfield 71, 99, 0, [8, 26, 3, 736]) := rfl
set_option maxRecDepth 20000 in
theorem at_109_99 : am_at 109 99 = some (.iload_n 1, 100, 1, []) := rfl
set_option maxRecDepth 20000 in
theorem at_109_100 : am_at 109 100 = some (.iload_n 2, 101, 2, []) := rfl
set_option maxRecDepth 20000 in
theorem at_109_101 : am_at 109 101 = some (.iastore, 102, 0, []) := rfl
set_option maxRecDepth 20000 in
theorem at_109_102 : am_at 109 102 = some (.bipush 30, 104, 30, []) := rfl
set_option maxRecDepth 20000 in
theorem at_109_104 : am_at 109 104 = some (.iload_n 1, 105, 1, []) := rfl
set_option maxRecDepth 20000 in
theorem at_109_105 : am_at 109 105 = some (.imul, 106, 0, []) := rfl
set_option maxRecDepth 20000 in
theorem at_109_106 : am_at 109 106 = some (.istore 5, 108, 5, []) := rfl
set_option maxRecDepth 20000 in
theorem at_109_108 : am_at 109 108 = some (.iload 5, 110, 5, []) := rfl
set_option maxRecDepth 20000 in
theorem at_109_110 : am_at 109 110 = some (.bipush 30, 112, 30, []) := rfl
set_option maxRecDepth 20000 in
theorem at_109_112 : am_at 109 112 = some (.iload_n 1, 113, 1, []) := rfl
set_option maxRecDepth 20000 in
theorem at_109_113 : am_at 109 113 = some (.imul, 114, 0, []) := rfl
set_option maxRecDepth 20000 in
theorem at_109_114 : am_at 109 114 = some (.bipush 30, 116, 30, []) := rfl
set_option maxRecDepth 20000 in
theorem at_109_116 : am_at 109 116 = some (.iadd, 117, 0, []) := rfl
set_option maxRecDepth 20000 in
theorem at_109_117 : am_at 109 117 = some (.if_icmp .ge 57, 120, 174, []) := rfl
set_option maxRecDepth 20000 in
theorem at_109_120 : am_at 109 120 = some (.aload_n 0, 121, 0, []) := rfl
set_option maxRecDepth 20000 in
theorem at_109_121 : am_at 109 121 = some (.getfield 77, 124, 0, [8, 28, 3, 738]) := rfl
set_option maxRecDepth 20000 in
theorem at_109_124 : am_at 109 124 = some (.iload 5, 126, 5, []) := rfl
set_option maxRecDepth 20000 in
theorem at_109_126 : am_at 109 126 = some (.iconst 0, 127, 0, []) := rfl
set_option maxRecDepth 20000 in
theorem at_109_127 : am_at 109 127 = some (.iastore, 128, 0, []) := rfl
set_option maxRecDepth 20000 in
theorem at_109_128 : am_at 109 128 = some (.aload_n 0, 129, 0, []) := rfl
set_option maxRecDepth 20000 in
theorem at_109_129 : am_at 109 129 = some (.getfield 80, 132, 0, [8, 29, 3, 739]) := rfl
set_option maxRecDepth 20000 in
theorem at_109_132 : am_at 109 132 = some (.iload 5, 134, 5, []) := rfl
set_option maxRecDepth 20000 in
theorem at_109_134 : am_at 109 134 = some (.iconst 0, 135, 0, []) := rfl
set_option maxRecDepth 20000 in
theorem at_109_135 : am_at 109 135 = some (.iastore, 136, 0, []) := rfl
set_option maxRecDepth 20000 in
theorem at_109_136 : am_at 109 136 = some (.aload_n 0, 137, 0, []) := rfl
set_option maxRecDepth 20000 in
theorem at_109_137 : am_at 109 137 = some (.getfield 83, 140, 0, [8, 30, 3, 740]) := rfl
set_option maxRecDepth 20000 in
theorem at_109_140 : am_at 109 140 = some (.iload 5, 142, 5, []) := rfl
set_option maxRecDepth 20000 in
theorem at_109_142 : am_at 109 142 = some (.iconst 0, 143, 0, []) := rfl
set_option maxRecDepth 20000 in
theorem at_109_143 : am_at 109 143 = some (.bastore, 144, 0, []) := rfl
set_option maxRecDepth 20000 in
theorem at_109_144 : am_at 109 144 = some (.aload_n 0, 145, 0, []) := rfl
set_option maxRecDepth 20000 in
theorem at_109_145 : am_at 109 145 = some (.getfield 87, 148, 0, [8, 31, 3, 741]) := rfl
set_option maxRecDepth 20000 in
theorem at_109_148 : am_at 109 148 = some (.iload 5, 150, 5, []) := rfl
set_option maxRecDepth 20000 in
theorem at_109_150 : am_at 109 150 = some (.iconst 0, 151, 0, []) := rfl
set_option maxRecDepth 20000 in
theorem at_109_151 : am_at 109 151 = some (.iastore, 152, 0, []) := rfl
set_option maxRecDepth 20000 in
theorem at_109_152 : am_at 109 152 = some (.aload_n 0, 153, 0, []) := rfl
set_option maxRecDepth 20000 in
theorem at_109_153 : am_at 109 153 = some (.getfield 90, 156, 0, [8, 32, 3, 742]) := rfl
set_option maxRecDepth 20000 in
theorem at_109_156 : am_at 109 156 = some (.iload 5, 158, 5, []) := rfl
set_option maxRecDepth 20000 in
theorem at_109_158 : am_at 109 158 = some (.iconst 0, 159, 0, []) := rfl
set_option maxRecDepth 20000 in
theorem at_109_159 : am_at 109 159 = some (.iastore, 160, 0, []) := rfl
set_option maxRecDepth 20000 in
theorem at_109_160 : am_at 109 160 = some (.aload_n 0, 161, 0, []) := rfl
set_option maxRecDepth 20000 in
theorem at_109_161 : am_at 109 161 = some (.getfield 93, 164, 0, [8, 33, 3, 743]) := rfl
set_option maxRecDepth 20000 in
theorem at_109_164 : am_at 109 164 = some (.iload 5, 166, 5, []) := rfl
set_option maxRecDepth 20000 in
theorem at_109_166 : am_at 109 166 = some (.iconst 0, 167, 0, []) := rfl
set_option maxRecDepth 20000 in
theorem at_109_167 : am_at 109 167 = some (.iastore, 168, 0, []) := rfl
set_option maxRecDepth 20000 in
theorem at_109_168 : am_at 109 168 = some (.iinc 5 1, 171, 5, []) := rfl
set_option maxRecDepth 20000 in
theorem at_109_171 : am_at 109 171 = some (.goto (-63), 174, 108, []) := rfl
set_option maxRecDepth 20000 in
theorem at_109_174 : am_at 109 174 = some (.iload_n 3, 175, 3, []) := rfl
set_option maxRecDepth 20000 in
theorem at_109_175 : am_at 109 175 = some (.ireturn, 176, 0, [0]) := rfl
set_option maxRecDepth 20000 in
theorem at_110_0 : am_at 110 0 = some (.iload_n 1, 1, 1, []) := rfl
set_option maxRecDepth 20000 in
theorem at_110_1 : am_at 110 1 = some (.i2l, 2, 0, []) := rfl
set_option maxRecDepth 20000 in
theorem at_110_2 : am_at 110 2 = some (.lconst 0, 3, 0, []) := rfl
set_option maxRecDepth 20000 in
theorem at_110_3 : am_at 110 3 = some (.aload_n 0, 4, 0, []) := rfl
set_option maxRecDepth 20000 in
theorem at_110_4 : am_at 110 4 = some (.getfield 148, 7, 0, [8, 25, 0, 735]) := rfl
set_option maxRecDepth 20000 in
theorem at_110_7 : am_at 110 7 = some (.iconst 1, 8, 1, []) := rfl
set_option maxRecDepth 20000 in
theorem at_110_8 : am_at 110 8 = some (.isub, 9, 0, []) := rfl
set_option maxRecDepth 20000 in
theorem at_110_9 : am_at 110 9 = some (.i2l, 10, 0, []) := rfl
set_option maxRecDepth 20000 in
theorem at_110_10 : am_at 110 10 = some (.invokestatic 135, 13, 96, [0, 3, 872, 873, 60]) := rfl
set_option maxRecDepth 20000 in
theorem at_110_13 : am_at 110 13 = some (.ireturn, 14, 0, [1]) := rfl
set_option maxRecDepth 20000 in
theorem at_111_0 : am_at 111 0 = some (.bipush 30, 2, 30, []) := rfl
set_option maxRecDepth 20000 in
theorem at_111_2 : am_at 111 2 = some (.iload_n 1, 3, 1, []) := rfl
set_option maxRecDepth 20000 in
theorem at_111_3 : am_at 111 3 = some (.imul, 4, 0, []) := rfl
set_option maxRecDepth 20000 in
theorem at_111_4 : am_at 111 4 = some (.iload_n 2, 5, 2, []) := rfl
set_option maxRecDepth 20000 in
theorem at_111_5 : am_at 111 5 = some (.iadd, 6, 0, []) := rfl
set_option maxRecDepth 20000 in
theorem at_111_6 : am_at 111 6 = some (.istore_n 3, 7, 3, []) := rfl
set_option maxRecDepth 20000 in
theorem at_111_7 : am_at 111 7 = some (.aload_n 0, 8, 0, []) := rfl
set_option maxRecDepth 20000 in
theorem at_111_8 : am_at 111 8 = some (.iload_n 1, 9, 1, []) := rfl
set_option maxRecDepth 20000 in
theorem at_111_9 : am_at 111 9 = some (.iload_n 2, 10, 2, []) := rfl
set_option maxRecDepth 20000 in
theorem at_111_10 : am_at 111 10 = some (.invokevirtual 193, 13, 112, [0, 2, 8, 941, 943, 34, 60]) := rfl
set_option maxRecDepth 20000 in
theorem at_111_13 : am_at 111 13 = some (.istore 4, 15, 4, []) := rfl
set_option maxRecDepth 20000 in
theorem at_111_15 : am_at 111 15 = some (.aload_n 0, 16, 0, []) := rfl
set_option maxRecDepth 20000 in
theorem at_111_16 : am_at 111 16 = some (.aload_n 0, 17, 0, []) := rfl
set_option maxRecDepth 20000 in
theorem at_111_17 : am_at 111 17 = some (.getfield 38, 20, 0, [8, 11, 3, 721]) := rfl
set_option maxRecDepth 20000 in
theorem at_111_20 : am_at 111 20 = some (.iload 4, 22, 4, []) := rfl
set_option maxRecDepth 20000 in
theorem at_111_22 : am_at 111 22 = some (.iaload, 23, 0, []) := rfl
set_option maxRecDepth 20000 in
theorem at_111_23 : am_at 111 23 = some (.aload_n 0, 24, 0, []) := rfl
set_option maxRecDepth 20000 in
theorem at_111_24 : am_at 111 24 = some (.getfield 44, 27, 0, [8, 13, 3, 723]) := rfl
set_option maxRecDepth 20000 in
theorem at_111_27 : am_at 111 27 = some (.iload 4, 29, 4, []) := rfl
set_option maxRecDepth 20000 in
theorem at_111_29 : am_at 111 29 = some (.iaload, 30, 0, []) := rfl
set_option maxRecDepth 20000 in
theorem at_111_30 : am_at 111 30 = some (.invokevirtual 196, 33, 113, [0, 2, 8, 945, 947, 35, 60]) := rfl
set_option maxRecDepth 20000 in
theorem at_111_33 : am_at 111 33 = some (.aload_n 0, 34, 0, []) := rfl
set_option maxRecDepth 20000 in
theorem at_111_34 : am_at 111 34 = some (.getfield 83, 37, 0, [8, 30, 3, 740]) := rfl
set_option maxRecDepth 20000 in
theorem at_111_37 : am_at 111 37 = some (.iload_n 3, 38, 3, []) := rfl
set_option maxRecDepth 20000 in
theorem at_111_38 : am_at 111 38 = some (.iconst 0, 39, 0, []) := rfl
set_option maxRecDepth 20000 in
theorem at_111_39 : am_at 111 39 = some (.bastore, 40, 0, []) := rfl
set_option maxRecDepth 20000 in
theorem at_111_40 : am_at 111 40 = some (.aload_n 0, 41, 0, []) := rfl
set_option maxRecDepth 20000 in
theorem at_111_41 : am_at 111 41 = some (.getfield 74, 44, 0, [8, 27, 3, 737]) := rfl
set_option maxRecDepth 20000 in
theorem at_111_44 : am_at 111 44 = some (.bipush 8, 46, 8, []) := rfl
set_option maxRecDepth 20000 in
theorem at_111_46 : am_at 111 46 = some (.iload_n 1, 47, 1, []) := rfl
set_option maxRecDepth 20000 in
theorem at_111_47 : am_at 111 47 = some (.imul, 48, 0, []) := rfl
set_option maxRecDepth 20000 in
theorem at_111_48 : am_at 111 48 = some (.iconst 2, 49, 2, []) := rfl
set_option maxRecDepth 20000 in
theorem at_111_49 : am_at 111 49 = some (.iadd, 50, 0, []) := rfl
set_option maxRecDepth 20000 in
theorem at_111_50 : am_at 111 50 = some (.dup2, 51, 0, []) := rfl
set_option maxRecDepth 20000 in
theorem at_111_51 : am_at 111 51 = some (.iaload, 52, 0, []) := rfl
set_option maxRecDepth 20000 in
theorem at_111_52 : am_at 111 52 = some (.iconst 1, 53, 1, []) := rfl
set_option maxRecDepth 20000 in
theorem at_111_53 : am_at 111 53 = some (.iadd, 54, 0, []) := rfl
set_option maxRecDepth 20000 in
theorem at_111_54 : am_at 111 54 = some (.iastore, 55, 0, []) := rfl
set_option maxRecDepth 20000 in
theorem at_111_55 : am_at 111 55 = some (.aload_n 0, 56, 0, []) := rfl
set_option maxRecDepth 20000 in
theorem at_111_56 : am_at 111 56 = some (.getfield 50, 59, 0, [8, 18, 3, 728]) := rfl
set_option maxRecDepth 20000 in
theorem at_111_59 : am_at 111 59 = some (.bipush 30, 61, 30, []) := rfl
set_option maxRecDepth 20000 in
theorem at_111_61 : am_at 111 61 = some (.aload_n 0, 62, 0, []) := rfl
set_option maxRecDepth 20000 in
theorem at_111_62 : am_at 111 62 = some (.getfield 71, 65, 0, [8, 26, 3, 736]) := rfl
set_option maxRecDepth 20000 in
theorem at_111_65 : am_at 111 65 = some (.iload_n 1, 66, 1, []) := rfl
set_option maxRecDepth 20000 in
theorem at_111_66 : am_at 111 66 = some (.iaload, 67, 0, []) := rfl
set_option maxRecDepth 20000 in
theorem at_111_67 : am_at 111 67 = some (.imul, 68, 0, []) := rfl
set_option maxRecDepth 20000 in
theorem at_111_68 : am_at 111 68 = some (.iload_n 2, 69, 2, []) := rfl
set_option maxRecDepth 20000 in
theorem at_111_69 : am_at 111 69 = some (.iadd, 70, 0, []) := rfl
set_option maxRecDepth 20000 in
theorem at_111_70 : am_at 111 70 = some (.iaload, 71, 0, []) := rfl
set_option maxRecDepth 20000 in
theorem at_111_71 : am_at 111 71 = some (.bipush 9, 73, 9, []) := rfl
set_option maxRecDepth 20000 in
theorem at_111_73 : am_at 111 73 = some (.if_icmp .ne 10, 76, 83, []) := rfl
set_option maxRecDepth 20000 in
theorem at_111_76 : am_at 111 76 = some (.aload_n 0, 77, 0, []) := rfl
set_option maxRecDepth 20000 in
theorem at_111_77 : am_at 111 77 = some (.getfield 93, 80, 0, [8, 33, 3, 743]) := rfl
set_option maxRecDepth 20000 in
theorem at_111_80 : am_at 111 80 = some (.iload_n 3, 81, 3, []) := rfl
set_option maxRecDepth 20000 in
theorem at_111_81 : am_at 111 81 = some (.iconst 0, 82, 0, []) := rfl
set_option maxRecDepth 20000 in
theorem at_111_82 : am_at 111 82 = some (.iastore, 83, 0, []) := rfl
set_option maxRecDepth 20000 in
theorem at_111_83 : am_at 111 83 = some (.return_, 84, 0, []) := rfl
set_option maxRecDepth 20000 in
theorem at_112_0 : am_at 112 0 = some (.bipush 30, 2, 30, []) := rfl
set_option maxRecDepth 20000 in
theorem at_112_2 : am_at 112 2 = some (.aload_n 0, 3, 0, []) := rfl
set_option maxRecDepth 20000 in
theorem at_112_3 : am_at 112 3 = some (.getfield 71, 6, 0, [8, 26, 3, 736]) := rfl
set_option maxRecDepth 20000 in
theorem at_112_6 : am_at 112 6 = some (.iload_n 1, 7, 1, []) := rfl
set_option maxRecDepth 20000 in
theorem at_112_7 : am_at 112 7 = some (.iaload, 8, 0, []) := rfl
set_option maxRecDepth 20000 in
theorem at_112_8 : am_at 112 8 = some (.imul, 9, 0, []) := rfl
set_option maxRecDepth 20000 in
theorem at_112_9 : am_at 112 9 = some (.iload_n 2, 10, 2, []) := rfl
set_option maxRecDepth 20000 in
theorem at_112_10 : am_at 112 10 = some (.iadd, 11, 0, []) := rfl
set_option maxRecDepth 20000 in
theorem at_112_11 : am_at 112 11 = some (.istore_n 3, 12, 3, []) := rfl
set_option maxRecDepth 20000 in
theorem at_112_12 : am_at 112 12 = some (.bipush 30, 14, 30, []) := rfl
set_option maxRecDepth 20000 in
theorem at_112_14 : am_at 112 14 = some (.iload_n 1, 15, 1, []) := rfl
set_option maxRecDepth 20000 in
theorem at_112_15 : am_at 112 15 = some (.imul, 16, 0, []) := rfl
set_option maxRecDepth 20000 in
theorem at_112_16 : am_at 112 16 = some (.iload_n 2, 17, 2, []) := rfl
set_option maxRecDepth 20000 in
theorem at_112_17 : am_at 112 17 = some (.iadd, 18, 0, []) := rfl
set_option maxRecDepth 20000 in
theorem at_112_18 : am_at 112 18 = some (.istore 4, 20, 4, []) := rfl
set_option maxRecDepth 20000 in
theorem at_112_20 : am_at 112 20 = some (.aload_n 0, 21, 0, []) := rfl
set_option maxRecDepth 20000 in
theorem at_112_21 : am_at 112 21 = some (.getfield 50, 24, 0, [8, 18, 3, 728]) := rfl
set_option maxRecDepth 20000 in
theorem at_112_24 : am_at 112 24 = some (.iload_n 3, 25, 3, []) := rfl
set_option maxRecDepth 20000 in
theorem at_112_25 : am_at 112 25 = some (.iaload, 26, 0, []) := rfl
set_option maxRecDepth 20000 in
theorem at_112_26 : am_at 112 26 = some (.bipush 9, 28, 9, []) := rfl
set_option maxRecDepth 20000 in
theorem at_112_28 : am_at 112 28 = some (.if_icmp .ne 24, 31, 52, []) := rfl
set_option maxRecDepth 20000 in
theorem at_112_31 : am_at 112 31 = some (.aload_n 0, 32, 0, []) := rfl
set_option maxRecDepth 20000 in
theorem at_112_32 : am_at 112 32 = some (.getfield 96, 35, 0, [8, 34, 3, 744]) := rfl
set_option maxRecDepth 20000 in
theorem at_112_35 : am_at 112 35 = some (.bipush 12, 37, 12, []) := rfl
set_option maxRecDepth 20000 in
theorem at_112_37 : am_at 112 37 = some (.iload 4, 39, 4, []) := rfl
set_option maxRecDepth 20000 in
theorem at_112_39 : am_at 112 39 = some (.imul, 40, 0, []) := rfl
set_option maxRecDepth 20000 in
theorem at_112_40 : am_at 112 40 = some (.aload_n 0, 41, 0, []) := rfl
set_option maxRecDepth 20000 in
theorem at_112_41 : am_at 112 41 = some (.getfield 90, 44, 0, [8, 32, 3, 742]) := rfl
set_option maxRecDepth 20000 in
theorem at_112_44 : am_at 112 44 = some (.iload 4, 46, 4, []) := rfl
set_option maxRecDepth 20000 in
theorem at_112_46 : am_at 112 46 = some (.iaload, 47, 0, []) := rfl
set_option maxRecDepth 20000 in
theorem at_112_47 : am_at 112 47 = some (.iadd, 48, 0, []) := rfl
set_option maxRecDepth 20000 in
theorem at_112_48 : am_at 112 48 = some (.iaload, 49, 0, []) := rfl
set_option maxRecDepth 20000 in
theorem at_112_49 : am_at 112 49 = some (.goto 9, 52, 58, []) := rfl
set_option maxRecDepth 20000 in
theorem at_112_52 : am_at 112 52 = some (.aload_n 0, 53, 0, []) := rfl
set_option maxRecDepth 20000 in
theorem at_112_53 : am_at 112 53 = some (.getfield 53, 56, 0, [8, 19, 3, 729]) := rfl
set_option maxRecDepth 20000 in
theorem at_112_56 : am_at 112 56 = some (.iload_n 3, 57, 3, []) := rfl
set_option maxRecDepth 20000 in
theorem at_112_57 : am_at 112 57 = some (.iaload, 58, 0, []) := rfl
set_option maxRecDepth 20000 in
theorem at_112_58 : am_at 112 58 = some (.ireturn, 59, 0, [0]) := rfl
set_option maxRecDepth 20000 in
theorem at_113_0 : am_at 113 0 = some (.iload_n 1, 1, 1, []) := rfl
set_option maxRecDepth 20000 in
theorem at_113_1 : am_at 113 1 = some (.bipush (-4), 3, 4294967292, []) := rfl
set_option maxRecDepth 20000 in
theorem at_113_3 : am_at 113 3 = some (.if_icmp .ne 4, 6, 7, []) := rfl
set_option maxRecDepth 20000 in
theorem at_113_6 : am_at 113 6 = some (.return_, 7, 0, []) := rfl
set_option maxRecDepth 20000 in
theorem at_113_7 : am_at 113 7 = some (.aload_n 0, 8, 0, []) := rfl
set_option maxRecDepth 20000 in
theorem at_113_8 : am_at 113 8 = some (.getfield 7, 11, 0, [8, 1, 3, 711]) := rfl
set_option maxRecDepth 20000 in
theorem at_113_11 : am_at 113 11 = some (.iload_n 1, 12, 1, []) := rfl
set_option maxRecDepth 20000 in
theorem at_113_12 : am_at 113 12 = some (.iaload, 13, 0, []) := rfl
set_option maxRecDepth 20000 in
theorem at_113_13 : am_at 113 13 = some (.ifCond .ne 21, 16, 34, []) := rfl
set_option maxRecDepth 20000 in
theorem at_113_16 : am_at 113 16 = some (.aload_n 0, 17, 0, []) := rfl
set_option maxRecDepth 20000 in
theorem at_113_17 : am_at 113 17 = some (.getfield 7, 20, 0, [8, 1, 3, 711]) := rfl
set_option maxRecDepth 20000 in
theorem at_113_20 : am_at 113 20 = some (.iload_n 1, 21, 1, []) := rfl
set_option maxRecDepth 20000 in
theorem at_113_21 : am_at 113 21 = some (.iconst 1, 22, 1, []) := rfl
set_option maxRecDepth 20000 in
theorem at_113_22 : am_at 113 22 = some (.iastore, 23, 0, []) := rfl
set_option maxRecDepth 20000 in
theorem at_113_23 : am_at 113 23 = some (.aload_n 0, 24, 0, []) := rfl
set_option maxRecDepth 20000 in
theorem at_113_24 : am_at 113 24 = some (.getfield 13, 27, 0, [8, 2, 3, 712]) := rfl
set_option maxRecDepth 20000 in
theorem at_113_27 : am_at 113 27 = some (.iload_n 1, 28, 1, []) := rfl
set_option maxRecDepth 20000 in
theorem at_113_28 : am_at 113 28 = some (.iload_n 2, 29, 2, []) := rfl
set_option maxRecDepth 20000 in
theorem at_113_29 : am_at 113 29 = some (.i2l, 30, 0, []) := rfl
set_option maxRecDepth 20000 in
theorem at_113_30 : am_at 113 30 = some (.lastore, 31, 0, []) := rfl
set_option maxRecDepth 20000 in
theorem at_113_31 : am_at 113 31 = some (.goto 24, 34, 55, []) := rfl
set_option maxRecDepth 20000 in
theorem at_113_34 : am_at 113 34 = some (.aload_n 0, 35, 0, []) := rfl
set_option maxRecDepth 20000 in
theorem at_113_35 : am_at 113 35 = some (.getfield 7, 38, 0, [8, 1, 3, 711]) := rfl
set_option maxRecDepth 20000 in
theorem at_113_38 : am_at 113 38 = some (.iload_n 1, 39, 1, []) := rfl
set_option maxRecDepth 20000 in
theorem at_113_39 : am_at 113 39 = some (.iaload, 40, 0, []) := rfl
set_option maxRecDepth 20000 in
theorem at_113_40 : am_at 113 40 = some (.iconst 1, 41, 1, []) := rfl
set_option maxRecDepth 20000 in
theorem at_113_41 : am_at 113 41 = some (.if_icmp .ne 14, 44, 55, []) := rfl
set_option maxRecDepth 20000 in
theorem at_113_44 : am_at 113 44 = some (.aload_n 0, 45, 0, []) := rfl
set_option maxRecDepth 20000 in
theorem at_113_45 : am_at 113 45 = some (.getfield 13, 48, 0, [8, 2, 3, 712]) := rfl
set_option maxRecDepth 20000 in
theorem at_113_48 : am_at 113 48 = some (.iload_n 1, 49, 1, []) := rfl
set_option maxRecDepth 20000 in
theorem at_113_49 : am_at 113 49 = some (.dup2, 50, 0, []) := rfl
set_option maxRecDepth 20000 in
theorem at_113_50 : am_at 113 50 = some (.laload, 51, 0, []) := rfl
set_option maxRecDepth 20000 in
theorem at_113_51 : am_at 113 51 = some (.iload_n 2, 52, 2, []) := rfl
set_option maxRecDepth 20000 in
theorem at_113_52 : am_at 113 52 = some (.i2l, 53, 0, []) := rfl
set_option maxRecDepth 20000 in
theorem at_113_53 : am_at 113 53 = some (.ladd, 54, 0, []) := rfl
set_option maxRecDepth 20000 in
theorem at_113_54 : am_at 113 54 = some (.lastore, 55, 0, []) := rfl
set_option maxRecDepth 20000 in
theorem at_113_55 : am_at 113 55 = some (.return_, 56, 0, []) := rfl
set_option maxRecDepth 20000 in
theorem at_114_0 : am_at 114 0 = some (.aload_n 0, 1, 0, []) := rfl
set_option maxRecDepth 20000 in
theorem at_114_1 : am_at 114 1 = some (.iload_n 1, 2, 1, []) := rfl
set_option maxRecDepth 20000 in
theorem at_114_2 : am_at 114 2 = some (.invokevirtual 200, 5, 110, [0, 1, 8, 933, 935, 32, 60]) := rfl
set_option maxRecDepth 20000 in
theorem at_114_5 : am_at 114 5 = some (.ifCond .ne 5, 8, 10, []) := rfl
set_option maxRecDepth 20000 in
theorem at_114_8 : am_at 114 8 = some (.iconst (-1), 9, 4294967295, []) := rfl
set_option maxRecDepth 20000 in
theorem at_114_9 : am_at 114 9 = some (.ireturn, 10, 0, [0]) := rfl
set_option maxRecDepth 20000 in
theorem at_114_10 : am_at 114 10 = some (.aload_n 0, 11, 0, []) := rfl
set_option maxRecDepth 20000 in
theorem at_114_11 : am_at 114 11 = some (.getfield 71, 14, 0, [8, 26, 3, 736]) := rfl
set_option maxRecDepth 20000 in
theorem at_114_14 : am_at 114 14 = some (.iload_n 1, 15, 1, []) := rfl
set_option maxRecDepth 20000 in
theorem at_114_15 : am_at 114 15 = some (.iaload, 16, 0, []) := rfl
set_option maxRecDepth 20000 in
theorem at_114_16 : am_at 114 16 = some (.bipush (-4), 18, 4294967292, []) := rfl
set_option maxRecDepth 20000 in
theorem at_114_18 : am_at 114 18 = some (.if_icmp .ne 8, 21, 26, []) := rfl
set_option maxRecDepth 20000 in
theorem at_114_21 : am_at 114 21 = some (.bipush (-2), 23, 4294967294, []) := rfl
set_option maxRecDepth 20000 in
theorem at_114_23 : am_at 114 23 = some (.goto 8, 26, 31, []) := rfl
set_option maxRecDepth 20000 in
theorem at_114_26 : am_at 114 26 = some (.aload_n 0, 27, 0, []) := rfl
set_option maxRecDepth 20000 in
theorem at_114_27 : am_at 114 27 = some (.iload_n 1, 28, 1, []) := rfl
set_option maxRecDepth 20000 in
theorem at_114_28 : am_at 114 28 = some (.invokevirtual 283, 31, 115, [0, 1, 8, 953, 955, 36, 60]) := rfl
set_option maxRecDepth 20000 in
theorem at_114_31 : am_at 114 31 = some (.ireturn, 32, 0, [0]) := rfl
set_option maxRecDepth 20000 in
theorem at_115_0 : am_at 115 0 = some (.aload_n 0, 1, 0, []) := rfl
set_option maxRecDepth 20000 in
theorem at_115_1 : am_at 115 1 = some (.iload_n 1, 2, 1, []) := rfl
set_option maxRecDepth 20000 in
theorem at_115_2 : am_at 115 2 = some (.putfield 230, 5, 0, [8, 49, 0, 759]) := rfl
set_option maxRecDepth 20000 in
theorem at_115_5 : am_at 115 5 = some (.aload_n 0, 6, 0, []) := rfl
set_option maxRecDepth 20000 in
theorem at_115_6 : am_at 115 6 = some (.iconst 0, 7, 0, []) := rfl
set_option maxRecDepth 20000 in
theorem at_115_7 : am_at 115 7 = some (.putfield 242, 10, 0, [8, 39, 0, 749]) := rfl
set_option maxRecDepth 20000 in
theorem at_115_10 : am_at 115 10 = some (.aload_n 0, 11, 0, []) := rfl
set_option maxRecDepth 20000 in
theorem at_115_11 : am_at 115 11 = some (.iconst 0, 12, 0, []) := rfl
set_option maxRecDepth 20000 in
theorem at_115_12 : am_at 115 12 = some (.putfield 251, 15, 0, [8, 43, 0, 753]) := rfl
set_option maxRecDepth 20000 in
theorem at_115_15 : am_at 115 15 = some (.aload_n 0, 16, 0, []) := rfl
set_option maxRecDepth 20000 in
theorem at_115_16 : am_at 115 16 = some (.getfield 74, 19, 0, [8, 27, 3, 737]) := rfl
set_option maxRecDepth 20000 in
theorem at_115_19 : am_at 115 19 = some (.bipush 8, 21, 8, []) := rfl
set_option maxRecDepth 20000 in
theorem at_115_21 : am_at 115 21 = some (.aload_n 0, 22, 0, []) := rfl
set_option maxRecDepth 20000 in
theorem at_115_22 : am_at 115 22 = some (.getfield 230, 25, 0, [8, 49, 0, 759]) := rfl
set_option maxRecDepth 20000 in
theorem at_115_25 : am_at 115 25 = some (.imul, 26, 0, []) := rfl
set_option maxRecDepth 20000 in
theorem at_115_26 : am_at 115 26 = some (.dup2, 27, 0, []) := rfl
set_option maxRecDepth 20000 in
theorem at_115_27 : am_at 115 27 = some (.iaload, 28, 0, []) := rfl
set_option maxRecDepth 20000 in
theorem at_115_28 : am_at 115 28 = some (.iconst 1, 29, 1, []) := rfl
set_option maxRecDepth 20000 in
theorem at_115_29 : am_at 115 29 = some (.iadd, 30, 0, []) := rfl
set_option maxRecDepth 20000 in
theorem at_115_30 : am_at 115 30 = some (.iastore, 31, 0, []) := rfl
set_option maxRecDepth 20000 in
theorem at_115_31 : am_at 115 31 = some (.iconst 0, 32, 0, []) := rfl
set_option maxRecDepth 20000 in
theorem at_115_32 : am_at 115 32 = some (.istore_n 2, 33, 2, []) := rfl
set_option maxRecDepth 20000 in
theorem at_115_33 : am_at 115 33 = some (.iload_n 2, 34, 2, []) := rfl
set_option maxRecDepth 20000 in
theorem at_115_34 : am_at 115 34 = some (.bipush 30, 36, 30, []) := rfl
set_option maxRecDepth 20000 in
theorem at_115_36 : am_at 115 36 = some (.if_icmp .ge 16, 39, 52, []) := rfl
set_option maxRecDepth 20000 in
theorem at_115_39 : am_at 115 39 = some (.aload_n 0, 40, 0, []) := rfl
set_option maxRecDepth 20000 in
theorem at_115_40 : am_at 115 40 = some (.getfield 115, 43, 0, [8, 42, 3, 752]) := rfl
set_option maxRecDepth 20000 in
theorem at_115_43 : am_at 115 43 = some (.iload_n 2, 44, 2, []) := rfl
set_option maxRecDepth 20000 in
theorem at_115_44 : am_at 115 44 = some (.iconst 0, 45, 0, []) := rfl
set_option maxRecDepth 20000 in
theorem at_115_45 : am_at 115 45 = some (.bastore, 46, 0, []) := rfl
set_option maxRecDepth 20000 in
theorem at_115_46 : am_at 115 46 = some (.iinc 2 1, 49, 2, []) := rfl
set_option maxRecDepth 20000 in
theorem at_115_49 : am_at 115 49 = some (.goto (-16), 52, 33, []) := rfl
set_option maxRecDepth 20000 in
theorem at_115_52 : am_at 115 52 = some (.aload_n 0, 53, 0, []) := rfl
set_option maxRecDepth 20000 in
theorem at_115_53 : am_at 115 53 = some (.iconst 0, 54, 0, []) := rfl
set_option maxRecDepth 20000 in
theorem at_115_54 : am_at 115 54 = some (.putfield 248, 57, 0, [8, 51, 0, 761]) := rfl
set_option maxRecDepth 20000 in
theorem at_115_57 : am_at 115 57 = some (.aload_n 0, 58, 0, []) := rfl
set_option maxRecDepth 20000 in
theorem at_115_58 : am_at 115 58 = some (.getfield 248, 61, 0, [8, 51, 0, 761]) := rfl
set_option maxRecDepth 20000 in
theorem at_115_61 : am_at 115 61 = some (.bipush (-4), 63, 4294967292, []) := rfl
set_option maxRecDepth 20000 in
theorem at_115_63 : am_at 115 63 = some (.if_icmp .ne 10, 66, 73, []) := rfl
set_option maxRecDepth 20000 in
theorem at_115_66 : am_at 115 66 = some (.aload_n 0, 67, 0, []) := rfl
set_option maxRecDepth 20000 in
theorem at_115_67 : am_at 115 67 = some (.getfield 251, 70, 0, [8, 43, 0, 753]) := rfl
set_option maxRecDepth 20000 in
theorem at_115_70 : am_at 115 70 = some (.ifCond .le 30, 73, 100, []) := rfl
set_option maxRecDepth 20000 in
theorem at_115_73 : am_at 115 73 = some (.aload_n 0, 74, 0, []) := rfl
set_option maxRecDepth 20000 in
theorem at_115_74 : am_at 115 74 = some (.getfield 248, 77, 0, [8, 51, 0, 761]) := rfl
set_option maxRecDepth 20000 in
theorem at_115_77 : am_at 115 77 = some (.bipush (-4), 79, 4294967292, []) := rfl
set_option maxRecDepth 20000 in
theorem at_115_79 : am_at 115 79 = some (.if_icmp .eq 14, 82, 93, []) := rfl
set_option maxRecDepth 20000 in
theorem at_115_82 : am_at 115 82 = some (.aload_n 0, 83, 0, []) := rfl
set_option maxRecDepth 20000 in
theorem at_115_83 : am_at 115 83 = some (.aload_n 0, 84, 0, []) := rfl
set_option maxRecDepth 20000 in
theorem at_115_84 : am_at 115 84 = some (.getfield 248, 87, 0, [8, 51, 0, 761]) := rfl
set_option maxRecDepth 20000 in
theorem at_115_87 : am_at 115 87 = some (.invokevirtual 273, 90, 116, [0, 1, 8, 957, 959, 37, 60]) := rfl
set_option maxRecDepth 20000 in
theorem at_115_90 : am_at 115 90 = some (.goto (-33), 93, 57, []) := rfl
set_option maxRecDepth 20000 in
theorem at_115_93 : am_at 115 93 = some (.aload_n 0, 94, 0, []) := rfl
set_option maxRecDepth 20000 in
theorem at_115_94 : am_at 115 94 = some (.invokevirtual 277, 97, 130, [0, 0, 8, 1013, 1015, 50, 60]) := rfl
set_option maxRecDepth 20000 in
theorem at_115_97 : am_at 115 97 = some (.goto (-40), 100, 57, []) := rfl
set_option maxRecDepth 20000 in
theorem at_115_100 : am_at 115 100 = some (.aload_n 0, 101, 0, []) := rfl
set_option maxRecDepth 20000 in
theorem at_115_101 : am_at 115 101 = some (.invokevirtual 280, 104, 131, [0, 0, 8, 1017, 1019, 51, 60]) := rfl
set_option maxRecDepth 20000 in
theorem at_115_104 : am_at 115 104 = some (.aload_n 0, 105, 0, []) := rfl
set_option maxRecDepth 20000 in
theorem at_115_105 : am_at 115 105 = some (.getfield 245, 108, 0, [8, 50, 0, 760]) := rfl
set_option maxRecDepth 20000 in
theorem at_115_108 : am_at 115 108 = some (.ireturn, 109, 0, [0]) := rfl
set_option maxRecDepth 20000 in
theorem at_116_0 : am_at 116 0 = some (.bipush 30, 2, 30, []) := rfl
set_option maxRecDepth 20000 in
theorem at_116_2 : am_at 116 2 = some (.aload_n 0, 3, 0, []) := rfl
set_option maxRecDepth 20000 in
theorem at_116_3 : am_at 116 3 = some (.getfield 71, 6, 0, [8, 26, 3, 736]) := rfl
set_option maxRecDepth 20000 in
theorem at_116_6 : am_at 116 6 = some (.aload_n 0, 7, 0, []) := rfl
set_option maxRecDepth 20000 in
theorem at_116_7 : am_at 116 7 = some (.getfield 230, 10, 0, [8, 49, 0, 759]) := rfl
set_option maxRecDepth 20000 in
theorem at_116_10 : am_at 116 10 = some (.iaload, 11, 0, []) := rfl
set_option maxRecDepth 20000 in
theorem at_116_11 : am_at 116 11 = some (.imul, 12, 0, []) := rfl
set_option maxRecDepth 20000 in
theorem at_116_12 : am_at 116 12 = some (.iload_n 1, 13, 1, []) := rfl
set_option maxRecDepth 20000 in
theorem at_116_13 : am_at 116 13 = some (.iadd, 14, 0, []) := rfl
set_option maxRecDepth 20000 in
theorem at_116_14 : am_at 116 14 = some (.istore_n 2, 15, 2, []) := rfl
set_option maxRecDepth 20000 in
theorem at_116_15 : am_at 116 15 = some (.bipush 30, 17, 30, []) := rfl
set_option maxRecDepth 20000 in
theorem at_116_17 : am_at 116 17 = some (.aload_n 0, 18, 0, []) := rfl
set_option maxRecDepth 20000 in
theorem at_116_18 : am_at 116 18 = some (.getfield 230, 21, 0, [8, 49, 0, 759]) := rfl
set_option maxRecDepth 20000 in
theorem at_116_21 : am_at 116 21 = some (.imul, 22, 0, []) := rfl
set_option maxRecDepth 20000 in
theorem at_116_22 : am_at 116 22 = some (.iload_n 1, 23, 1, []) := rfl
set_option maxRecDepth 20000 in
theorem at_116_23 : am_at 116 23 = some (.iadd, 24, 0, []) := rfl
set_option maxRecDepth 20000 in
theorem at_116_24 : am_at 116 24 = some (.istore_n 3, 25, 3, []) := rfl
set_option maxRecDepth 20000 in
theorem at_116_25 : am_at 116 25 = some (.aload_n 0, 26, 0, []) := rfl
set_option maxRecDepth 20000 in
theorem at_116_26 : am_at 116 26 = some (.getfield 115, 29, 0, [8, 42, 3, 752]) := rfl
set_option maxRecDepth 20000 in
theorem at_116_29 : am_at 116 29 = some (.iload_n 1, 30, 1, []) := rfl
set_option maxRecDepth 20000 in
theorem at_116_30 : am_at 116 30 = some (.iconst 1, 31, 1, []) := rfl
set_option maxRecDepth 20000 in
theorem at_116_31 : am_at 116 31 = some (.bastore, 32, 0, []) := rfl
set_option maxRecDepth 20000 in
theorem at_116_32 : am_at 116 32 = some (.aload_n 0, 33, 0, []) := rfl
set_option maxRecDepth 20000 in
theorem at_116_33 : am_at 116 33 = some (.getfield 80, 36, 0, [8, 29, 3, 739]) := rfl
set_option maxRecDepth 20000 in
theorem at_116_36 : am_at 116 36 = some (.iload_n 3, 37, 3, []) := rfl
set_option maxRecDepth 20000 in
theorem at_116_37 : am_at 116 37 = some (.dup2, 38, 0, []) := rfl
set_option maxRecDepth 20000 in
theorem at_116_38 : am_at 116 38 = some (.iaload, 39, 0, []) := rfl
set_option maxRecDepth 20000 in
theorem at_116_39 : am_at 116 39 = some (.iconst 1, 40, 1, []) := rfl
set_option maxRecDepth 20000 in
theorem at_116_40 : am_at 116 40 = some (.iadd, 41, 0, []) := rfl
set_option maxRecDepth 20000 in
theorem at_116_41 : am_at 116 41 = some (.iastore, 42, 0, []) := rfl
set_option maxRecDepth 20000 in
theorem at_116_42 : am_at 116 42 = some (.aload_n 0, 43, 0, []) := rfl
set_option maxRecDepth 20000 in
theorem at_116_43 : am_at 116 43 = some (.getfield 50, 46, 0, [8, 18, 3, 728]) := rfl
set_option maxRecDepth 20000 in
theorem at_116_46 : am_at 116 46 = some (.iload_n 2, 47, 2, []) := rfl
set_option maxRecDepth 20000 in
theorem at_116_47 : am_at 116 47 = some (.iaload, 48, 0, []) := rfl
set_option maxRecDepth 20000 in
theorem at_116_48 : am_at 116 48 = some (.tableswitch 135 0 9 #[56, 75, 135, 135, 135, 109, 135, 135, 135, 96], 104, 183, [104, 123, 183, 183, 183, 157, 183, 183, 183, 144]) := rfl
set_option maxRecDepth 20000 in
theorem at_116_104 : am_at 116 104 = some (.aload_n 0, 105, 0, []) := rfl
set_option maxRecDepth 20000 in
theorem at_116_105 : am_at 116 105 = some (.iload_n 1, 106, 1, []) := rfl
set_option maxRecDepth 20000 in
theorem at_116_106 : am_at 116 106 = some (.aload_n 0, 107, 0, []) := rfl
set_option maxRecDepth 20000 in
theorem at_116_107 : am_at 116 107 = some (.iload_n 1, 108, 1, []) := rfl
set_option maxRecDepth 20000 in
theorem at_116_108 : am_at 116 108 = some (.aload_n 0, 109, 0, []) := rfl
set_option maxRecDepth 20000 in
theorem at_116_109 : am_at 116 109 = some (.getfield 53, 112, 0, [8, 19, 3, 729]) := rfl
set_option maxRecDepth 20000 in
theorem at_116_112 : am_at 116 112 = some (.iload_n 2, 113, 2, []) := rfl
set_option maxRecDepth 20000 in
theorem at_116_113 : am_at 116 113 = some (.iaload, 114, 0, []) := rfl
set_option maxRecDepth 20000 in
theorem at_116_114 : am_at 116 114 = some (.invokevirtual 239, 117, 117, [0, 2, 8, 961, 963, 38, 60]) := rfl
set_option maxRecDepth 20000 in
theorem at_116_117 : am_at 116 117 = some (.invokevirtual 257, 120, 120, [0, 2, 8, 973, 975, 41, 60]) := rfl
set_option maxRecDepth 20000 in
theorem at_116_120 : am_at 116 120 = some (.goto 89, 123, 209, []) := rfl
set_option maxRecDepth 20000 in
theorem at_116_123 : am_at 116 123 = some (.aload_n 0, 124, 0, []) := rfl
set_option maxRecDepth 20000 in
theorem at_116_124 : am_at 116 124 = some (.iload_n 1, 125, 1, []) := rfl
set_option maxRecDepth 20000 in
theorem at_116_125 : am_at 116 125 = some (.aload_n 0, 126, 0, []) := rfl
set_option maxRecDepth 20000 in
theorem at_116_126 : am_at 116 126 = some (.iload_n 1, 127, 1, []) := rfl
set_option maxRecDepth 20000 in
theorem at_116_127 : am_at 116 127 = some (.invokevirtual 260, 130, 121, [0, 1, 8, 977, 979, 42, 60]) := rfl
set_option maxRecDepth 20000 in
theorem at_116_130 : am_at 116 130 = some (.ifCond .eq 7, 133, 137, []) := rfl
set_option maxRecDepth 20000 in
theorem at_116_133 : am_at 116 133 = some (.iconst 1, 134, 1, []) := rfl
set_option maxRecDepth 20000 in
theorem at_116_134 : am_at 116 134 = some (.goto 4, 137, 138, []) := rfl
set_option maxRecDepth 20000 in
theorem at_116_137 : am_at 116 137 = some (.iconst 2, 138, 2, []) := rfl
set_option maxRecDepth 20000 in
theorem at_116_138 : am_at 116 138 = some (.invokevirtual 257, 141, 120, [0, 2, 8, 973, 975, 41, 60]) := rfl
set_option maxRecDepth 20000 in
theorem at_116_141 : am_at 116 141 = some (.goto 68, 144, 209, []) := rfl
set_option maxRecDepth 20000 in
theorem at_116_144 : am_at 116 144 = some (.aload_n 0, 145, 0, []) := rfl
set_option maxRecDepth 20000 in
theorem at_116_145 : am_at 116 145 = some (.iload_n 1, 146, 1, []) := rfl
set_option maxRecDepth 20000 in
theorem at_116_146 : am_at 116 146 = some (.aload_n 0, 147, 0, []) := rfl
set_option maxRecDepth 20000 in
theorem at_116_147 : am_at 116 147 = some (.iload_n 1, 148, 1, []) := rfl
set_option maxRecDepth 20000 in
theorem at_116_148 : am_at 116 148 = some (.invokevirtual 263, 151, 123, [0, 1, 8, 985, 987, 44, 60]) := rfl
set_option maxRecDepth 20000 in
theorem at_116_151 : am_at 116 151 = some (.invokevirtual 257, 154, 120, [0, 2, 8, 973, 975, 41, 60]) := rfl
set_option maxRecDepth 20000 in
theorem at_116_154 : am_at 116 154 = some (.goto 55, 157, 209, []) := rfl
set_option maxRecDepth 20000 in
theorem at_116_157 : am_at 116 157 = some (.aload_n 0, 158, 0, []) := rfl
set_option maxRecDepth 20000 in
theorem at_116_158 : am_at 116 158 = some (.iload_n 1, 159, 1, []) := rfl
set_option maxRecDepth 20000 in
theorem at_116_159 : am_at 116 159 = some (.invokevirtual 260, 162, 121, [0, 1, 8, 977, 979, 42, 60]) := rfl
set_option maxRecDepth 20000 in
theorem at_116_162 : am_at 116 162 = some (.ifCond .eq 12, 165, 174, []) := rfl
set_option maxRecDepth 20000 in
theorem at_116_165 : am_at 116 165 = some (.aload_n 0, 166, 0, []) := rfl
set_option maxRecDepth 20000 in
theorem at_116_166 : am_at 116 166 = some (.iload_n 1, 167, 1, []) := rfl
set_option maxRecDepth 20000 in
theorem at_116_167 : am_at 116 167 = some (.iconst 0, 168, 0, []) := rfl
set_option maxRecDepth 20000 in
theorem at_116_168 : am_at 116 168 = some (.invokevirtual 267, 171, 128, [0, 2, 8, 1005, 1007, 48, 60]) := rfl
set_option maxRecDepth 20000 in
theorem at_116_171 : am_at 116 171 = some (.goto 38, 174, 209, []) := rfl
set_option maxRecDepth 20000 in
theorem at_116_174 : am_at 116 174 = some (.aload_n 0, 175, 0, []) := rfl
set_option maxRecDepth 20000 in
theorem at_116_175 : am_at 116 175 = some (.iload_n 1, 176, 1, []) := rfl
set_option maxRecDepth 20000 in
theorem at_116_176 : am_at 116 176 = some (.iconst 2, 177, 2, []) := rfl
set_option maxRecDepth 20000 in
theorem at_116_177 : am_at 116 177 = some (.invokevirtual 257, 180, 120, [0, 2, 8, 973, 975, 41, 60]) := rfl
set_option maxRecDepth 20000 in
theorem at_116_180 : am_at 116 180 = some (.goto 29, 183, 209, []) := rfl
set_option maxRecDepth 20000 in
theorem at_116_183 : am_at 116 183 = some (.aload_n 0, 184, 0, []) := rfl
set_option maxRecDepth 20000 in
theorem at_116_184 : am_at 116 184 = some (.iload_n 1, 185, 1, []) := rfl
set_option maxRecDepth 20000 in
theorem at_116_185 : am_at 116 185 = some (.aload_n 0, 186, 0, []) := rfl
set_option maxRecDepth 20000 in
theorem at_116_186 : am_at 116 186 = some (.getfield 50, 189, 0, [8, 18, 3, 728]) := rfl
set_option maxRecDepth 20000 in
theorem at_116_189 : am_at 116 189 = some (.iload_n 2, 190, 2, []) := rfl
set_option maxRecDepth 20000 in
theorem at_116_190 : am_at 116 190 = some (.iaload, 191, 0, []) := rfl
set_option maxRecDepth 20000 in
theorem at_116_191 : am_at 116 191 = some (.bipush 7, 193, 7, []) := rfl
set_option maxRecDepth 20000 in
theorem at_116_193 : am_at 116 193 = some (.if_icmp .ne 12, 196, 205, []) := rfl
set_option maxRecDepth 20000 in
theorem at_116_196 : am_at 116 196 = some (.aload_n 0, 197, 0, []) := rfl
set_option maxRecDepth 20000 in
theorem at_116_197 : am_at 116 197 = some (.getfield 90, 200, 0, [8, 32, 3, 742]) := rfl
set_option maxRecDepth 20000 in
theorem at_116_200 : am_at 116 200 = some (.iload_n 3, 201, 3, []) := rfl
set_option maxRecDepth 20000 in
theorem at_116_201 : am_at 116 201 = some (.iaload, 202, 0, []) := rfl
set_option maxRecDepth 20000 in
theorem at_116_202 : am_at 116 202 = some (.goto 4, 205, 206, []) := rfl
set_option maxRecDepth 20000 in
theorem at_116_205 : am_at 116 205 = some (.iconst 0, 206, 0, []) := rfl
set_option maxRecDepth 20000 in
theorem at_116_206 : am_at 116 206 = some (.invokevirtual 267, 209, 128, [0, 2, 8, 1005, 1007, 48, 60]) := rfl
set_option maxRecDepth 20000 in
theorem at_116_209 : am_at 116 209 = some (.return_, 210, 0, []) := rfl
set_option maxRecDepth 20000 in
theorem at_117_0 : am_at 117 0 = some (.bipush 30, 2, 30, []) := rfl
set_option maxRecDepth 20000 in
theorem at_117_2 : am_at 117 2 = some (.aload_n 0, 3, 0, []) := rfl
set_option maxRecDepth 20000 in
theorem at_117_3 : am_at 117 3 = some (.getfield 230, 6, 0, [8, 49, 0, 759]) := rfl
set_option maxRecDepth 20000 in
theorem at_117_6 : am_at 117 6 = some (.imul, 7, 0, []) := rfl
set_option maxRecDepth 20000 in
theorem at_117_7 : am_at 117 7 = some (.iload_n 1, 8, 1, []) := rfl
set_option maxRecDepth 20000 in
theorem at_117_8 : am_at 117 8 = some (.iadd, 9, 0, []) := rfl
set_option maxRecDepth 20000 in
theorem at_117_9 : am_at 117 9 = some (.istore_n 3, 10, 3, []) := rfl
set_option maxRecDepth 20000 in
theorem at_117_10 : am_at 117 10 = some (.aload_n 0, 11, 0, []) := rfl
set_option maxRecDepth 20000 in
theorem at_117_11 : am_at 117 11 = some (.getfield 83, 14, 0, [8, 30, 3, 740]) := rfl
set_option maxRecDepth 20000 in
theorem at_117_14 : am_at 117 14 = some (.iload_n 3, 15, 3, []) := rfl
set_option maxRecDepth 20000 in
theorem at_117_15 : am_at 117 15 = some (.baload, 16, 0, []) := rfl
set_option maxRecDepth 20000 in
theorem at_117_16 : am_at 117 16 = some (.ifCond .ne 22, 19, 38, []) := rfl
set_option maxRecDepth 20000 in
theorem at_117_19 : am_at 117 19 = some (.aload_n 0, 20, 0, []) := rfl
set_option maxRecDepth 20000 in
theorem at_117_20 : am_at 117 20 = some (.getfield 83, 23, 0, [8, 30, 3, 740]) := rfl
set_option maxRecDepth 20000 in
theorem at_117_23 : am_at 117 23 = some (.iload_n 3, 24, 3, []) := rfl
set_option maxRecDepth 20000 in
theorem at_117_24 : am_at 117 24 = some (.iconst 1, 25, 1, []) := rfl
set_option maxRecDepth 20000 in
theorem at_117_25 : am_at 117 25 = some (.bastore, 26, 0, []) := rfl
set_option maxRecDepth 20000 in
theorem at_117_26 : am_at 117 26 = some (.aload_n 0, 27, 0, []) := rfl
set_option maxRecDepth 20000 in
theorem at_117_27 : am_at 117 27 = some (.getfield 87, 30, 0, [8, 31, 3, 741]) := rfl
set_option maxRecDepth 20000 in
theorem at_117_30 : am_at 117 30 = some (.iload_n 3, 31, 3, []) := rfl
set_option maxRecDepth 20000 in
theorem at_117_31 : am_at 117 31 = some (.aload_n 0, 32, 0, []) := rfl
set_option maxRecDepth 20000 in
theorem at_117_32 : am_at 117 32 = some (.getfield 20, 35, 0, [8, 5, 3, 715]) := rfl
set_option maxRecDepth 20000 in
theorem at_117_35 : am_at 117 35 = some (.iload_n 2, 36, 2, []) := rfl
set_option maxRecDepth 20000 in
theorem at_117_36 : am_at 117 36 = some (.iaload, 37, 0, []) := rfl
set_option maxRecDepth 20000 in
theorem at_117_37 : am_at 117 37 = some (.iastore, 38, 0, []) := rfl
set_option maxRecDepth 20000 in
theorem at_117_38 : am_at 117 38 = some (.aload_n 0, 39, 0, []) := rfl
set_option maxRecDepth 20000 in
theorem at_117_39 : am_at 117 39 = some (.iload_n 2, 40, 2, []) := rfl
set_option maxRecDepth 20000 in
theorem at_117_40 : am_at 117 40 = some (.aload_n 0, 41, 0, []) := rfl
set_option maxRecDepth 20000 in
theorem at_117_41 : am_at 117 41 = some (.getfield 227, 44, 0, [8, 0, 0, 710]) := rfl
set_option maxRecDepth 20000 in
theorem at_117_44 : am_at 117 44 = some (.invokevirtual 206, 47, 118, [0, 2, 8, 965, 967, 39, 60]) := rfl
set_option maxRecDepth 20000 in
theorem at_117_47 : am_at 117 47 = some (.ifCond .ne 30, 50, 77, []) := rfl
set_option maxRecDepth 20000 in
theorem at_117_50 : am_at 117 50 = some (.aload_n 0, 51, 0, []) := rfl
set_option maxRecDepth 20000 in
theorem at_117_51 : am_at 117 51 = some (.getfield 83, 54, 0, [8, 30, 3, 740]) := rfl
set_option maxRecDepth 20000 in
theorem at_117_54 : am_at 117 54 = some (.iload_n 3, 55, 3, []) := rfl
set_option maxRecDepth 20000 in
theorem at_117_55 : am_at 117 55 = some (.iconst 0, 56, 0, []) := rfl
set_option maxRecDepth 20000 in
theorem at_117_56 : am_at 117 56 = some (.bastore, 57, 0, []) := rfl
set_option maxRecDepth 20000 in
theorem at_117_57 : am_at 117 57 = some (.aload_n 0, 58, 0, []) := rfl
set_option maxRecDepth 20000 in
theorem at_117_58 : am_at 117 58 = some (.getfield 74, 61, 0, [8, 27, 3, 737]) := rfl
set_option maxRecDepth 20000 in
theorem at_117_61 : am_at 117 61 = some (.bipush 8, 63, 8, []) := rfl
set_option maxRecDepth 20000 in
theorem at_117_63 : am_at 117 63 = some (.aload_n 0, 64, 0, []) := rfl
set_option maxRecDepth 20000 in
theorem at_117_64 : am_at 117 64 = some (.getfield 230, 67, 0, [8, 49, 0, 759]) := rfl
set_option maxRecDepth 20000 in
theorem at_117_67 : am_at 117 67 = some (.imul, 68, 0, []) := rfl
set_option maxRecDepth 20000 in
theorem at_117_68 : am_at 117 68 = some (.iconst 3, 69, 3, []) := rfl
set_option maxRecDepth 20000 in
theorem at_117_69 : am_at 117 69 = some (.iadd, 70, 0, []) := rfl
set_option maxRecDepth 20000 in
theorem at_117_70 : am_at 117 70 = some (.dup2, 71, 0, []) := rfl
set_option maxRecDepth 20000 in
theorem at_117_71 : am_at 117 71 = some (.iaload, 72, 0, []) := rfl
set_option maxRecDepth 20000 in
theorem at_117_72 : am_at 117 72 = some (.iconst 1, 73, 1, []) := rfl
set_option maxRecDepth 20000 in
theorem at_117_73 : am_at 117 73 = some (.iadd, 74, 0, []) := rfl
set_option maxRecDepth 20000 in
theorem at_117_74 : am_at 117 74 = some (.iastore, 75, 0, []) := rfl
set_option maxRecDepth 20000 in
theorem at_117_75 : am_at 117 75 = some (.iconst 2, 76, 2, []) := rfl
set_option maxRecDepth 20000 in
theorem at_117_76 : am_at 117 76 = some (.ireturn, 77, 0, [0]) := rfl
set_option maxRecDepth 20000 in
theorem at_117_77 : am_at 117 77 = some (.aload_n 0, 78, 0, []) := rfl
set_option maxRecDepth 20000 in
theorem at_117_78 : am_at 117 78 = some (.getfield 87, 81, 0, [8, 31, 3, 741]) := rfl
set_option maxRecDepth 20000 in
theorem at_117_81 : am_at 117 81 = some (.iload_n 3, 82, 3, []) := rfl
set_option maxRecDepth 20000 in
theorem at_117_82 : am_at 117 82 = some (.dup2, 83, 0, []) := rfl
set_option maxRecDepth 20000 in
theorem at_117_83 : am_at 117 83 = some (.iaload, 84, 0, []) := rfl
set_option maxRecDepth 20000 in
theorem at_117_84 : am_at 117 84 = some (.iconst 1, 85, 1, []) := rfl
set_option maxRecDepth 20000 in
theorem at_117_85 : am_at 117 85 = some (.isub, 86, 0, []) := rfl
set_option maxRecDepth 20000 in
theorem at_117_86 : am_at 117 86 = some (.iastore, 87, 0, []) := rfl
set_option maxRecDepth 20000 in
theorem at_117_87 : am_at 117 87 = some (.aload_n 0, 88, 0, []) := rfl
set_option maxRecDepth 20000 in
theorem at_117_88 : am_at 117 88 = some (.getfield 87, 91, 0, [8, 31, 3, 741]) := rfl
set_option maxRecDepth 20000 in
theorem at_117_91 : am_at 117 91 = some (.iload_n 3, 92, 3, []) := rfl
set_option maxRecDepth 20000 in
theorem at_117_92 : am_at 117 92 = some (.iaload, 93, 0, []) := rfl
set_option maxRecDepth 20000 in
theorem at_117_93 : am_at 117 93 = some (.ifCond .le 5, 96, 98, []) := rfl
set_option maxRecDepth 20000 in
theorem at_117_96 : am_at 117 96 = some (.iconst 3, 97, 3, []) := rfl
set_option maxRecDepth 20000 in
theorem at_117_97 : am_at 117 97 = some (.ireturn, 98, 0, [0]) := rfl
set_option maxRecDepth 20000 in
theorem at_117_98 : am_at 117 98 = some (.aload_n 0, 99, 0, []) := rfl
set_option maxRecDepth 20000 in
theorem at_117_99 : am_at 117 99 = some (.getfield 83, 102, 0, [8, 30, 3, 740]) := rfl
set_option maxRecDepth 20000 in
theorem at_117_102 : am_at 117 102 = some (.iload_n 3, 103, 3, []) := rfl
set_option maxRecDepth 20000 in
theorem at_117_103 : am_at 117 103 = some (.iconst 0, 104, 0, []) := rfl
set_option maxRecDepth 20000 in
theorem at_117_104 : am_at 117 104 = some (.bastore, 105, 0, []) := rfl
set_option maxRecDepth 20000 in
theorem at_117_105 : am_at 117 105 = some (.aload_n 0, 106, 0, []) := rfl
set_option maxRecDepth 20000 in
theorem at_117_106 : am_at 117 106 = some (.aload_n 0, 107, 0, []) := rfl
set_option maxRecDepth 20000 in
theorem at_117_107 : am_at 117 107 = some (.iload_n 2, 108, 2, []) := rfl
set_option maxRecDepth 20000 in
theorem at_117_108 : am_at 117 108 = some (.aload_n 0, 109, 0, []) := rfl
set_option maxRecDepth 20000 in
theorem at_117_109 : am_at 117 109 = some (.getfield 227, 112, 0, [8, 0, 0, 710]) := rfl
set_option maxRecDepth 20000 in
theorem at_117_112 : am_at 117 112 = some (.invokevirtual 213, 115, 119, [0, 2, 8, 969, 971, 40, 60]) := rfl
set_option maxRecDepth 20000 in
theorem at_117_115 : am_at 117 115 = some (.putfield 227, 118, 0, [8, 0, 0, 710]) := rfl
set_option maxRecDepth 20000 in
theorem at_117_118 : am_at 117 118 = some (.aload_n 0, 119, 0, []) := rfl
set_option maxRecDepth 20000 in
theorem at_117_119 : am_at 117 119 = some (.aload_n 0, 120, 0, []) := rfl
set_option maxRecDepth 20000 in
theorem at_117_120 : am_at 117 120 = some (.getfield 38, 123, 0, [8, 11, 3, 721]) := rfl
set_option maxRecDepth 20000 in
theorem at_117_123 : am_at 117 123 = some (.iload_n 2, 124, 2, []) := rfl
set_option maxRecDepth 20000 in
theorem at_117_124 : am_at 117 124 = some (.iaload, 125, 0, []) := rfl
set_option maxRecDepth 20000 in
theorem at_117_125 : am_at 117 125 = some (.aload_n 0, 126, 0, []) := rfl
set_option maxRecDepth 20000 in
theorem at_117_126 : am_at 117 126 = some (.getfield 41, 129, 0, [8, 12, 3, 722]) := rfl
set_option maxRecDepth 20000 in
theorem at_117_129 : am_at 117 129 = some (.iload_n 2, 130, 2, []) := rfl
set_option maxRecDepth 20000 in
theorem at_117_130 : am_at 117 130 = some (.iaload, 131, 0, []) := rfl
set_option maxRecDepth 20000 in
theorem at_117_131 : am_at 117 131 = some (.invokevirtual 196, 134, 113, [0, 2, 8, 945, 947, 35, 60]) := rfl
set_option maxRecDepth 20000 in
theorem at_117_134 : am_at 117 134 = some (.aload_n 0, 135, 0, []) := rfl
set_option maxRecDepth 20000 in
theorem at_117_135 : am_at 117 135 = some (.getfield 74, 138, 0, [8, 27, 3, 737]) := rfl
set_option maxRecDepth 20000 in
theorem at_117_138 : am_at 117 138 = some (.bipush 8, 140, 8, []) := rfl
set_option maxRecDepth 20000 in
theorem at_117_140 : am_at 117 140 = some (.aload_n 0, 141, 0, []) := rfl
set_option maxRecDepth 20000 in
theorem at_117_141 : am_at 117 141 = some (.getfield 230, 144, 0, [8, 49, 0, 759]) := rfl
set_option maxRecDepth 20000 in
theorem at_117_144 : am_at 117 144 = some (.imul, 145, 0, []) := rfl
set_option maxRecDepth 20000 in
theorem at_117_145 : am_at 117 145 = some (.iconst 1, 146, 1, []) := rfl
set_option maxRecDepth 20000 in
theorem at_117_146 : am_at 117 146 = some (.iadd, 147, 0, []) := rfl
set_option maxRecDepth 20000 in
theorem at_117_147 : am_at 117 147 = some (.dup2, 148, 0, []) := rfl
set_option maxRecDepth 20000 in
theorem at_117_148 : am_at 117 148 = some (.iaload, 149, 0, []) := rfl
set_option maxRecDepth 20000 in
theorem at_117_149 : am_at 117 149 = some (.iconst 1, 150, 1, []) := rfl
set_option maxRecDepth 20000 in
theorem at_117_150 : am_at 117 150 = some (.iadd, 151, 0, []) := rfl
set_option maxRecDepth 20000 in
theorem at_117_151 : am_at 117 151 = some (.iastore, 152, 0, []) := rfl
set_option maxRecDepth 20000 in
theorem at_117_152 : am_at 117 152 = some (.iconst 1, 153, 1, []) := rfl
set_option maxRecDepth 20000 in
theorem at_117_153 : am_at 117 153 = some (.ireturn, 154, 0, [0]) := rfl
set_option maxRecDepth 20000 in
theorem at_118_0 : am_at 118 0 = some (.iload_n 2, 1, 2, []) := rfl
set_option maxRecDepth 20000 in
theorem at_118_1 : am_at 118 1 = some (.aload_n 0, 2, 0, []) := rfl
set_option maxRecDepth 20000 in
theorem at_118_2 : am_at 118 2 = some (.getfield 26, 5, 0, [8, 7, 3, 717]) := rfl
set_option maxRecDepth 20000 in
theorem at_118_5 : am_at 118 5 = some (.iload_n 1, 6, 1, []) := rfl
set_option maxRecDepth 20000 in
theorem at_118_6 : am_at 118 6 = some (.iaload, 7, 0, []) := rfl
set_option maxRecDepth 20000 in
theorem at_118_7 : am_at 118 7 = some (.iand, 8, 0, []) := rfl
set_option maxRecDepth 20000 in
theorem at_118_8 : am_at 118 8 = some (.aload_n 0, 9, 0, []) := rfl
set_option maxRecDepth 20000 in
theorem at_118_9 : am_at 118 9 = some (.getfield 29, 12, 0, [8, 8, 3, 718]) := rfl
set_option maxRecDepth 20000 in
theorem at_118_12 : am_at 118 12 = some (.iload_n 1, 13, 1, []) := rfl
set_option maxRecDepth 20000 in
theorem at_118_13 : am_at 118 13 = some (.iaload, 14, 0, []) := rfl
set_option maxRecDepth 20000 in
theorem at_118_14 : am_at 118 14 = some (.aload_n 0, 15, 0, []) := rfl
set_option maxRecDepth 20000 in
theorem at_118_15 : am_at 118 15 = some (.getfield 26, 18, 0, [8, 7, 3, 717]) := rfl
set_option maxRecDepth 20000 in
theorem at_118_18 : am_at 118 18 = some (.iload_n 1, 19, 1, []) := rfl
set_option maxRecDepth 20000 in
theorem at_118_19 : am_at 118 19 = some (.iaload, 20, 0, []) := rfl
set_option maxRecDepth 20000 in
theorem at_118_20 : am_at 118 20 = some (.iand, 21, 0, []) := rfl
set_option maxRecDepth 20000 in
theorem at_118_21 : am_at 118 21 = some (.if_icmp .ne 7, 24, 28, []) := rfl
set_option maxRecDepth 20000 in
theorem at_118_24 : am_at 118 24 = some (.iconst 1, 25, 1, []) := rfl
set_option maxRecDepth 20000 in
theorem at_118_25 : am_at 118 25 = some (.goto 4, 28, 29, []) := rfl
set_option maxRecDepth 20000 in
theorem at_118_28 : am_at 118 28 = some (.iconst 0, 29, 0, []) := rfl
set_option maxRecDepth 20000 in
theorem at_118_29 : am_at 118 29 = some (.ireturn, 30, 0, [1]) := rfl
set_option maxRecDepth 20000 in
theorem at_119_0 : am_at 119 0 = some (.iload_n 2, 1, 2, []) := rfl
set_option maxRecDepth 20000 in
theorem at_119_1 : am_at 119 1 = some (.aload_n 0, 2, 0, []) := rfl
set_option maxRecDepth 20000 in
theorem at_119_2 : am_at 119 2 = some (.getfield 32, 5, 0, [8, 9, 3, 719]) := rfl
set_option maxRecDepth 20000 in
theorem at_119_5 : am_at 119 5 = some (.iload_n 1, 6, 1, []) := rfl
set_option maxRecDepth 20000 in
theorem at_119_6 : am_at 119 6 = some (.iaload, 7, 0, []) := rfl
set_option maxRecDepth 20000 in
theorem at_119_7 : am_at 119 7 = some (.iconst (-1), 8, 4294967295, []) := rfl
set_option maxRecDepth 20000 in
theorem at_119_8 : am_at 119 8 = some (.ixor, 9, 0, []) := rfl
set_option maxRecDepth 20000 in
theorem at_119_9 : am_at 119 9 = some (.iand, 10, 0, []) := rfl
set_option maxRecDepth 20000 in
theorem at_119_10 : am_at 119 10 = some (.aload_n 0, 11, 0, []) := rfl
set_option maxRecDepth 20000 in
theorem at_119_11 : am_at 119 11 = some (.getfield 35, 14, 0, [8, 10, 3, 720]) := rfl
set_option maxRecDepth 20000 in
theorem at_119_14 : am_at 119 14 = some (.iload_n 1, 15, 1, []) := rfl
set_option maxRecDepth 20000 in
theorem at_119_15 : am_at 119 15 = some (.iaload, 16, 0, []) := rfl
set_option maxRecDepth 20000 in
theorem at_119_16 : am_at 119 16 = some (.aload_n 0, 17, 0, []) := rfl
set_option maxRecDepth 20000 in
theorem at_119_17 : am_at 119 17 = some (.getfield 32, 20, 0, [8, 9, 3, 719]) := rfl
set_option maxRecDepth 20000 in
theorem at_119_20 : am_at 119 20 = some (.iload_n 1, 21, 1, []) := rfl
set_option maxRecDepth 20000 in
theorem at_119_21 : am_at 119 21 = some (.iaload, 22, 0, []) := rfl
set_option maxRecDepth 20000 in
theorem at_119_22 : am_at 119 22 = some (.iand, 23, 0, []) := rfl
set_option maxRecDepth 20000 in
theorem at_119_23 : am_at 119 23 = some (.ior, 24, 0, []) := rfl
set_option maxRecDepth 20000 in
theorem at_119_24 : am_at 119 24 = some (.ireturn, 25, 0, [0]) := rfl
set_option maxRecDepth 20000 in
theorem at_120_0 : am_at 120 0 = some (.bipush 30, 2, 30, []) := rfl
set_option maxRecDepth 20000 in
theorem at_120_2 : am_at 120 2 = some (.aload_n 0, 3, 0, []) := rfl
set_option maxRecDepth 20000 in
theorem at_120_3 : am_at 120 3 = some (.getfield 230, 6, 0, [8, 49, 0, 759]) := rfl
set_option maxRecDepth 20000 in
theorem at_120_6 : am_at 120 6 = some (.imul, 7, 0, []) := rfl
set_option maxRecDepth 20000 in
theorem at_120_7 : am_at 120 7 = some (.iload_n 1, 8, 1, []) := rfl
set_option maxRecDepth 20000 in
theorem at_120_8 : am_at 120 8 = some (.iadd, 9, 0, []) := rfl
set_option maxRecDepth 20000 in
theorem at_120_9 : am_at 120 9 = some (.istore_n 3, 10, 3, []) := rfl
set_option maxRecDepth 20000 in
theorem at_120_10 : am_at 120 10 = some (.aload_n 0, 11, 0, []) := rfl
set_option maxRecDepth 20000 in
theorem at_120_11 : am_at 120 11 = some (.getfield 77, 14, 0, [8, 28, 3, 738]) := rfl
set_option maxRecDepth 20000 in
theorem at_120_14 : am_at 120 14 = some (.iload_n 3, 15, 3, []) := rfl
set_option maxRecDepth 20000 in
theorem at_120_15 : am_at 120 15 = some (.iload_n 2, 16, 2, []) := rfl
set_option maxRecDepth 20000 in
theorem at_120_16 : am_at 120 16 = some (.iastore, 17, 0, []) := rfl
set_option maxRecDepth 20000 in
theorem at_120_17 : am_at 120 17 = some (.aload_n 0, 18, 0, []) := rfl
set_option maxRecDepth 20000 in
theorem at_120_18 : am_at 120 18 = some (.getfield 242, 21, 0, [8, 39, 0, 749]) := rfl
set_option maxRecDepth 20000 in
theorem at_120_21 : am_at 120 21 = some (.bipush 40, 23, 40, []) := rfl
set_option maxRecDepth 20000 in
theorem at_120_23 : am_at 120 23 = some (.if_icmp .ge 23, 26, 46, []) := rfl
set_option maxRecDepth 20000 in
theorem at_120_26 : am_at 120 26 = some (.aload_n 0, 27, 0, []) := rfl
set_option maxRecDepth 20000 in
theorem at_120_27 : am_at 120 27 = some (.getfield 109, 30, 0, [8, 40, 3, 750]) := rfl
set_option maxRecDepth 20000 in
theorem at_120_30 : am_at 120 30 = some (.aload_n 0, 31, 0, []) := rfl
set_option maxRecDepth 20000 in
theorem at_120_31 : am_at 120 31 = some (.getfield 242, 34, 0, [8, 39, 0, 749]) := rfl
set_option maxRecDepth 20000 in
theorem at_120_34 : am_at 120 34 = some (.iload_n 1, 35, 1, []) := rfl
set_option maxRecDepth 20000 in
theorem at_120_35 : am_at 120 35 = some (.iastore, 36, 0, []) := rfl
set_option maxRecDepth 20000 in
theorem at_120_36 : am_at 120 36 = some (.aload_n 0, 37, 0, []) := rfl
set_option maxRecDepth 20000 in
theorem at_120_37 : am_at 120 37 = some (.getfield 112, 40, 0, [8, 41, 3, 751]) := rfl
set_option maxRecDepth 20000 in
theorem at_120_40 : am_at 120 40 = some (.aload_n 0, 41, 0, []) := rfl
set_option maxRecDepth 20000 in
theorem at_120_41 : am_at 120 41 = some (.getfield 242, 44, 0, [8, 39, 0, 749]) := rfl
set_option maxRecDepth 20000 in
theorem at_120_44 : am_at 120 44 = some (.iload_n 2, 45, 2, []) := rfl
set_option maxRecDepth 20000 in
theorem at_120_45 : am_at 120 45 = some (.iastore, 46, 0, []) := rfl
set_option maxRecDepth 20000 in
theorem at_120_46 : am_at 120 46 = some (.aload_n 0, 47, 0, []) := rfl
set_option maxRecDepth 20000 in
theorem at_120_47 : am_at 120 47 = some (.dup, 48, 0, []) := rfl
set_option maxRecDepth 20000 in
theorem at_120_48 : am_at 120 48 = some (.getfield 242, 51, 0, [8, 39, 0, 749]) := rfl
set_option maxRecDepth 20000 in
theorem at_120_51 : am_at 120 51 = some (.iconst 1, 52, 1, []) := rfl
set_option maxRecDepth 20000 in
theorem at_120_52 : am_at 120 52 = some (.iadd, 53, 0, []) := rfl
set_option maxRecDepth 20000 in
theorem at_120_53 : am_at 120 53 = some (.putfield 242, 56, 0, [8, 39, 0, 749]) := rfl
set_option maxRecDepth 20000 in
theorem at_120_56 : am_at 120 56 = some (.aload_n 0, 57, 0, []) := rfl
set_option maxRecDepth 20000 in
theorem at_120_57 : am_at 120 57 = some (.iload_n 2, 58, 2, []) := rfl
set_option maxRecDepth 20000 in
theorem at_120_58 : am_at 120 58 = some (.putfield 245, 61, 0, [8, 50, 0, 760]) := rfl
set_option maxRecDepth 20000 in
theorem at_120_61 : am_at 120 61 = some (.aload_n 0, 62, 0, []) := rfl
set_option maxRecDepth 20000 in
theorem at_120_62 : am_at 120 62 = some (.bipush (-4), 64, 4294967292, []) := rfl
set_option maxRecDepth 20000 in
theorem at_120_64 : am_at 120 64 = some (.putfield 248, 67, 0, [8, 51, 0, 761]) := rfl
set_option maxRecDepth 20000 in
theorem at_120_67 : am_at 120 67 = some (.return_, 68, 0, []) := rfl
set_option maxRecDepth 20000 in
theorem at_121_0 : am_at 121 0 = some (.bipush 30, 2, 30, []) := rfl
set_option maxRecDepth 20000 in
theorem at_121_2 : am_at 121 2 = some (.aload_n 0, 3, 0, []) := rfl
set_option maxRecDepth 20000 in
theorem at_121_3 : am_at 121 3 = some (.getfield 71, 6, 0, [8, 26, 3, 736]) := rfl
set_option maxRecDepth 20000 in
theorem at_121_6 : am_at 121 6 = some (.aload_n 0, 7, 0, []) := rfl
set_option maxRecDepth 20000 in
theorem at_121_7 : am_at 121 7 = some (.getfield 230, 10, 0, [8, 49, 0, 759]) := rfl
set_option maxRecDepth 20000 in
theorem at_121_10 : am_at 121 10 = some (.iaload, 11, 0, []) := rfl
set_option maxRecDepth 20000 in
theorem at_121_11 : am_at 121 11 = some (.imul, 12, 0, []) := rfl
set_option maxRecDepth 20000 in
theorem at_121_12 : am_at 121 12 = some (.iload_n 1, 13, 1, []) := rfl
set_option maxRecDepth 20000 in
theorem at_121_13 : am_at 121 13 = some (.iadd, 14, 0, []) := rfl
set_option maxRecDepth 20000 in
theorem at_121_14 : am_at 121 14 = some (.istore_n 2, 15, 2, []) := rfl
set_option maxRecDepth 20000 in
theorem at_121_15 : am_at 121 15 = some (.aload_n 0, 16, 0, []) := rfl
set_option maxRecDepth 20000 in
theorem at_121_16 : am_at 121 16 = some (.getfield 53, 19, 0, [8, 19, 3, 729]) := rfl
set_option maxRecDepth 20000 in
theorem at_121_19 : am_at 121 19 = some (.iload_n 2, 20, 2, []) := rfl
set_option maxRecDepth 20000 in
theorem at_121_20 : am_at 121 20 = some (.iaload, 21, 0, []) := rfl
set_option maxRecDepth 20000 in
theorem at_121_21 : am_at 121 21 = some (.istore_n 3, 22, 3, []) := rfl
set_option maxRecDepth 20000 in
theorem at_121_22 : am_at 121 22 = some (.aload_n 0, 23, 0, []) := rfl
set_option maxRecDepth 20000 in
theorem at_121_23 : am_at 121 23 = some (.getfield 56, 26, 0, [8, 20, 3, 730]) := rfl
set_option maxRecDepth 20000 in
theorem at_121_26 : am_at 121 26 = some (.iload_n 2, 27, 2, []) := rfl
set_option maxRecDepth 20000 in
theorem at_121_27 : am_at 121 27 = some (.iaload, 28, 0, []) := rfl
set_option maxRecDepth 20000 in
theorem at_121_28 : am_at 121 28 = some (.istore 4, 30, 4, []) := rfl
set_option maxRecDepth 20000 in
theorem at_121_30 : am_at 121 30 = some (.iload_n 3, 31, 3, []) := rfl
set_option maxRecDepth 20000 in
theorem at_121_31 : am_at 121 31 = some (.iconst 4, 32, 4, []) := rfl
set_option maxRecDepth 20000 in
theorem at_121_32 : am_at 121 32 = some (.if_icmp .ne 26, 35, 58, []) := rfl
set_option maxRecDepth 20000 in
theorem at_121_35 : am_at 121 35 = some (.aload_n 0, 36, 0, []) := rfl
set_option maxRecDepth 20000 in
theorem at_121_36 : am_at 121 36 = some (.getfield 227, 39, 0, [8, 0, 0, 710]) := rfl
set_option maxRecDepth 20000 in
theorem at_121_39 : am_at 121 39 = some (.aload_n 0, 40, 0, []) := rfl
set_option maxRecDepth 20000 in
theorem at_121_40 : am_at 121 40 = some (.getfield 59, 43, 0, [8, 21, 3, 731]) := rfl
set_option maxRecDepth 20000 in
theorem at_121_43 : am_at 121 43 = some (.iload_n 2, 44, 2, []) := rfl
set_option maxRecDepth 20000 in
theorem at_121_44 : am_at 121 44 = some (.iaload, 45, 0, []) := rfl
set_option maxRecDepth 20000 in
theorem at_121_45 : am_at 121 45 = some (.ishr, 46, 0, []) := rfl
set_option maxRecDepth 20000 in
theorem at_121_46 : am_at 121 46 = some (.iconst 1, 47, 1, []) := rfl
set_option maxRecDepth 20000 in
theorem at_121_47 : am_at 121 47 = some (.iand, 48, 0, []) := rfl
set_option maxRecDepth 20000 in
theorem at_121_48 : am_at 121 48 = some (.iconst 1, 49, 1, []) := rfl
set_option maxRecDepth 20000 in
theorem at_121_49 : am_at 121 49 = some (.if_icmp .ne 7, 52, 56, []) := rfl
set_option maxRecDepth 20000 in
theorem at_121_52 : am_at 121 52 = some (.iconst 1, 53, 1, []) := rfl
set_option maxRecDepth 20000 in
theorem at_121_53 : am_at 121 53 = some (.goto 4, 56, 57, []) := rfl
set_option maxRecDepth 20000 in
theorem at_121_56 : am_at 121 56 = some (.iconst 0, 57, 0, []) := rfl
set_option maxRecDepth 20000 in
theorem at_121_57 : am_at 121 57 = some (.ireturn, 58, 0, [1]) := rfl
set_option maxRecDepth 20000 in
theorem at_121_58 : am_at 121 58 = some (.iload_n 3, 59, 3, []) := rfl
set_option maxRecDepth 20000 in
theorem at_121_59 : am_at 121 59 = some (.iconst 2, 60, 2, []) := rfl
set_option maxRecDepth 20000 in
theorem at_121_60 : am_at 121 60 = some (.if_icmp .ge 7, 63, 67, []) := rfl
set_option maxRecDepth 20000 in
theorem at_121_63 : am_at 121 63 = some (.iconst 1, 64, 1, []) := rfl
set_option maxRecDepth 20000 in
theorem at_121_64 : am_at 121 64 = some (.goto 4, 67, 68, []) := rfl
set_option maxRecDepth 20000 in
theorem at_121_67 : am_at 121 67 = some (.iload_n 3, 68, 3, []) := rfl
set_option maxRecDepth 20000 in
theorem at_121_68 : am_at 121 68 = some (.istore 5, 70, 5, []) := rfl
set_option maxRecDepth 20000 in
theorem at_121_70 : am_at 121 70 = some (.aload_n 0, 71, 0, []) := rfl
set_option maxRecDepth 20000 in
theorem at_121_71 : am_at 121 71 = some (.getfield 7, 74, 0, [8, 1, 3, 711]) := rfl
set_option maxRecDepth 20000 in
theorem at_121_74 : am_at 121 74 = some (.iload 4, 76, 4, []) := rfl
set_option maxRecDepth 20000 in
theorem at_121_76 : am_at 121 76 = some (.iaload, 77, 0, []) := rfl
set_option maxRecDepth 20000 in
theorem at_121_77 : am_at 121 77 = some (.iload 5, 79, 5, []) := rfl
set_option maxRecDepth 20000 in
theorem at_121_79 : am_at 121 79 = some (.if_icmp .eq 25, 82, 104, []) := rfl
set_option maxRecDepth 20000 in
theorem at_121_82 : am_at 121 82 = some (.aload_n 0, 83, 0, []) := rfl
set_option maxRecDepth 20000 in
theorem at_121_83 : am_at 121 83 = some (.iload_n 1, 84, 1, []) := rfl
set_option maxRecDepth 20000 in
theorem at_121_84 : am_at 121 84 = some (.aload_n 0, 85, 0, []) := rfl
set_option maxRecDepth 20000 in
theorem at_121_85 : am_at 121 85 = some (.getfield 7, 88, 0, [8, 1, 3, 711]) := rfl
set_option maxRecDepth 20000 in
theorem at_121_88 : am_at 121 88 = some (.iload 4, 90, 4, []) := rfl
set_option maxRecDepth 20000 in
theorem at_121_90 : am_at 121 90 = some (.iaload, 91, 0, []) := rfl
set_option maxRecDepth 20000 in
theorem at_121_91 : am_at 121 91 = some (.ifCond .ne 7, 94, 98, []) := rfl
set_option maxRecDepth 20000 in
theorem at_121_94 : am_at 121 94 = some (.iconst 1, 95, 1, []) := rfl
set_option maxRecDepth 20000 in
theorem at_121_95 : am_at 121 95 = some (.goto 4, 98, 99, []) := rfl
set_option maxRecDepth 20000 in
theorem at_121_98 : am_at 121 98 = some (.iconst 3, 99, 3, []) := rfl
set_option maxRecDepth 20000 in
theorem at_121_99 : am_at 121 99 = some (.invokevirtual 233, 102, 122, [0, 2, 8, 981, 983, 43, 60]) := rfl
set_option maxRecDepth 20000 in
theorem at_121_102 : am_at 121 102 = some (.iconst 0, 103, 0, []) := rfl
set_option maxRecDepth 20000 in
theorem at_121_103 : am_at 121 103 = some (.ireturn, 104, 0, [1]) := rfl
set_option maxRecDepth 20000 in
theorem at_121_104 : am_at 121 104 = some (.iload_n 3, 105, 3, []) := rfl
set_option maxRecDepth 20000 in
theorem at_121_105 : am_at 121 105 = some (.iconst 3, 106, 3, []) := rfl
set_option maxRecDepth 20000 in
theorem at_121_106 : am_at 121 106 = some (.if_icmp .ne 60, 109, 166, []) := rfl
set_option maxRecDepth 20000 in
theorem at_121_109 : am_at 121 109 = some (.aload_n 0, 110, 0, []) := rfl
set_option maxRecDepth 20000 in
theorem at_121_110 : am_at 121 110 = some (.getfield 59, 113, 0, [8, 21, 3, 731]) := rfl
set_option maxRecDepth 20000 in
theorem at_121_113 : am_at 121 113 = some (.iload_n 2, 114, 2, []) := rfl
set_option maxRecDepth 20000 in
theorem at_121_114 : am_at 121 114 = some (.iaload, 115, 0, []) := rfl
set_option maxRecDepth 20000 in
theorem at_121_115 : am_at 121 115 = some (.i2l, 116, 0, []) := rfl
set_option maxRecDepth 20000 in
theorem at_121_116 : am_at 121 116 = some (.lconst 0, 117, 0, []) := rfl
set_option maxRecDepth 20000 in
theorem at_121_117 : am_at 121 117 = some (.aload_n 0, 118, 0, []) := rfl
set_option maxRecDepth 20000 in
theorem at_121_118 : am_at 121 118 = some (.getfield 13, 121, 0, [8, 2, 3, 712]) := rfl
set_option maxRecDepth 20000 in
theorem at_121_121 : am_at 121 121 = some (.iload 4, 123, 4, []) := rfl
set_option maxRecDepth 20000 in
theorem at_121_123 : am_at 121 123 = some (.laload, 124, 0, []) := rfl
set_option maxRecDepth 20000 in
theorem at_121_124 : am_at 121 124 = some (.lconst 1, 125, 1, []) := rfl
set_option maxRecDepth 20000 in
theorem at_121_125 : am_at 121 125 = some (.lsub, 126, 0, []) := rfl
set_option maxRecDepth 20000 in
theorem at_121_126 : am_at 121 126 = some (.invokestatic 135, 129, 96, [0, 3, 872, 873, 60]) := rfl
set_option maxRecDepth 20000 in
theorem at_121_129 : am_at 121 129 = some (.ifCond .ne 11, 132, 140, []) := rfl
set_option maxRecDepth 20000 in
theorem at_121_132 : am_at 121 132 = some (.aload_n 0, 133, 0, []) := rfl
set_option maxRecDepth 20000 in
theorem at_121_133 : am_at 121 133 = some (.iload_n 1, 134, 1, []) := rfl
set_option maxRecDepth 20000 in
theorem at_121_134 : am_at 121 134 = some (.iconst 2, 135, 2, []) := rfl
set_option maxRecDepth 20000 in
theorem at_121_135 : am_at 121 135 = some (.invokevirtual 233, 138, 122, [0, 2, 8, 981, 983, 43, 60]) := rfl
set_option maxRecDepth 20000 in
theorem at_121_138 : am_at 121 138 = some (.iconst 0, 139, 0, []) := rfl
set_option maxRecDepth 20000 in
theorem at_121_139 : am_at 121 139 = some (.ireturn, 140, 0, [1]) := rfl
set_option maxRecDepth 20000 in
theorem at_121_140 : am_at 121 140 = some (.aload_n 0, 141, 0, []) := rfl
set_option maxRecDepth 20000 in
theorem at_121_141 : am_at 121 141 = some (.getfield 17, 144, 0, [8, 3, 3, 713]) := rfl
set_option maxRecDepth 20000 in
theorem at_121_144 : am_at 121 144 = some (.bipush 6, 146, 6, []) := rfl
set_option maxRecDepth 20000 in
theorem at_121_146 : am_at 121 146 = some (.iload 4, 148, 4, []) := rfl
set_option maxRecDepth 20000 in
theorem at_121_148 : am_at 121 148 = some (.imul, 149, 0, []) := rfl
set_option maxRecDepth 20000 in
theorem at_121_149 : am_at 121 149 = some (.aload_n 0, 150, 0, []) := rfl
set_option maxRecDepth 20000 in
theorem at_121_150 : am_at 121 150 = some (.getfield 59, 153, 0, [8, 21, 3, 731]) := rfl
set_option maxRecDepth 20000 in
theorem at_121_153 : am_at 121 153 = some (.iload_n 2, 154, 2, []) := rfl
set_option maxRecDepth 20000 in
theorem at_121_154 : am_at 121 154 = some (.iaload, 155, 0, []) := rfl
set_option maxRecDepth 20000 in
theorem at_121_155 : am_at 121 155 = some (.iadd, 156, 0, []) := rfl
set_option maxRecDepth 20000 in
theorem at_121_156 : am_at 121 156 = some (.iaload, 157, 0, []) := rfl
set_option maxRecDepth 20000 in
theorem at_121_157 : am_at 121 157 = some (.ifCond .le 7, 160, 164, []) := rfl
set_option maxRecDepth 20000 in
theorem at_121_160 : am_at 121 160 = some (.iconst 1, 161, 1, []) := rfl
set_option maxRecDepth 20000 in
theorem at_121_161 : am_at 121 161 = some (.goto 4, 164, 165, []) := rfl
set_option maxRecDepth 20000 in
theorem at_121_164 : am_at 121 164 = some (.iconst 0, 165, 0, []) := rfl
set_option maxRecDepth 20000 in
theorem at_121_165 : am_at 121 165 = some (.ireturn, 166, 0, [1]) := rfl
set_option maxRecDepth 20000 in
theorem at_121_166 : am_at 121 166 = some (.iload_n 3, 167, 3, []) := rfl
set_option maxRecDepth 20000 in
theorem at_121_167 : am_at 121 167 = some (.ifCond .ne 29, 170, 196, []) := rfl
set_option maxRecDepth 20000 in
theorem at_121_170 : am_at 121 170 = some (.aload_n 0, 171, 0, []) := rfl
set_option maxRecDepth 20000 in
theorem at_121_171 : am_at 121 171 = some (.getfield 13, 174, 0, [8, 2, 3, 712]) := rfl
set_option maxRecDepth 20000 in
theorem at_121_174 : am_at 121 174 = some (.iload 4, 176, 4, []) := rfl
set_option maxRecDepth 20000 in
theorem at_121_176 : am_at 121 176 = some (.laload, 177, 0, []) := rfl
set_option maxRecDepth 20000 in
theorem at_121_177 : am_at 121 177 = some (.aload_n 0, 178, 0, []) := rfl
set_option maxRecDepth 20000 in
theorem at_121_178 : am_at 121 178 = some (.getfield 59, 181, 0, [8, 21, 3, 731]) := rfl
set_option maxRecDepth 20000 in
theorem at_121_181 : am_at 121 181 = some (.iload_n 2, 182, 2, []) := rfl
set_option maxRecDepth 20000 in
theorem at_121_182 : am_at 121 182 = some (.iaload, 183, 0, []) := rfl
set_option maxRecDepth 20000 in
theorem at_121_183 : am_at 121 183 = some (.i2l, 184, 0, []) := rfl
set_option maxRecDepth 20000 in
theorem at_121_184 : am_at 121 184 = some (.lcmp, 185, 0, []) := rfl
set_option maxRecDepth 20000 in
theorem at_121_185 : am_at 121 185 = some (.ifCond .le 7, 188, 192, []) := rfl
set_option maxRecDepth 20000 in
theorem at_121_188 : am_at 121 188 = some (.iconst 1, 189, 1, []) := rfl
set_option maxRecDepth 20000 in
theorem at_121_189 : am_at 121 189 = some (.goto 55, 192, 244, []) := rfl
set_option maxRecDepth 20000 in
theorem at_121_192 : am_at 121 192 = some (.iconst 0, 193, 0, []) := rfl
set_option maxRecDepth 20000 in
theorem at_121_193 : am_at 121 193 = some (.goto 51, 196, 244, []) := rfl
set_option maxRecDepth 20000 in
theorem at_121_196 : am_at 121 196 = some (.iload_n 3, 197, 3, []) := rfl
set_option maxRecDepth 20000 in
theorem at_121_197 : am_at 121 197 = some (.iconst 1, 198, 1, []) := rfl
set_option maxRecDepth 20000 in
theorem at_121_198 : am_at 121 198 = some (.if_icmp .ne 29, 201, 227, []) := rfl
set_option maxRecDepth 20000 in
theorem at_121_201 : am_at 121 201 = some (.aload_n 0, 202, 0, []) := rfl
set_option maxRecDepth 20000 in
theorem at_121_202 : am_at 121 202 = some (.getfield 13, 205, 0, [8, 2, 3, 712]) := rfl
set_option maxRecDepth 20000 in
theorem at_121_205 : am_at 121 205 = some (.iload 4, 207, 4, []) := rfl
set_option maxRecDepth 20000 in
theorem at_121_207 : am_at 121 207 = some (.laload, 208, 0, []) := rfl
set_option maxRecDepth 20000 in
theorem at_121_208 : am_at 121 208 = some (.aload_n 0, 209, 0, []) := rfl
set_option maxRecDepth 20000 in
theorem at_121_209 : am_at 121 209 = some (.getfield 59, 212, 0, [8, 21, 3, 731]) := rfl
set_option maxRecDepth 20000 in
theorem at_121_212 : am_at 121 212 = some (.iload_n 2, 213, 2, []) := rfl
set_option maxRecDepth 20000 in
theorem at_121_213 : am_at 121 213 = some (.iaload, 214, 0, []) := rfl
set_option maxRecDepth 20000 in
theorem at_121_214 : am_at 121 214 = some (.i2l, 215, 0, []) := rfl
set_option maxRecDepth 20000 in
theorem at_121_215 : am_at 121 215 = some (.lcmp, 216, 0, []) := rfl
set_option maxRecDepth 20000 in
theorem at_121_216 : am_at 121 216 = some (.ifCond .ne 7, 219, 223, []) := rfl
set_option maxRecDepth 20000 in
theorem at_121_219 : am_at 121 219 = some (.iconst 1, 220, 1, []) := rfl
set_option maxRecDepth 20000 in
theorem at_121_220 : am_at 121 220 = some (.goto 24, 223, 244, []) := rfl
set_option maxRecDepth 20000 in
theorem at_121_223 : am_at 121 223 = some (.iconst 0, 224, 0, []) := rfl
set_option maxRecDepth 20000 in
theorem at_121_224 : am_at 121 224 = some (.goto 20, 227, 244, []) := rfl
set_option maxRecDepth 20000 in
theorem at_121_227 : am_at 121 227 = some (.aload_n 0, 228, 0, []) := rfl
set_option maxRecDepth 20000 in
theorem at_121_228 : am_at 121 228 = some (.getfield 13, 231, 0, [8, 2, 3, 712]) := rfl
set_option maxRecDepth 20000 in
theorem at_121_231 : am_at 121 231 = some (.iload 4, 233, 4, []) := rfl
set_option maxRecDepth 20000 in
theorem at_121_233 : am_at 121 233 = some (.laload, 234, 0, []) := rfl
set_option maxRecDepth 20000 in
theorem at_121_234 : am_at 121 234 = some (.lconst 0, 235, 0, []) := rfl
set_option maxRecDepth 20000 in
theorem at_121_235 : am_at 121 235 = some (.lcmp, 236, 0, []) := rfl
set_option maxRecDepth 20000 in
theorem at_121_236 : am_at 121 236 = some (.ifCond .eq 7, 239, 243, []) := rfl
set_option maxRecDepth 20000 in
theorem at_121_239 : am_at 121 239 = some (.iconst 1, 240, 1, []) := rfl
set_option maxRecDepth 20000 in
theorem at_121_240 : am_at 121 240 = some (.goto 4, 243, 244, []) := rfl
set_option maxRecDepth 20000 in
theorem at_121_243 : am_at 121 243 = some (.iconst 0, 244, 0, []) := rfl
set_option maxRecDepth 20000 in
theorem at_121_244 : am_at 121 244 = some (.ireturn, 245, 0, [1]) := rfl
set_option maxRecDepth 20000 in
theorem at_122_0 : am_at 122 0 = some (.aload_n 0, 1, 0, []) := rfl
set_option maxRecDepth 20000 in
theorem at_122_1 : am_at 122 1 = some (.getfield 74, 4, 0, [8, 27, 3, 737]) := rfl
set_option maxRecDepth 20000 in
theorem at_122_4 : am_at 122 4 = some (.bipush 8, 6, 8, []) := rfl
set_option maxRecDepth 20000 in
theorem at_122_6 : am_at 122 6 = some (.aload_n 0, 7, 0, []) := rfl
set_option maxRecDepth 20000 in
theorem at_122_7 : am_at 122 7 = some (.getfield 230, 10, 0, [8, 49, 0, 759]) := rfl
set_option maxRecDepth 20000 in
theorem at_122_10 : am_at 122 10 = some (.imul, 11, 0, []) := rfl
set_option maxRecDepth 20000 in
theorem at_122_11 : am_at 122 11 = some (.iconst 4, 12, 4, []) := rfl
set_option maxRecDepth 20000 in
theorem at_122_12 : am_at 122 12 = some (.iadd, 13, 0, []) := rfl
set_option maxRecDepth 20000 in
theorem at_122_13 : am_at 122 13 = some (.dup2, 14, 0, []) := rfl
set_option maxRecDepth 20000 in
theorem at_122_14 : am_at 122 14 = some (.iaload, 15, 0, []) := rfl
set_option maxRecDepth 20000 in
theorem at_122_15 : am_at 122 15 = some (.iconst 1, 16, 1, []) := rfl
set_option maxRecDepth 20000 in
theorem at_122_16 : am_at 122 16 = some (.iadd, 17, 0, []) := rfl
set_option maxRecDepth 20000 in
theorem at_122_17 : am_at 122 17 = some (.iastore, 18, 0, []) := rfl
set_option maxRecDepth 20000 in
theorem at_122_18 : am_at 122 18 = some (.aload_n 0, 19, 0, []) := rfl
set_option maxRecDepth 20000 in
theorem at_122_19 : am_at 122 19 = some (.getfield 74, 22, 0, [8, 27, 3, 737]) := rfl
set_option maxRecDepth 20000 in
theorem at_122_22 : am_at 122 22 = some (.bipush 8, 24, 8, []) := rfl
set_option maxRecDepth 20000 in
theorem at_122_24 : am_at 122 24 = some (.aload_n 0, 25, 0, []) := rfl
set_option maxRecDepth 20000 in
theorem at_122_25 : am_at 122 25 = some (.getfield 230, 28, 0, [8, 49, 0, 759]) := rfl
set_option maxRecDepth 20000 in
theorem at_122_28 : am_at 122 28 = some (.imul, 29, 0, []) := rfl
set_option maxRecDepth 20000 in
theorem at_122_29 : am_at 122 29 = some (.iconst 5, 30, 5, []) := rfl
set_option maxRecDepth 20000 in
theorem at_122_30 : am_at 122 30 = some (.iadd, 31, 0, []) := rfl
set_option maxRecDepth 20000 in
theorem at_122_31 : am_at 122 31 = some (.iload_n 2, 32, 2, []) := rfl
set_option maxRecDepth 20000 in
theorem at_122_32 : am_at 122 32 = some (.iastore, 33, 0, []) := rfl
set_option maxRecDepth 20000 in
theorem at_122_33 : am_at 122 33 = some (.aload_n 0, 34, 0, []) := rfl
set_option maxRecDepth 20000 in
theorem at_122_34 : am_at 122 34 = some (.getfield 74, 37, 0, [8, 27, 3, 737]) := rfl
set_option maxRecDepth 20000 in
theorem at_122_37 : am_at 122 37 = some (.bipush 8, 39, 8, []) := rfl
set_option maxRecDepth 20000 in
theorem at_122_39 : am_at 122 39 = some (.aload_n 0, 40, 0, []) := rfl
set_option maxRecDepth 20000 in
theorem at_122_40 : am_at 122 40 = some (.getfield 230, 43, 0, [8, 49, 0, 759]) := rfl
set_option maxRecDepth 20000 in
theorem at_122_43 : am_at 122 43 = some (.imul, 44, 0, []) := rfl
set_option maxRecDepth 20000 in
theorem at_122_44 : am_at 122 44 = some (.bipush 6, 46, 6, []) := rfl
set_option maxRecDepth 20000 in
theorem at_122_46 : am_at 122 46 = some (.iadd, 47, 0, []) := rfl
set_option maxRecDepth 20000 in
theorem at_122_47 : am_at 122 47 = some (.iload_n 1, 48, 1, []) := rfl
set_option maxRecDepth 20000 in
theorem at_122_48 : am_at 122 48 = some (.iastore, 49, 0, []) := rfl
set_option maxRecDepth 20000 in
theorem at_122_49 : am_at 122 49 = some (.return_, 50, 0, []) := rfl
set_option maxRecDepth 20000 in
theorem at_123_0 : am_at 123 0 = some (.bipush 30, 2, 30, []) := rfl
set_option maxRecDepth 20000 in
theorem at_123_2 : am_at 123 2 = some (.aload_n 0, 3, 0, []) := rfl
set_option maxRecDepth 20000 in
theorem at_123_3 : am_at 123 3 = some (.getfield 71, 6, 0, [8, 26, 3, 736]) := rfl
set_option maxRecDepth 20000 in
theorem at_123_6 : am_at 123 6 = some (.aload_n 0, 7, 0, []) := rfl
set_option maxRecDepth 20000 in
theorem at_123_7 : am_at 123 7 = some (.getfield 230, 10, 0, [8, 49, 0, 759]) := rfl
set_option maxRecDepth 20000 in
theorem at_123_10 : am_at 123 10 = some (.iaload, 11, 0, []) := rfl
set_option maxRecDepth 20000 in
theorem at_123_11 : am_at 123 11 = some (.imul, 12, 0, []) := rfl
set_option maxRecDepth 20000 in
theorem at_123_12 : am_at 123 12 = some (.iload_n 1, 13, 1, []) := rfl
set_option maxRecDepth 20000 in
theorem at_123_13 : am_at 123 13 = some (.iadd, 14, 0, []) := rfl
set_option maxRecDepth 20000 in
theorem at_123_14 : am_at 123 14 = some (.istore_n 2, 15, 2, []) := rfl
set_option maxRecDepth 20000 in
theorem at_123_15 : am_at 123 15 = some (.bipush 30, 17, 30, []) := rfl
set_option maxRecDepth 20000 in
theorem at_123_17 : am_at 123 17 = some (.aload_n 0, 18, 0, []) := rfl
set_option maxRecDepth 20000 in
theorem at_123_18 : am_at 123 18 = some (.getfield 230, 21, 0, [8, 49, 0, 759]) := rfl
set_option maxRecDepth 20000 in
theorem at_123_21 : am_at 123 21 = some (.imul, 22, 0, []) := rfl
set_option maxRecDepth 20000 in
theorem at_123_22 : am_at 123 22 = some (.iload_n 1, 23, 1, []) := rfl
set_option maxRecDepth 20000 in
theorem at_123_23 : am_at 123 23 = some (.iadd, 24, 0, []) := rfl
set_option maxRecDepth 20000 in
theorem at_123_24 : am_at 123 24 = some (.istore_n 3, 25, 3, []) := rfl
set_option maxRecDepth 20000 in
theorem at_123_25 : am_at 123 25 = some (.aload_n 0, 26, 0, []) := rfl
set_option maxRecDepth 20000 in
theorem at_123_26 : am_at 123 26 = some (.getfield 227, 29, 0, [8, 0, 0, 710]) := rfl
set_option maxRecDepth 20000 in
theorem at_123_29 : am_at 123 29 = some (.aload_n 0, 30, 0, []) := rfl
set_option maxRecDepth 20000 in
theorem at_123_30 : am_at 123 30 = some (.getfield 53, 33, 0, [8, 19, 3, 729]) := rfl
set_option maxRecDepth 20000 in
theorem at_123_33 : am_at 123 33 = some (.iload_n 2, 34, 2, []) := rfl
set_option maxRecDepth 20000 in
theorem at_123_34 : am_at 123 34 = some (.iaload, 35, 0, []) := rfl
set_option maxRecDepth 20000 in
theorem at_123_35 : am_at 123 35 = some (.aload_n 0, 36, 0, []) := rfl
set_option maxRecDepth 20000 in
theorem at_123_36 : am_at 123 36 = some (.getfield 56, 39, 0, [8, 20, 3, 730]) := rfl
set_option maxRecDepth 20000 in
theorem at_123_39 : am_at 123 39 = some (.iload_n 2, 40, 2, []) := rfl
set_option maxRecDepth 20000 in
theorem at_123_40 : am_at 123 40 = some (.iaload, 41, 0, []) := rfl
set_option maxRecDepth 20000 in
theorem at_123_41 : am_at 123 41 = some (.invokestatic 217, 44, 124, [0, 3, 989, 990, 60]) := rfl
set_option maxRecDepth 20000 in
theorem at_123_44 : am_at 123 44 = some (.ifCond .eq 5, 47, 49, []) := rfl
set_option maxRecDepth 20000 in
theorem at_123_47 : am_at 123 47 = some (.iconst 1, 48, 1, []) := rfl
set_option maxRecDepth 20000 in
theorem at_123_48 : am_at 123 48 = some (.ireturn, 49, 0, [0]) := rfl
set_option maxRecDepth 20000 in
theorem at_123_49 : am_at 123 49 = some (.aload_n 0, 50, 0, []) := rfl
set_option maxRecDepth 20000 in
theorem at_123_50 : am_at 123 50 = some (.getfield 93, 53, 0, [8, 33, 3, 743]) := rfl
set_option maxRecDepth 20000 in
theorem at_123_53 : am_at 123 53 = some (.iload_n 3, 54, 3, []) := rfl
set_option maxRecDepth 20000 in
theorem at_123_54 : am_at 123 54 = some (.iaload, 55, 0, []) := rfl
set_option maxRecDepth 20000 in
theorem at_123_55 : am_at 123 55 = some (.ifCond .eq 25, 58, 80, []) := rfl
set_option maxRecDepth 20000 in
theorem at_123_58 : am_at 123 58 = some (.aload_n 0, 59, 0, []) := rfl
set_option maxRecDepth 20000 in
theorem at_123_59 : am_at 123 59 = some (.getfield 83, 62, 0, [8, 30, 3, 740]) := rfl
set_option maxRecDepth 20000 in
theorem at_123_62 : am_at 123 62 = some (.iload_n 3, 63, 3, []) := rfl
set_option maxRecDepth 20000 in
theorem at_123_63 : am_at 123 63 = some (.baload, 64, 0, []) := rfl
set_option maxRecDepth 20000 in
theorem at_123_64 : am_at 123 64 = some (.ifCond .ne 75, 67, 139, []) := rfl
set_option maxRecDepth 20000 in
theorem at_123_67 : am_at 123 67 = some (.aload_n 0, 68, 0, []) := rfl
set_option maxRecDepth 20000 in
theorem at_123_68 : am_at 123 68 = some (.getfield 227, 71, 0, [8, 0, 0, 710]) := rfl
set_option maxRecDepth 20000 in
theorem at_123_71 : am_at 123 71 = some (.aload_n 0, 72, 0, []) := rfl
set_option maxRecDepth 20000 in
theorem at_123_72 : am_at 123 72 = some (.getfield 99, 75, 0, [8, 35, 3, 745]) := rfl
set_option maxRecDepth 20000 in
theorem at_123_75 : am_at 123 75 = some (.iload_n 3, 76, 3, []) := rfl
set_option maxRecDepth 20000 in
theorem at_123_76 : am_at 123 76 = some (.iaload, 77, 0, []) := rfl
set_option maxRecDepth 20000 in
theorem at_123_77 : am_at 123 77 = some (.if_icmp .eq 62, 80, 139, []) := rfl
set_option maxRecDepth 20000 in
theorem at_123_80 : am_at 123 80 = some (.aload_n 0, 81, 0, []) := rfl
set_option maxRecDepth 20000 in
theorem at_123_81 : am_at 123 81 = some (.getfield 93, 84, 0, [8, 33, 3, 743]) := rfl
set_option maxRecDepth 20000 in
theorem at_123_84 : am_at 123 84 = some (.iload_n 3, 85, 3, []) := rfl
set_option maxRecDepth 20000 in
theorem at_123_85 : am_at 123 85 = some (.aload_n 0, 86, 0, []) := rfl
set_option maxRecDepth 20000 in
theorem at_123_86 : am_at 123 86 = some (.iload_n 3, 87, 3, []) := rfl
set_option maxRecDepth 20000 in
theorem at_123_87 : am_at 123 87 = some (.iload_n 2, 88, 2, []) := rfl
set_option maxRecDepth 20000 in
theorem at_123_88 : am_at 123 88 = some (.invokevirtual 236, 91, 125, [0, 2, 8, 992, 994, 45, 60]) := rfl
set_option maxRecDepth 20000 in
theorem at_123_91 : am_at 123 91 = some (.iastore, 92, 0, []) := rfl
set_option maxRecDepth 20000 in
theorem at_123_92 : am_at 123 92 = some (.aload_n 0, 93, 0, []) := rfl
set_option maxRecDepth 20000 in
theorem at_123_93 : am_at 123 93 = some (.getfield 90, 96, 0, [8, 32, 3, 742]) := rfl
set_option maxRecDepth 20000 in
theorem at_123_96 : am_at 123 96 = some (.iload_n 3, 97, 3, []) := rfl
set_option maxRecDepth 20000 in
theorem at_123_97 : am_at 123 97 = some (.iconst 0, 98, 0, []) := rfl
set_option maxRecDepth 20000 in
theorem at_123_98 : am_at 123 98 = some (.iastore, 99, 0, []) := rfl
set_option maxRecDepth 20000 in
theorem at_123_99 : am_at 123 99 = some (.aload_n 0, 100, 0, []) := rfl
set_option maxRecDepth 20000 in
theorem at_123_100 : am_at 123 100 = some (.getfield 99, 103, 0, [8, 35, 3, 745]) := rfl
set_option maxRecDepth 20000 in
theorem at_123_103 : am_at 123 103 = some (.iload_n 3, 104, 3, []) := rfl
set_option maxRecDepth 20000 in
theorem at_123_104 : am_at 123 104 = some (.aload_n 0, 105, 0, []) := rfl
set_option maxRecDepth 20000 in
theorem at_123_105 : am_at 123 105 = some (.getfield 227, 108, 0, [8, 0, 0, 710]) := rfl
set_option maxRecDepth 20000 in
theorem at_123_108 : am_at 123 108 = some (.iastore, 109, 0, []) := rfl
set_option maxRecDepth 20000 in
theorem at_123_109 : am_at 123 109 = some (.aload_n 0, 110, 0, []) := rfl
set_option maxRecDepth 20000 in
theorem at_123_110 : am_at 123 110 = some (.getfield 93, 113, 0, [8, 33, 3, 743]) := rfl
set_option maxRecDepth 20000 in
theorem at_123_113 : am_at 123 113 = some (.iload_n 3, 114, 3, []) := rfl
set_option maxRecDepth 20000 in
theorem at_123_114 : am_at 123 114 = some (.iaload, 115, 0, []) := rfl
set_option maxRecDepth 20000 in
theorem at_123_115 : am_at 123 115 = some (.ifCond .ne 5, 118, 120, []) := rfl
set_option maxRecDepth 20000 in
theorem at_123_118 : am_at 123 118 = some (.iconst 2, 119, 2, []) := rfl
set_option maxRecDepth 20000 in
theorem at_123_119 : am_at 123 119 = some (.ireturn, 120, 0, [0]) := rfl
set_option maxRecDepth 20000 in
theorem at_123_120 : am_at 123 120 = some (.aload_n 0, 121, 0, []) := rfl
set_option maxRecDepth 20000 in
theorem at_123_121 : am_at 123 121 = some (.getfield 74, 124, 0, [8, 27, 3, 737]) := rfl
set_option maxRecDepth 20000 in
theorem at_123_124 : am_at 123 124 = some (.bipush 8, 126, 8, []) := rfl
set_option maxRecDepth 20000 in
theorem at_123_126 : am_at 123 126 = some (.aload_n 0, 127, 0, []) := rfl
set_option maxRecDepth 20000 in
theorem at_123_127 : am_at 123 127 = some (.getfield 230, 130, 0, [8, 49, 0, 759]) := rfl
set_option maxRecDepth 20000 in
theorem at_123_130 : am_at 123 130 = some (.imul, 131, 0, []) := rfl
set_option maxRecDepth 20000 in
theorem at_123_131 : am_at 123 131 = some (.bipush 7, 133, 7, []) := rfl
set_option maxRecDepth 20000 in
theorem at_123_133 : am_at 123 133 = some (.iadd, 134, 0, []) := rfl
set_option maxRecDepth 20000 in
theorem at_123_134 : am_at 123 134 = some (.dup2, 135, 0, []) := rfl
set_option maxRecDepth 20000 in
theorem at_123_135 : am_at 123 135 = some (.iaload, 136, 0, []) := rfl
set_option maxRecDepth 20000 in
theorem at_123_136 : am_at 123 136 = some (.iconst 1, 137, 1, []) := rfl
set_option maxRecDepth 20000 in
theorem at_123_137 : am_at 123 137 = some (.iadd, 138, 0, []) := rfl
set_option maxRecDepth 20000 in
theorem at_123_138 : am_at 123 138 = some (.iastore, 139, 0, []) := rfl
set_option maxRecDepth 20000 in
theorem at_123_139 : am_at 123 139 = some (.aload_n 0, 140, 0, []) := rfl
set_option maxRecDepth 20000 in
theorem at_123_140 : am_at 123 140 = some (.getfield 96, 143, 0, [8, 34, 3, 744]) := rfl
set_option maxRecDepth 20000 in
theorem at_123_143 : am_at 123 143 = some (.bipush 12, 145, 12, []) := rfl
set_option maxRecDepth 20000 in
theorem at_123_145 : am_at 123 145 = some (.iload_n 3, 146, 3, []) := rfl
set_option maxRecDepth 20000 in
theorem at_123_146 : am_at 123 146 = some (.imul, 147, 0, []) := rfl
set_option maxRecDepth 20000 in
theorem at_123_147 : am_at 123 147 = some (.aload_n 0, 148, 0, []) := rfl
set_option maxRecDepth 20000 in
theorem at_123_148 : am_at 123 148 = some (.getfield 90, 151, 0, [8, 32, 3, 742]) := rfl
set_option maxRecDepth 20000 in
theorem at_123_151 : am_at 123 151 = some (.iload_n 3, 152, 3, []) := rfl
set_option maxRecDepth 20000 in
theorem at_123_152 : am_at 123 152 = some (.iaload, 153, 0, []) := rfl
set_option maxRecDepth 20000 in
theorem at_123_153 : am_at 123 153 = some (.iadd, 154, 0, []) := rfl
set_option maxRecDepth 20000 in
theorem at_123_154 : am_at 123 154 = some (.iaload, 155, 0, []) := rfl
set_option maxRecDepth 20000 in
theorem at_123_155 : am_at 123 155 = some (.istore 4, 157, 4, []) := rfl
set_option maxRecDepth 20000 in
theorem at_123_157 : am_at 123 157 = some (.aload_n 0, 158, 0, []) := rfl
set_option maxRecDepth 20000 in
theorem at_123_158 : am_at 123 158 = some (.iload_n 1, 159, 1, []) := rfl
set_option maxRecDepth 20000 in
theorem at_123_159 : am_at 123 159 = some (.iload 4, 161, 4, []) := rfl
set_option maxRecDepth 20000 in
theorem at_123_161 : am_at 123 161 = some (.invokevirtual 239, 164, 117, [0, 2, 8, 961, 963, 38, 60]) := rfl
set_option maxRecDepth 20000 in
theorem at_123_164 : am_at 123 164 = some (.istore 5, 166, 5, []) := rfl
set_option maxRecDepth 20000 in
theorem at_123_166 : am_at 123 166 = some (.iload 5, 168, 5, []) := rfl
set_option maxRecDepth 20000 in
theorem at_123_168 : am_at 123 168 = some (.iconst 2, 169, 2, []) := rfl
set_option maxRecDepth 20000 in
theorem at_123_169 : am_at 123 169 = some (.if_icmp .ne 10, 172, 179, []) := rfl
set_option maxRecDepth 20000 in
theorem at_123_172 : am_at 123 172 = some (.aload_n 0, 173, 0, []) := rfl
set_option maxRecDepth 20000 in
theorem at_123_173 : am_at 123 173 = some (.getfield 93, 176, 0, [8, 33, 3, 743]) := rfl
set_option maxRecDepth 20000 in
theorem at_123_176 : am_at 123 176 = some (.iload_n 3, 177, 3, []) := rfl
set_option maxRecDepth 20000 in
theorem at_123_177 : am_at 123 177 = some (.iconst 0, 178, 0, []) := rfl
set_option maxRecDepth 20000 in
theorem at_123_178 : am_at 123 178 = some (.iastore, 179, 0, []) := rfl
set_option maxRecDepth 20000 in
theorem at_123_179 : am_at 123 179 = some (.iload 5, 181, 5, []) := rfl
set_option maxRecDepth 20000 in
theorem at_123_181 : am_at 123 181 = some (.iconst 1, 182, 1, []) := rfl
set_option maxRecDepth 20000 in
theorem at_123_182 : am_at 123 182 = some (.if_icmp .eq 6, 185, 188, []) := rfl
set_option maxRecDepth 20000 in
theorem at_123_185 : am_at 123 185 = some (.iload 5, 187, 5, []) := rfl
set_option maxRecDepth 20000 in
theorem at_123_187 : am_at 123 187 = some (.ireturn, 188, 0, [0]) := rfl
set_option maxRecDepth 20000 in
theorem at_123_188 : am_at 123 188 = some (.aload_n 0, 189, 0, []) := rfl
set_option maxRecDepth 20000 in
theorem at_123_189 : am_at 123 189 = some (.getfield 99, 192, 0, [8, 35, 3, 745]) := rfl
set_option maxRecDepth 20000 in
theorem at_123_192 : am_at 123 192 = some (.iload_n 3, 193, 3, []) := rfl
set_option maxRecDepth 20000 in
theorem at_123_193 : am_at 123 193 = some (.aload_n 0, 194, 0, []) := rfl
set_option maxRecDepth 20000 in
theorem at_123_194 : am_at 123 194 = some (.iload 4, 196, 4, []) := rfl
set_option maxRecDepth 20000 in
theorem at_123_196 : am_at 123 196 = some (.aload_n 0, 197, 0, []) := rfl
set_option maxRecDepth 20000 in
theorem at_123_197 : am_at 123 197 = some (.getfield 99, 200, 0, [8, 35, 3, 745]) := rfl
set_option maxRecDepth 20000 in
theorem at_123_200 : am_at 123 200 = some (.iload_n 3, 201, 3, []) := rfl
set_option maxRecDepth 20000 in
theorem at_123_201 : am_at 123 201 = some (.iaload, 202, 0, []) := rfl
set_option maxRecDepth 20000 in
theorem at_123_202 : am_at 123 202 = some (.invokevirtual 213, 205, 119, [0, 2, 8, 969, 971, 40, 60]) := rfl
set_option maxRecDepth 20000 in
theorem at_123_205 : am_at 123 205 = some (.iastore, 206, 0, []) := rfl
set_option maxRecDepth 20000 in
theorem at_123_206 : am_at 123 206 = some (.aload_n 0, 207, 0, []) := rfl
set_option maxRecDepth 20000 in
theorem at_123_207 : am_at 123 207 = some (.getfield 90, 210, 0, [8, 32, 3, 742]) := rfl
set_option maxRecDepth 20000 in
theorem at_123_210 : am_at 123 210 = some (.iload_n 3, 211, 3, []) := rfl
set_option maxRecDepth 20000 in
theorem at_123_211 : am_at 123 211 = some (.dup2, 212, 0, []) := rfl
set_option maxRecDepth 20000 in
theorem at_123_212 : am_at 123 212 = some (.iaload, 213, 0, []) := rfl
set_option maxRecDepth 20000 in
theorem at_123_213 : am_at 123 213 = some (.iconst 1, 214, 1, []) := rfl
set_option maxRecDepth 20000 in
theorem at_123_214 : am_at 123 214 = some (.iadd, 215, 0, []) := rfl
set_option maxRecDepth 20000 in
theorem at_123_215 : am_at 123 215 = some (.iastore, 216, 0, []) := rfl
set_option maxRecDepth 20000 in
theorem at_123_216 : am_at 123 216 = some (.aload_n 0, 217, 0, []) := rfl
set_option maxRecDepth 20000 in
theorem at_123_217 : am_at 123 217 = some (.getfield 227, 220, 0, [8, 0, 0, 710]) := rfl
set_option maxRecDepth 20000 in
theorem at_123_220 : am_at 123 220 = some (.aload_n 0, 221, 0, []) := rfl
set_option maxRecDepth 20000 in
theorem at_123_221 : am_at 123 221 = some (.getfield 53, 224, 0, [8, 19, 3, 729]) := rfl
set_option maxRecDepth 20000 in
theorem at_123_224 : am_at 123 224 = some (.iload_n 2, 225, 2, []) := rfl
set_option maxRecDepth 20000 in
theorem at_123_225 : am_at 123 225 = some (.iaload, 226, 0, []) := rfl
set_option maxRecDepth 20000 in
theorem at_123_226 : am_at 123 226 = some (.aload_n 0, 227, 0, []) := rfl
set_option maxRecDepth 20000 in
theorem at_123_227 : am_at 123 227 = some (.getfield 56, 230, 0, [8, 20, 3, 730]) := rfl
set_option maxRecDepth 20000 in
theorem at_123_230 : am_at 123 230 = some (.iload_n 2, 231, 2, []) := rfl
set_option maxRecDepth 20000 in
theorem at_123_231 : am_at 123 231 = some (.iaload, 232, 0, []) := rfl
set_option maxRecDepth 20000 in
theorem at_123_232 : am_at 123 232 = some (.invokestatic 217, 235, 124, [0, 3, 989, 990, 60]) := rfl
set_option maxRecDepth 20000 in
theorem at_123_235 : am_at 123 235 = some (.ifCond .eq 7, 238, 242, []) := rfl
set_option maxRecDepth 20000 in
theorem at_123_238 : am_at 123 238 = some (.iconst 1, 239, 1, []) := rfl
set_option maxRecDepth 20000 in
theorem at_123_239 : am_at 123 239 = some (.goto 4, 242, 243, []) := rfl
set_option maxRecDepth 20000 in
theorem at_123_242 : am_at 123 242 = some (.iconst 3, 243, 3, []) := rfl
set_option maxRecDepth 20000 in
theorem at_123_243 : am_at 123 243 = some (.ireturn, 244, 0, [0]) := rfl
set_option maxRecDepth 20000 in
theorem at_124_0 : am_at 124 0 = some (.iload_n 0, 1, 0, []) := rfl
set_option maxRecDepth 20000 in
theorem at_124_1 : am_at 124 1 = some (.iload_n 1, 2, 1, []) := rfl
set_option maxRecDepth 20000 in
theorem at_124_2 : am_at 124 2 = some (.iand, 3, 0, []) := rfl
set_option maxRecDepth 20000 in
theorem at_124_3 : am_at 124 3 = some (.iload_n 2, 4, 2, []) := rfl
set_option maxRecDepth 20000 in
theorem at_124_4 : am_at 124 4 = some (.iload_n 1, 5, 1, []) := rfl
set_option maxRecDepth 20000 in
theorem at_124_5 : am_at 124 5 = some (.iand, 6, 0, []) := rfl
set_option maxRecDepth 20000 in
theorem at_124_6 : am_at 124 6 = some (.if_icmp .ne 7, 9, 13, []) := rfl
set_option maxRecDepth 20000 in
theorem at_124_9 : am_at 124 9 = some (.iconst 1, 10, 1, []) := rfl
set_option maxRecDepth 20000 in
theorem at_124_10 : am_at 124 10 = some (.goto 4, 13, 14, []) := rfl
set_option maxRecDepth 20000 in
theorem at_124_13 : am_at 124 13 = some (.iconst 0, 14, 0, []) := rfl
set_option maxRecDepth 20000 in
theorem at_124_14 : am_at 124 14 = some (.ireturn, 15, 0, [1]) := rfl
set_option maxRecDepth 20000 in
theorem at_125_0 : am_at 125 0 = some (.aload_n 0, 1, 0, []) := rfl
set_option maxRecDepth 20000 in
theorem at_125_1 : am_at 125 1 = some (.sipush 3328, 4, 3328, []) := rfl
set_option maxRecDepth 20000 in
theorem at_125_4 : am_at 125 4 = some (.iload_n 2, 5, 2, []) := rfl
set_option maxRecDepth 20000 in
theorem at_125_5 : am_at 125 5 = some (.imul, 6, 0, []) := rfl
set_option maxRecDepth 20000 in
theorem at_125_6 : am_at 125 6 = some (.putfield 210, 9, 0, [8, 38, 0, 748]) := rfl
set_option maxRecDepth 20000 in
theorem at_125_9 : am_at 125 9 = some (.aload_n 0, 10, 0, []) := rfl
set_option maxRecDepth 20000 in
theorem at_125_10 : am_at 125 10 = some (.getfield 106, 13, 0, [8, 37, 3, 747]) := rfl
set_option maxRecDepth 20000 in
theorem at_125_13 : am_at 125 13 = some (.iload_n 2, 14, 2, []) := rfl
set_option maxRecDepth 20000 in
theorem at_125_14 : am_at 125 14 = some (.baload, 15, 0, []) := rfl
set_option maxRecDepth 20000 in
theorem at_125_15 : am_at 125 15 = some (.ifCond .ne 26, 18, 41, []) := rfl
set_option maxRecDepth 20000 in
theorem at_125_18 : am_at 125 18 = some (.aload_n 0, 19, 0, []) := rfl
set_option maxRecDepth 20000 in
theorem at_125_19 : am_at 125 19 = some (.aload_n 0, 20, 0, []) := rfl
set_option maxRecDepth 20000 in
theorem at_125_20 : am_at 125 20 = some (.getfield 53, 23, 0, [8, 19, 3, 729]) := rfl
set_option maxRecDepth 20000 in
theorem at_125_23 : am_at 125 23 = some (.iload_n 2, 24, 2, []) := rfl
set_option maxRecDepth 20000 in
theorem at_125_24 : am_at 125 24 = some (.iaload, 25, 0, []) := rfl
set_option maxRecDepth 20000 in
theorem at_125_25 : am_at 125 25 = some (.aload_n 0, 26, 0, []) := rfl
set_option maxRecDepth 20000 in
theorem at_125_26 : am_at 125 26 = some (.getfield 56, 29, 0, [8, 20, 3, 730]) := rfl
set_option maxRecDepth 20000 in
theorem at_125_29 : am_at 125 29 = some (.iload_n 2, 30, 2, []) := rfl
set_option maxRecDepth 20000 in
theorem at_125_30 : am_at 125 30 = some (.iaload, 31, 0, []) := rfl
set_option maxRecDepth 20000 in
theorem at_125_31 : am_at 125 31 = some (.invokevirtual 224, 34, 126, [0, 2, 8, 996, 998, 46, 60]) := rfl
set_option maxRecDepth 20000 in
theorem at_125_34 : am_at 125 34 = some (.aload_n 0, 35, 0, []) := rfl
set_option maxRecDepth 20000 in
theorem at_125_35 : am_at 125 35 = some (.getfield 106, 38, 0, [8, 37, 3, 747]) := rfl
set_option maxRecDepth 20000 in
theorem at_125_38 : am_at 125 38 = some (.iload_n 2, 39, 2, []) := rfl
set_option maxRecDepth 20000 in
theorem at_125_39 : am_at 125 39 = some (.iconst 1, 40, 1, []) := rfl
set_option maxRecDepth 20000 in
theorem at_125_40 : am_at 125 40 = some (.bastore, 41, 0, []) := rfl
set_option maxRecDepth 20000 in
theorem at_125_41 : am_at 125 41 = some (.iconst 0, 42, 0, []) := rfl
set_option maxRecDepth 20000 in
theorem at_125_42 : am_at 125 42 = some (.istore_n 3, 43, 3, []) := rfl
set_option maxRecDepth 20000 in
theorem at_125_43 : am_at 125 43 = some (.ldc 216, 45, 1000000, [1000]) := rfl
set_option maxRecDepth 20000 in
theorem at_125_45 : am_at 125 45 = some (.istore 4, 47, 4, []) := rfl
set_option maxRecDepth 20000 in
theorem at_125_47 : am_at 125 47 = some (.iconst 1, 48, 1, []) := rfl
set_option maxRecDepth 20000 in
theorem at_125_48 : am_at 125 48 = some (.istore 5, 50, 5, []) := rfl
set_option maxRecDepth 20000 in
theorem at_125_50 : am_at 125 50 = some (.iload 5, 52, 5, []) := rfl
set_option maxRecDepth 20000 in
theorem at_125_52 : am_at 125 52 = some (.bipush 12, 54, 12, []) := rfl
set_option maxRecDepth 20000 in
theorem at_125_54 : am_at 125 54 = some (.if_icmp .gt 61, 57, 115, []) := rfl
set_option maxRecDepth 20000 in
theorem at_125_57 : am_at 125 57 = some (.aload_n 0, 58, 0, []) := rfl
set_option maxRecDepth 20000 in
theorem at_125_58 : am_at 125 58 = some (.getfield 103, 61, 0, [8, 36, 3, 746]) := rfl
set_option maxRecDepth 20000 in
theorem at_125_61 : am_at 125 61 = some (.aload_n 0, 62, 0, []) := rfl
set_option maxRecDepth 20000 in
theorem at_125_62 : am_at 125 62 = some (.getfield 210, 65, 0, [8, 38, 0, 748]) := rfl
set_option maxRecDepth 20000 in
theorem at_125_65 : am_at 125 65 = some (.sipush 256, 68, 256, []) := rfl
set_option maxRecDepth 20000 in
theorem at_125_68 : am_at 125 68 = some (.iload 5, 70, 5, []) := rfl
set_option maxRecDepth 20000 in
theorem at_125_70 : am_at 125 70 = some (.imul, 71, 0, []) := rfl
set_option maxRecDepth 20000 in
theorem at_125_71 : am_at 125 71 = some (.iadd, 72, 0, []) := rfl
set_option maxRecDepth 20000 in
theorem at_125_72 : am_at 125 72 = some (.aload_n 0, 73, 0, []) := rfl
set_option maxRecDepth 20000 in
theorem at_125_73 : am_at 125 73 = some (.getfield 227, 76, 0, [8, 0, 0, 710]) := rfl
set_option maxRecDepth 20000 in
theorem at_125_76 : am_at 125 76 = some (.iadd, 77, 0, []) := rfl
set_option maxRecDepth 20000 in
theorem at_125_77 : am_at 125 77 = some (.iaload, 78, 0, []) := rfl
set_option maxRecDepth 20000 in
theorem at_125_78 : am_at 125 78 = some (.iload 4, 80, 4, []) := rfl
set_option maxRecDepth 20000 in
theorem at_125_80 : am_at 125 80 = some (.if_icmp .ge 29, 83, 109, []) := rfl
set_option maxRecDepth 20000 in
theorem at_125_83 : am_at 125 83 = some (.aload_n 0, 84, 0, []) := rfl
set_option maxRecDepth 20000 in
theorem at_125_84 : am_at 125 84 = some (.getfield 103, 87, 0, [8, 36, 3, 746]) := rfl
set_option maxRecDepth 20000 in
theorem at_125_87 : am_at 125 87 = some (.aload_n 0, 88, 0, []) := rfl
set_option maxRecDepth 20000 in
theorem at_125_88 : am_at 125 88 = some (.getfield 210, 91, 0, [8, 38, 0, 748]) := rfl
set_option maxRecDepth 20000 in
theorem at_125_91 : am_at 125 91 = some (.sipush 256, 94, 256, []) := rfl
set_option maxRecDepth 20000 in
theorem at_125_94 : am_at 125 94 = some (.iload 5, 96, 5, []) := rfl
set_option maxRecDepth 20000 in
theorem at_125_96 : am_at 125 96 = some (.imul, 97, 0, []) := rfl
set_option maxRecDepth 20000 in
theorem at_125_97 : am_at 125 97 = some (.iadd, 98, 0, []) := rfl
set_option maxRecDepth 20000 in
theorem at_125_98 : am_at 125 98 = some (.aload_n 0, 99, 0, []) := rfl
set_option maxRecDepth 20000 in
theorem at_125_99 : am_at 125 99 = some (.getfield 227, 102, 0, [8, 0, 0, 710]) := rfl
set_option maxRecDepth 20000 in
theorem at_125_102 : am_at 125 102 = some (.iadd, 103, 0, []) := rfl
set_option maxRecDepth 20000 in
theorem at_125_103 : am_at 125 103 = some (.iaload, 104, 0, []) := rfl
set_option maxRecDepth 20000 in
theorem at_125_104 : am_at 125 104 = some (.istore 4, 106, 4, []) := rfl
set_option maxRecDepth 20000 in
theorem at_125_106 : am_at 125 106 = some (.iload 5, 108, 5, []) := rfl
set_option maxRecDepth 20000 in
theorem at_125_108 : am_at 125 108 = some (.istore_n 3, 109, 3, []) := rfl
set_option maxRecDepth 20000 in
theorem at_125_109 : am_at 125 109 = some (.iinc 5 1, 112, 5, []) := rfl
set_option maxRecDepth 20000 in
theorem at_125_112 : am_at 125 112 = some (.goto (-62), 115, 50, []) := rfl
set_option maxRecDepth 20000 in
theorem at_125_115 : am_at 125 115 = some (.aload_n 0, 116, 0, []) := rfl
set_option maxRecDepth 20000 in
theorem at_125_116 : am_at 125 116 = some (.getfield 227, 119, 0, [8, 0, 0, 710]) := rfl
set_option maxRecDepth 20000 in
theorem at_125_119 : am_at 125 119 = some (.istore 5, 121, 5, []) := rfl
set_option maxRecDepth 20000 in
theorem at_125_121 : am_at 125 121 = some (.iconst 0, 122, 0, []) := rfl
set_option maxRecDepth 20000 in
theorem at_125_122 : am_at 125 122 = some (.istore 6, 124, 6, []) := rfl
set_option maxRecDepth 20000 in
theorem at_125_124 : am_at 125 124 = some (.iload 6, 126, 6, []) := rfl
set_option maxRecDepth 20000 in
theorem at_125_126 : am_at 125 126 = some (.iload_n 3, 127, 3, []) := rfl
set_option maxRecDepth 20000 in
theorem at_125_127 : am_at 125 127 = some (.if_icmp .ge 78, 130, 205, []) := rfl
set_option maxRecDepth 20000 in
theorem at_125_130 : am_at 125 130 = some (.iconst 0, 131, 0, []) := rfl
set_option maxRecDepth 20000 in
theorem at_125_131 : am_at 125 131 = some (.istore 7, 133, 7, []) := rfl
set_option maxRecDepth 20000 in
theorem at_125_133 : am_at 125 133 = some (.aload_n 0, 134, 0, []) := rfl
set_option maxRecDepth 20000 in
theorem at_125_134 : am_at 125 134 = some (.iload 7, 136, 7, []) := rfl
set_option maxRecDepth 20000 in
theorem at_125_136 : am_at 125 136 = some (.iload_n 3, 137, 3, []) := rfl
set_option maxRecDepth 20000 in
theorem at_125_137 : am_at 125 137 = some (.iload 6, 139, 6, []) := rfl
set_option maxRecDepth 20000 in
theorem at_125_139 : am_at 125 139 = some (.isub, 140, 0, []) := rfl
set_option maxRecDepth 20000 in
theorem at_125_140 : am_at 125 140 = some (.iload 5, 142, 5, []) := rfl
set_option maxRecDepth 20000 in
theorem at_125_142 : am_at 125 142 = some (.invokevirtual 220, 145, 127, [0, 3, 8, 1001, 1003, 47, 60]) := rfl
set_option maxRecDepth 20000 in
theorem at_125_145 : am_at 125 145 = some (.aload_n 0, 146, 0, []) := rfl
set_option maxRecDepth 20000 in
theorem at_125_146 : am_at 125 146 = some (.getfield 103, 149, 0, [8, 36, 3, 746]) := rfl
set_option maxRecDepth 20000 in
theorem at_125_149 : am_at 125 149 = some (.aload_n 0, 150, 0, []) := rfl
set_option maxRecDepth 20000 in
theorem at_125_150 : am_at 125 150 = some (.getfield 210, 153, 0, [8, 38, 0, 748]) := rfl
set_option maxRecDepth 20000 in
theorem at_125_153 : am_at 125 153 = some (.sipush 256, 156, 256, []) := rfl
set_option maxRecDepth 20000 in
theorem at_125_156 : am_at 125 156 = some (.iload_n 3, 157, 3, []) := rfl
set_option maxRecDepth 20000 in
theorem at_125_157 : am_at 125 157 = some (.iload 6, 159, 6, []) := rfl
set_option maxRecDepth 20000 in
theorem at_125_159 : am_at 125 159 = some (.isub, 160, 0, []) := rfl
set_option maxRecDepth 20000 in
theorem at_125_160 : am_at 125 160 = some (.imul, 161, 0, []) := rfl
set_option maxRecDepth 20000 in
theorem at_125_161 : am_at 125 161 = some (.iadd, 162, 0, []) := rfl
set_option maxRecDepth 20000 in
theorem at_125_162 : am_at 125 162 = some (.iload 5, 164, 5, []) := rfl
set_option maxRecDepth 20000 in
theorem at_125_164 : am_at 125 164 = some (.iadd, 165, 0, []) := rfl
set_option maxRecDepth 20000 in
theorem at_125_165 : am_at 125 165 = some (.iaload, 166, 0, []) := rfl
set_option maxRecDepth 20000 in
theorem at_125_166 : am_at 125 166 = some (.if_icmp .eq 9, 169, 175, []) := rfl
set_option maxRecDepth 20000 in
theorem at_125_169 : am_at 125 169 = some (.iinc 7 1, 172, 7, []) := rfl
set_option maxRecDepth 20000 in
theorem at_125_172 : am_at 125 172 = some (.goto (-39), 175, 133, []) := rfl
set_option maxRecDepth 20000 in
theorem at_125_175 : am_at 125 175 = some (.aload_n 0, 176, 0, []) := rfl
set_option maxRecDepth 20000 in
theorem at_125_176 : am_at 125 176 = some (.getfield 96, 179, 0, [8, 34, 3, 744]) := rfl
set_option maxRecDepth 20000 in
theorem at_125_179 : am_at 125 179 = some (.bipush 12, 181, 12, []) := rfl
set_option maxRecDepth 20000 in
theorem at_125_181 : am_at 125 181 = some (.iload_n 1, 182, 1, []) := rfl
set_option maxRecDepth 20000 in
theorem at_125_182 : am_at 125 182 = some (.imul, 183, 0, []) := rfl
set_option maxRecDepth 20000 in
theorem at_125_183 : am_at 125 183 = some (.iload 6, 185, 6, []) := rfl
set_option maxRecDepth 20000 in
theorem at_125_185 : am_at 125 185 = some (.iadd, 186, 0, []) := rfl
set_option maxRecDepth 20000 in
theorem at_125_186 : am_at 125 186 = some (.iload 7, 188, 7, []) := rfl
set_option maxRecDepth 20000 in
theorem at_125_188 : am_at 125 188 = some (.iastore, 189, 0, []) := rfl
set_option maxRecDepth 20000 in
theorem at_125_189 : am_at 125 189 = some (.aload_n 0, 190, 0, []) := rfl
set_option maxRecDepth 20000 in
theorem at_125_190 : am_at 125 190 = some (.iload 7, 192, 7, []) := rfl
set_option maxRecDepth 20000 in
theorem at_125_192 : am_at 125 192 = some (.iload 5, 194, 5, []) := rfl
set_option maxRecDepth 20000 in
theorem at_125_194 : am_at 125 194 = some (.invokevirtual 213, 197, 119, [0, 2, 8, 969, 971, 40, 60]) := rfl
set_option maxRecDepth 20000 in
theorem at_125_197 : am_at 125 197 = some (.istore 5, 199, 5, []) := rfl
set_option maxRecDepth 20000 in
theorem at_125_199 : am_at 125 199 = some (.iinc 6 1, 202, 6, []) := rfl
set_option maxRecDepth 20000 in
theorem at_125_202 : am_at 125 202 = some (.goto (-78), 205, 124, []) := rfl
set_option maxRecDepth 20000 in
theorem at_125_205 : am_at 125 205 = some (.iload_n 3, 206, 3, []) := rfl
set_option maxRecDepth 20000 in
theorem at_125_206 : am_at 125 206 = some (.ireturn, 207, 0, [0]) := rfl
set_option maxRecDepth 20000 in
theorem at_126_0 : am_at 126 0 = some (.iconst 0, 1, 0, []) := rfl
set_option maxRecDepth 20000 in
theorem at_126_1 : am_at 126 1 = some (.istore_n 3, 2, 3, []) := rfl
set_option maxRecDepth 20000 in
theorem at_126_2 : am_at 126 2 = some (.iload_n 3, 3, 3, []) := rfl
set_option maxRecDepth 20000 in
theorem at_126_3 : am_at 126 3 = some (.sipush 256, 6, 256, []) := rfl
set_option maxRecDepth 20000 in
theorem at_126_6 : am_at 126 6 = some (.if_icmp .ge 35, 9, 41, []) := rfl
set_option maxRecDepth 20000 in
theorem at_126_9 : am_at 126 9 = some (.aload_n 0, 10, 0, []) := rfl
set_option maxRecDepth 20000 in
theorem at_126_10 : am_at 126 10 = some (.getfield 103, 13, 0, [8, 36, 3, 746]) := rfl
set_option maxRecDepth 20000 in
theorem at_126_13 : am_at 126 13 = some (.aload_n 0, 14, 0, []) := rfl
set_option maxRecDepth 20000 in
theorem at_126_14 : am_at 126 14 = some (.getfield 210, 17, 0, [8, 38, 0, 748]) := rfl
set_option maxRecDepth 20000 in
theorem at_126_17 : am_at 126 17 = some (.iload_n 3, 18, 3, []) := rfl
set_option maxRecDepth 20000 in
theorem at_126_18 : am_at 126 18 = some (.iadd, 19, 0, []) := rfl
set_option maxRecDepth 20000 in
theorem at_126_19 : am_at 126 19 = some (.iload_n 3, 20, 3, []) := rfl
set_option maxRecDepth 20000 in
theorem at_126_20 : am_at 126 20 = some (.iload_n 1, 21, 1, []) := rfl
set_option maxRecDepth 20000 in
theorem at_126_21 : am_at 126 21 = some (.iload_n 2, 22, 2, []) := rfl
set_option maxRecDepth 20000 in
theorem at_126_22 : am_at 126 22 = some (.invokestatic 217, 25, 124, [0, 3, 989, 990, 60]) := rfl
set_option maxRecDepth 20000 in
theorem at_126_25 : am_at 126 25 = some (.ifCond .eq 7, 28, 32, []) := rfl
set_option maxRecDepth 20000 in
theorem at_126_28 : am_at 126 28 = some (.iconst 0, 29, 0, []) := rfl
set_option maxRecDepth 20000 in
theorem at_126_29 : am_at 126 29 = some (.goto 5, 32, 34, []) := rfl
set_option maxRecDepth 20000 in
theorem at_126_32 : am_at 126 32 = some (.ldc 216, 34, 1000000, [1000]) := rfl
set_option maxRecDepth 20000 in
theorem at_126_34 : am_at 126 34 = some (.iastore, 35, 0, []) := rfl
set_option maxRecDepth 20000 in
theorem at_126_35 : am_at 126 35 = some (.iinc 3 1, 38, 3, []) := rfl
set_option maxRecDepth 20000 in
theorem at_126_38 : am_at 126 38 = some (.goto (-36), 41, 2, []) := rfl
set_option maxRecDepth 20000 in
theorem at_126_41 : am_at 126 41 = some (.iconst 1, 42, 1, []) := rfl
set_option maxRecDepth 20000 in
theorem at_126_42 : am_at 126 42 = some (.istore_n 3, 43, 3, []) := rfl
set_option maxRecDepth 20000 in
theorem at_126_43 : am_at 126 43 = some (.iload_n 3, 44, 3, []) := rfl
set_option maxRecDepth 20000 in
theorem at_126_44 : am_at 126 44 = some (.bipush 12, 46, 12, []) := rfl
set_option maxRecDepth 20000 in
theorem at_126_46 : am_at 126 46 = some (.if_icmp .gt 105, 49, 151, []) := rfl
set_option maxRecDepth 20000 in
theorem at_126_49 : am_at 126 49 = some (.iconst 0, 50, 0, []) := rfl
set_option maxRecDepth 20000 in
theorem at_126_50 : am_at 126 50 = some (.istore 4, 52, 4, []) := rfl
set_option maxRecDepth 20000 in
theorem at_126_52 : am_at 126 52 = some (.iload 4, 54, 4, []) := rfl
set_option maxRecDepth 20000 in
theorem at_126_54 : am_at 126 54 = some (.sipush 256, 57, 256, []) := rfl
set_option maxRecDepth 20000 in
theorem at_126_57 : am_at 126 57 = some (.if_icmp .ge 88, 60, 145, []) := rfl
set_option maxRecDepth 20000 in
theorem at_126_60 : am_at 126 60 = some (.ldc 216, 62, 1000000, [1000]) := rfl
set_option maxRecDepth 20000 in
theorem at_126_62 : am_at 126 62 = some (.istore 5, 64, 5, []) := rfl
set_option maxRecDepth 20000 in
theorem at_126_64 : am_at 126 64 = some (.iconst 0, 65, 0, []) := rfl
set_option maxRecDepth 20000 in
theorem at_126_65 : am_at 126 65 = some (.istore 6, 67, 6, []) := rfl
set_option maxRecDepth 20000 in
theorem at_126_67 : am_at 126 67 = some (.iload 6, 69, 6, []) := rfl
set_option maxRecDepth 20000 in
theorem at_126_69 : am_at 126 69 = some (.aload_n 0, 70, 0, []) := rfl
set_option maxRecDepth 20000 in
theorem at_126_70 : am_at 126 70 = some (.getfield 141, 73, 0, [8, 4, 0, 714]) := rfl
set_option maxRecDepth 20000 in
theorem at_126_73 : am_at 126 73 = some (.if_icmp .ge 46, 76, 119, []) := rfl
set_option maxRecDepth 20000 in
theorem at_126_76 : am_at 126 76 = some (.iload 4, 78, 4, []) := rfl
set_option maxRecDepth 20000 in
theorem at_126_78 : am_at 126 78 = some (.iload_n 1, 79, 1, []) := rfl
set_option maxRecDepth 20000 in
theorem at_126_79 : am_at 126 79 = some (.iload_n 2, 80, 2, []) := rfl
set_option maxRecDepth 20000 in
theorem at_126_80 : am_at 126 80 = some (.invokestatic 217, 83, 124, [0, 3, 989, 990, 60]) := rfl
set_option maxRecDepth 20000 in
theorem at_126_83 : am_at 126 83 = some (.ifCond .ne 36, 86, 119, []) := rfl
set_option maxRecDepth 20000 in
theorem at_126_86 : am_at 126 86 = some (.aload_n 0, 87, 0, []) := rfl
set_option maxRecDepth 20000 in
theorem at_126_87 : am_at 126 87 = some (.iload 6, 89, 6, []) := rfl
set_option maxRecDepth 20000 in
theorem at_126_89 : am_at 126 89 = some (.iload_n 3, 90, 3, []) := rfl
set_option maxRecDepth 20000 in
theorem at_126_90 : am_at 126 90 = some (.iload 4, 92, 4, []) := rfl
set_option maxRecDepth 20000 in
theorem at_126_92 : am_at 126 92 = some (.invokevirtual 220, 95, 127, [0, 3, 8, 1001, 1003, 47, 60]) := rfl
set_option maxRecDepth 20000 in
theorem at_126_95 : am_at 126 95 = some (.istore 7, 97, 7, []) := rfl
set_option maxRecDepth 20000 in
theorem at_126_97 : am_at 126 97 = some (.iload 7, 99, 7, []) := rfl
set_option maxRecDepth 20000 in
theorem at_126_99 : am_at 126 99 = some (.iload 5, 101, 5, []) := rfl
set_option maxRecDepth 20000 in
theorem at_126_101 : am_at 126 101 = some (.if_icmp .ge 8, 104, 109, []) := rfl
set_option maxRecDepth 20000 in
theorem at_126_104 : am_at 126 104 = some (.iload 7, 106, 7, []) := rfl
set_option maxRecDepth 20000 in
theorem at_126_106 : am_at 126 106 = some (.goto 5, 109, 111, []) := rfl
set_option maxRecDepth 20000 in
theorem at_126_109 : am_at 126 109 = some (.iload 5, 111, 5, []) := rfl
set_option maxRecDepth 20000 in
theorem at_126_111 : am_at 126 111 = some (.istore 5, 113, 5, []) := rfl
set_option maxRecDepth 20000 in
theorem at_126_113 : am_at 126 113 = some (.iinc 6 1, 116, 6, []) := rfl
set_option maxRecDepth 20000 in
theorem at_126_116 : am_at 126 116 = some (.goto (-49), 119, 67, []) := rfl
set_option maxRecDepth 20000 in
theorem at_126_119 : am_at 126 119 = some (.aload_n 0, 120, 0, []) := rfl
set_option maxRecDepth 20000 in
theorem at_126_120 : am_at 126 120 = some (.getfield 103, 123, 0, [8, 36, 3, 746]) := rfl
set_option maxRecDepth 20000 in
theorem at_126_123 : am_at 126 123 = some (.aload_n 0, 124, 0, []) := rfl
set_option maxRecDepth 20000 in
theorem at_126_124 : am_at 126 124 = some (.getfield 210, 127, 0, [8, 38, 0, 748]) := rfl
set_option maxRecDepth 20000 in
theorem at_126_127 : am_at 126 127 = some (.sipush 256, 130, 256, []) := rfl
set_option maxRecDepth 20000 in
theorem at_126_130 : am_at 126 130 = some (.iload_n 3, 131, 3, []) := rfl
set_option maxRecDepth 20000 in
theorem at_126_131 : am_at 126 131 = some (.imul, 132, 0, []) := rfl
set_option maxRecDepth 20000 in
theorem at_126_132 : am_at 126 132 = some (.iadd, 133, 0, []) := rfl
set_option maxRecDepth 20000 in
theorem at_126_133 : am_at 126 133 = some (.iload 4, 135, 4, []) := rfl
set_option maxRecDepth 20000 in
theorem at_126_135 : am_at 126 135 = some (.iadd, 136, 0, []) := rfl
set_option maxRecDepth 20000 in
theorem at_126_136 : am_at 126 136 = some (.iload 5, 138, 5, []) := rfl
set_option maxRecDepth 20000 in
theorem at_126_138 : am_at 126 138 = some (.iastore, 139, 0, []) := rfl
set_option maxRecDepth 20000 in
theorem at_126_139 : am_at 126 139 = some (.iinc 4 1, 142, 4, []) := rfl
set_option maxRecDepth 20000 in
theorem at_126_142 : am_at 126 142 = some (.goto (-90), 145, 52, []) := rfl
set_option maxRecDepth 20000 in
theorem at_126_145 : am_at 126 145 = some (.iinc 3 1, 148, 3, []) := rfl
set_option maxRecDepth 20000 in
theorem at_126_148 : am_at 126 148 = some (.goto (-105), 151, 43, []) := rfl
set_option maxRecDepth 20000 in
theorem at_126_151 : am_at 126 151 = some (.return_, 152, 0, []) := rfl
set_option maxRecDepth 20000 in
theorem at_127_0 : am_at 127 0 = some (.aload_n 0, 1, 0, []) := rfl
set_option maxRecDepth 20000 in
theorem at_127_1 : am_at 127 1 = some (.iload_n 1, 2, 1, []) := rfl
set_option maxRecDepth 20000 in
theorem at_127_2 : am_at 127 2 = some (.iload_n 3, 3, 3, []) := rfl
set_option maxRecDepth 20000 in
theorem at_127_3 : am_at 127 3 = some (.invokevirtual 206, 6, 118, [0, 2, 8, 965, 967, 39, 60]) := rfl
set_option maxRecDepth 20000 in
theorem at_127_6 : am_at 127 6 = some (.ifCond .eq 30, 9, 36, []) := rfl
set_option maxRecDepth 20000 in
theorem at_127_9 : am_at 127 9 = some (.aload_n 0, 10, 0, []) := rfl
set_option maxRecDepth 20000 in
theorem at_127_10 : am_at 127 10 = some (.getfield 103, 13, 0, [8, 36, 3, 746]) := rfl
set_option maxRecDepth 20000 in
theorem at_127_13 : am_at 127 13 = some (.aload_n 0, 14, 0, []) := rfl
set_option maxRecDepth 20000 in
theorem at_127_14 : am_at 127 14 = some (.getfield 210, 17, 0, [8, 38, 0, 748]) := rfl
set_option maxRecDepth 20000 in
theorem at_127_17 : am_at 127 17 = some (.sipush 256, 20, 256, []) := rfl
set_option maxRecDepth 20000 in
theorem at_127_20 : am_at 127 20 = some (.iload_n 2, 21, 2, []) := rfl
set_option maxRecDepth 20000 in
theorem at_127_21 : am_at 127 21 = some (.iconst 1, 22, 1, []) := rfl
set_option maxRecDepth 20000 in
theorem at_127_22 : am_at 127 22 = some (.isub, 23, 0, []) := rfl
set_option maxRecDepth 20000 in
theorem at_127_23 : am_at 127 23 = some (.imul, 24, 0, []) := rfl
set_option maxRecDepth 20000 in
theorem at_127_24 : am_at 127 24 = some (.iadd, 25, 0, []) := rfl
set_option maxRecDepth 20000 in
theorem at_127_25 : am_at 127 25 = some (.aload_n 0, 26, 0, []) := rfl
set_option maxRecDepth 20000 in
theorem at_127_26 : am_at 127 26 = some (.iload_n 1, 27, 1, []) := rfl
set_option maxRecDepth 20000 in
theorem at_127_27 : am_at 127 27 = some (.iload_n 3, 28, 3, []) := rfl
set_option maxRecDepth 20000 in
theorem at_127_28 : am_at 127 28 = some (.invokevirtual 213, 31, 119, [0, 2, 8, 969, 971, 40, 60]) := rfl
set_option maxRecDepth 20000 in
theorem at_127_31 : am_at 127 31 = some (.iadd, 32, 0, []) := rfl
set_option maxRecDepth 20000 in
theorem at_127_32 : am_at 127 32 = some (.iaload, 33, 0, []) := rfl
set_option maxRecDepth 20000 in
theorem at_127_33 : am_at 127 33 = some (.goto 5, 36, 38, []) := rfl
set_option maxRecDepth 20000 in
theorem at_127_36 : am_at 127 36 = some (.ldc 216, 38, 1000000, [1000]) := rfl
set_option maxRecDepth 20000 in
theorem at_127_38 : am_at 127 38 = some (.istore 4, 40, 4, []) := rfl
set_option maxRecDepth 20000 in
theorem at_127_40 : am_at 127 40 = some (.iload 4, 42, 4, []) := rfl
set_option maxRecDepth 20000 in
theorem at_127_42 : am_at 127 42 = some (.ldc 216, 44, 1000000, [1000]) := rfl
set_option maxRecDepth 20000 in
theorem at_127_44 : am_at 127 44 = some (.if_icmp .ne 8, 47, 52, []) := rfl
set_option maxRecDepth 20000 in
theorem at_127_47 : am_at 127 47 = some (.ldc 216, 49, 1000000, [1000]) := rfl
set_option maxRecDepth 20000 in
theorem at_127_49 : am_at 127 49 = some (.goto 12, 52, 61, []) := rfl
set_option maxRecDepth 20000 in
theorem at_127_52 : am_at 127 52 = some (.iload 4, 54, 4, []) := rfl
set_option maxRecDepth 20000 in
theorem at_127_54 : am_at 127 54 = some (.aload_n 0, 55, 0, []) := rfl
set_option maxRecDepth 20000 in
theorem at_127_55 : am_at 127 55 = some (.getfield 23, 58, 0, [8, 6, 3, 716]) := rfl
set_option maxRecDepth 20000 in
theorem at_127_58 : am_at 127 58 = some (.iload_n 1, 59, 1, []) := rfl
set_option maxRecDepth 20000 in
theorem at_127_59 : am_at 127 59 = some (.iaload, 60, 0, []) := rfl
set_option maxRecDepth 20000 in
theorem at_127_60 : am_at 127 60 = some (.iadd, 61, 0, []) := rfl
set_option maxRecDepth 20000 in
theorem at_127_61 : am_at 127 61 = some (.ireturn, 62, 0, [0]) := rfl
set_option maxRecDepth 20000 in
theorem at_128_0 : am_at 128 0 = some (.aload_n 0, 1, 0, []) := rfl
set_option maxRecDepth 20000 in
theorem at_128_1 : am_at 128 1 = some (.getfield 118, 4, 0, [8, 44, 3, 754]) := rfl
set_option maxRecDepth 20000 in
theorem at_128_4 : am_at 128 4 = some (.aload_n 0, 5, 0, []) := rfl
set_option maxRecDepth 20000 in
theorem at_128_5 : am_at 128 5 = some (.getfield 251, 8, 0, [8, 43, 0, 753]) := rfl
set_option maxRecDepth 20000 in
theorem at_128_8 : am_at 128 8 = some (.iload_n 1, 9, 1, []) := rfl
set_option maxRecDepth 20000 in
theorem at_128_9 : am_at 128 9 = some (.iastore, 10, 0, []) := rfl
set_option maxRecDepth 20000 in
theorem at_128_10 : am_at 128 10 = some (.aload_n 0, 11, 0, []) := rfl
set_option maxRecDepth 20000 in
theorem at_128_11 : am_at 128 11 = some (.getfield 121, 14, 0, [8, 45, 3, 755]) := rfl
set_option maxRecDepth 20000 in
theorem at_128_14 : am_at 128 14 = some (.aload_n 0, 15, 0, []) := rfl
set_option maxRecDepth 20000 in
theorem at_128_15 : am_at 128 15 = some (.getfield 251, 18, 0, [8, 43, 0, 753]) := rfl
set_option maxRecDepth 20000 in
theorem at_128_18 : am_at 128 18 = some (.iconst 0, 19, 0, []) := rfl
set_option maxRecDepth 20000 in
theorem at_128_19 : am_at 128 19 = some (.iastore, 20, 0, []) := rfl
set_option maxRecDepth 20000 in
theorem at_128_20 : am_at 128 20 = some (.aload_n 0, 21, 0, []) := rfl
set_option maxRecDepth 20000 in
theorem at_128_21 : am_at 128 21 = some (.getfield 127, 24, 0, [8, 47, 3, 757]) := rfl
set_option maxRecDepth 20000 in
theorem at_128_24 : am_at 128 24 = some (.aload_n 0, 25, 0, []) := rfl
set_option maxRecDepth 20000 in
theorem at_128_25 : am_at 128 25 = some (.getfield 251, 28, 0, [8, 43, 0, 753]) := rfl
set_option maxRecDepth 20000 in
theorem at_128_28 : am_at 128 28 = some (.iconst 0, 29, 0, []) := rfl
set_option maxRecDepth 20000 in
theorem at_128_29 : am_at 128 29 = some (.iastore, 30, 0, []) := rfl
set_option maxRecDepth 20000 in
theorem at_128_30 : am_at 128 30 = some (.aload_n 0, 31, 0, []) := rfl
set_option maxRecDepth 20000 in
theorem at_128_31 : am_at 128 31 = some (.getfield 130, 34, 0, [8, 48, 3, 758]) := rfl
set_option maxRecDepth 20000 in
theorem at_128_34 : am_at 128 34 = some (.aload_n 0, 35, 0, []) := rfl
set_option maxRecDepth 20000 in
theorem at_128_35 : am_at 128 35 = some (.getfield 251, 38, 0, [8, 43, 0, 753]) := rfl
set_option maxRecDepth 20000 in
theorem at_128_38 : am_at 128 38 = some (.iconst 0, 39, 0, []) := rfl
set_option maxRecDepth 20000 in
theorem at_128_39 : am_at 128 39 = some (.iastore, 40, 0, []) := rfl
set_option maxRecDepth 20000 in
theorem at_128_40 : am_at 128 40 = some (.aload_n 0, 41, 0, []) := rfl
set_option maxRecDepth 20000 in
theorem at_128_41 : am_at 128 41 = some (.getfield 124, 44, 0, [8, 46, 3, 756]) := rfl
set_option maxRecDepth 20000 in
theorem at_128_44 : am_at 128 44 = some (.aload_n 0, 45, 0, []) := rfl
set_option maxRecDepth 20000 in
theorem at_128_45 : am_at 128 45 = some (.getfield 251, 48, 0, [8, 43, 0, 753]) := rfl
set_option maxRecDepth 20000 in
theorem at_128_48 : am_at 128 48 = some (.iload_n 1, 49, 1, []) := rfl
set_option maxRecDepth 20000 in
theorem at_128_49 : am_at 128 49 = some (.iconst 1, 50, 1, []) := rfl
set_option maxRecDepth 20000 in
theorem at_128_50 : am_at 128 50 = some (.iadd, 51, 0, []) := rfl
set_option maxRecDepth 20000 in
theorem at_128_51 : am_at 128 51 = some (.iastore, 52, 0, []) := rfl
set_option maxRecDepth 20000 in
theorem at_128_52 : am_at 128 52 = some (.aload_n 0, 53, 0, []) := rfl
set_option maxRecDepth 20000 in
theorem at_128_53 : am_at 128 53 = some (.dup, 54, 0, []) := rfl
set_option maxRecDepth 20000 in
theorem at_128_54 : am_at 128 54 = some (.getfield 251, 57, 0, [8, 43, 0, 753]) := rfl
set_option maxRecDepth 20000 in
theorem at_128_57 : am_at 128 57 = some (.iconst 1, 58, 1, []) := rfl
set_option maxRecDepth 20000 in
theorem at_128_58 : am_at 128 58 = some (.iadd, 59, 0, []) := rfl
set_option maxRecDepth 20000 in
theorem at_128_59 : am_at 128 59 = some (.putfield 251, 62, 0, [8, 43, 0, 753]) := rfl
set_option maxRecDepth 20000 in
theorem at_128_62 : am_at 128 62 = some (.iconst 0, 63, 0, []) := rfl
set_option maxRecDepth 20000 in
theorem at_128_63 : am_at 128 63 = some (.istore_n 3, 64, 3, []) := rfl
set_option maxRecDepth 20000 in
theorem at_128_64 : am_at 128 64 = some (.iload_n 3, 65, 3, []) := rfl
set_option maxRecDepth 20000 in
theorem at_128_65 : am_at 128 65 = some (.iload_n 2, 66, 2, []) := rfl
set_option maxRecDepth 20000 in
theorem at_128_66 : am_at 128 66 = some (.if_icmp .ge 13, 69, 79, []) := rfl
set_option maxRecDepth 20000 in
theorem at_128_69 : am_at 128 69 = some (.aload_n 0, 70, 0, []) := rfl
set_option maxRecDepth 20000 in
theorem at_128_70 : am_at 128 70 = some (.invokevirtual 254, 73, 129, [0, 0, 8, 1009, 1011, 49, 60]) := rfl
set_option maxRecDepth 20000 in
theorem at_128_73 : am_at 128 73 = some (.iinc 3 1, 76, 3, []) := rfl
set_option maxRecDepth 20000 in
theorem at_128_76 : am_at 128 76 = some (.goto (-12), 79, 64, []) := rfl
set_option maxRecDepth 20000 in
theorem at_128_79 : am_at 128 79 = some (.aload_n 0, 80, 0, []) := rfl
set_option maxRecDepth 20000 in
theorem at_128_80 : am_at 128 80 = some (.aload_n 0, 81, 0, []) := rfl
set_option maxRecDepth 20000 in
theorem at_128_81 : am_at 128 81 = some (.getfield 124, 84, 0, [8, 46, 3, 756]) := rfl
set_option maxRecDepth 20000 in
theorem at_128_84 : am_at 128 84 = some (.aload_n 0, 85, 0, []) := rfl
set_option maxRecDepth 20000 in
theorem at_128_85 : am_at 128 85 = some (.getfield 251, 88, 0, [8, 43, 0, 753]) := rfl
set_option maxRecDepth 20000 in
theorem at_128_88 : am_at 128 88 = some (.iconst 1, 89, 1, []) := rfl
set_option maxRecDepth 20000 in
theorem at_128_89 : am_at 128 89 = some (.isub, 90, 0, []) := rfl
set_option maxRecDepth 20000 in
theorem at_128_90 : am_at 128 90 = some (.iaload, 91, 0, []) := rfl
set_option maxRecDepth 20000 in
theorem at_128_91 : am_at 128 91 = some (.putfield 248, 94, 0, [8, 51, 0, 761]) := rfl
set_option maxRecDepth 20000 in
theorem at_128_94 : am_at 128 94 = some (.return_, 95, 0, []) := rfl
set_option maxRecDepth 20000 in
theorem at_129_0 : am_at 129 0 = some (.aload_n 0, 1, 0, []) := rfl
set_option maxRecDepth 20000 in
theorem at_129_1 : am_at 129 1 = some (.getfield 251, 4, 0, [8, 43, 0, 753]) := rfl
set_option maxRecDepth 20000 in
theorem at_129_4 : am_at 129 4 = some (.iconst 1, 5, 1, []) := rfl
set_option maxRecDepth 20000 in
theorem at_129_5 : am_at 129 5 = some (.isub, 6, 0, []) := rfl
set_option maxRecDepth 20000 in
theorem at_129_6 : am_at 129 6 = some (.istore_n 1, 7, 1, []) := rfl
set_option maxRecDepth 20000 in
theorem at_129_7 : am_at 129 7 = some (.aload_n 0, 8, 0, []) := rfl
set_option maxRecDepth 20000 in
theorem at_129_8 : am_at 129 8 = some (.getfield 121, 11, 0, [8, 45, 3, 755]) := rfl
set_option maxRecDepth 20000 in
theorem at_129_11 : am_at 129 11 = some (.iload_n 1, 12, 1, []) := rfl
set_option maxRecDepth 20000 in
theorem at_129_12 : am_at 129 12 = some (.dup2, 13, 0, []) := rfl
set_option maxRecDepth 20000 in
theorem at_129_13 : am_at 129 13 = some (.iaload, 14, 0, []) := rfl
set_option maxRecDepth 20000 in
theorem at_129_14 : am_at 129 14 = some (.iconst 1, 15, 1, []) := rfl
set_option maxRecDepth 20000 in
theorem at_129_15 : am_at 129 15 = some (.iadd, 16, 0, []) := rfl
set_option maxRecDepth 20000 in
theorem at_129_16 : am_at 129 16 = some (.iastore, 17, 0, []) := rfl
set_option maxRecDepth 20000 in
theorem at_129_17 : am_at 129 17 = some (.aload_n 0, 18, 0, []) := rfl
set_option maxRecDepth 20000 in
theorem at_129_18 : am_at 129 18 = some (.getfield 124, 21, 0, [8, 46, 3, 756]) := rfl
set_option maxRecDepth 20000 in
theorem at_129_21 : am_at 129 21 = some (.iload_n 1, 22, 1, []) := rfl
set_option maxRecDepth 20000 in
theorem at_129_22 : am_at 129 22 = some (.dup2, 23, 0, []) := rfl
set_option maxRecDepth 20000 in
theorem at_129_23 : am_at 129 23 = some (.iaload, 24, 0, []) := rfl
set_option maxRecDepth 20000 in
theorem at_129_24 : am_at 129 24 = some (.aload_n 0, 25, 0, []) := rfl
set_option maxRecDepth 20000 in
theorem at_129_25 : am_at 129 25 = some (.getfield 65, 28, 0, [8, 23, 3, 733]) := rfl
set_option maxRecDepth 20000 in
theorem at_129_28 : am_at 129 28 = some (.bipush 30, 30, 30, []) := rfl
set_option maxRecDepth 20000 in
theorem at_129_30 : am_at 129 30 = some (.aload_n 0, 31, 0, []) := rfl
set_option maxRecDepth 20000 in
theorem at_129_31 : am_at 129 31 = some (.getfield 71, 34, 0, [8, 26, 3, 736]) := rfl
set_option maxRecDepth 20000 in
theorem at_129_34 : am_at 129 34 = some (.aload_n 0, 35, 0, []) := rfl
set_option maxRecDepth 20000 in
theorem at_129_35 : am_at 129 35 = some (.getfield 230, 38, 0, [8, 49, 0, 759]) := rfl
set_option maxRecDepth 20000 in
theorem at_129_38 : am_at 129 38 = some (.iaload, 39, 0, []) := rfl
set_option maxRecDepth 20000 in
theorem at_129_39 : am_at 129 39 = some (.imul, 40, 0, []) := rfl
set_option maxRecDepth 20000 in
theorem at_129_40 : am_at 129 40 = some (.aload_n 0, 41, 0, []) := rfl
set_option maxRecDepth 20000 in
theorem at_129_41 : am_at 129 41 = some (.getfield 124, 44, 0, [8, 46, 3, 756]) := rfl
set_option maxRecDepth 20000 in
theorem at_129_44 : am_at 129 44 = some (.iload_n 1, 45, 1, []) := rfl
set_option maxRecDepth 20000 in
theorem at_129_45 : am_at 129 45 = some (.iaload, 46, 0, []) := rfl
set_option maxRecDepth 20000 in
theorem at_129_46 : am_at 129 46 = some (.iadd, 47, 0, []) := rfl
set_option maxRecDepth 20000 in
theorem at_129_47 : am_at 129 47 = some (.iaload, 48, 0, []) := rfl
set_option maxRecDepth 20000 in
theorem at_129_48 : am_at 129 48 = some (.iadd, 49, 0, []) := rfl
set_option maxRecDepth 20000 in
theorem at_129_49 : am_at 129 49 = some (.iastore, 50, 0, []) := rfl
set_option maxRecDepth 20000 in
theorem at_129_50 : am_at 129 50 = some (.return_, 51, 0, []) := rfl
set_option maxRecDepth 20000 in
theorem at_130_0 : am_at 130 0 = some (.aload_n 0, 1, 0, []) := rfl
set_option maxRecDepth 20000 in
theorem at_130_1 : am_at 130 1 = some (.getfield 251, 4, 0, [8, 43, 0, 753]) := rfl
set_option maxRecDepth 20000 in
theorem at_130_4 : am_at 130 4 = some (.iconst 1, 5, 1, []) := rfl
set_option maxRecDepth 20000 in
theorem at_130_5 : am_at 130 5 = some (.isub, 6, 0, []) := rfl
set_option maxRecDepth 20000 in
theorem at_130_6 : am_at 130 6 = some (.istore_n 1, 7, 1, []) := rfl
set_option maxRecDepth 20000 in
theorem at_130_7 : am_at 130 7 = some (.aload_n 0, 8, 0, []) := rfl
set_option maxRecDepth 20000 in
theorem at_130_8 : am_at 130 8 = some (.getfield 118, 11, 0, [8, 44, 3, 754]) := rfl
set_option maxRecDepth 20000 in
theorem at_130_11 : am_at 130 11 = some (.iload_n 1, 12, 1, []) := rfl
set_option maxRecDepth 20000 in
theorem at_130_12 : am_at 130 12 = some (.iaload, 13, 0, []) := rfl
set_option maxRecDepth 20000 in
theorem at_130_13 : am_at 130 13 = some (.istore_n 2, 14, 2, []) := rfl
set_option maxRecDepth 20000 in
theorem at_130_14 : am_at 130 14 = some (.bipush 30, 16, 30, []) := rfl
set_option maxRecDepth 20000 in
theorem at_130_16 : am_at 130 16 = some (.aload_n 0, 17, 0, []) := rfl
set_option maxRecDepth 20000 in
theorem at_130_17 : am_at 130 17 = some (.getfield 71, 20, 0, [8, 26, 3, 736]) := rfl
set_option maxRecDepth 20000 in
theorem at_130_20 : am_at 130 20 = some (.aload_n 0, 21, 0, []) := rfl
set_option maxRecDepth 20000 in
theorem at_130_21 : am_at 130 21 = some (.getfield 230, 24, 0, [8, 49, 0, 759]) := rfl
set_option maxRecDepth 20000 in
theorem at_130_24 : am_at 130 24 = some (.iaload, 25, 0, []) := rfl
set_option maxRecDepth 20000 in
theorem at_130_25 : am_at 130 25 = some (.imul, 26, 0, []) := rfl
set_option maxRecDepth 20000 in
theorem at_130_26 : am_at 130 26 = some (.iload_n 2, 27, 2, []) := rfl
set_option maxRecDepth 20000 in
theorem at_130_27 : am_at 130 27 = some (.iadd, 28, 0, []) := rfl
set_option maxRecDepth 20000 in
theorem at_130_28 : am_at 130 28 = some (.istore_n 3, 29, 3, []) := rfl
set_option maxRecDepth 20000 in
theorem at_130_29 : am_at 130 29 = some (.bipush 30, 31, 30, []) := rfl
set_option maxRecDepth 20000 in
theorem at_130_31 : am_at 130 31 = some (.aload_n 0, 32, 0, []) := rfl
set_option maxRecDepth 20000 in
theorem at_130_32 : am_at 130 32 = some (.getfield 230, 35, 0, [8, 49, 0, 759]) := rfl
set_option maxRecDepth 20000 in
theorem at_130_35 : am_at 130 35 = some (.imul, 36, 0, []) := rfl
set_option maxRecDepth 20000 in
theorem at_130_36 : am_at 130 36 = some (.iload_n 2, 37, 2, []) := rfl
set_option maxRecDepth 20000 in
theorem at_130_37 : am_at 130 37 = some (.iadd, 38, 0, []) := rfl
set_option maxRecDepth 20000 in
theorem at_130_38 : am_at 130 38 = some (.istore 4, 40, 4, []) := rfl
set_option maxRecDepth 20000 in
theorem at_130_40 : am_at 130 40 = some (.aload_n 0, 41, 0, []) := rfl
set_option maxRecDepth 20000 in
theorem at_130_41 : am_at 130 41 = some (.getfield 245, 44, 0, [8, 50, 0, 760]) := rfl
set_option maxRecDepth 20000 in
theorem at_130_44 : am_at 130 44 = some (.istore 5, 46, 5, []) := rfl
set_option maxRecDepth 20000 in
theorem at_130_46 : am_at 130 46 = some (.aload_n 0, 47, 0, []) := rfl
set_option maxRecDepth 20000 in
theorem at_130_47 : am_at 130 47 = some (.getfield 50, 50, 0, [8, 18, 3, 728]) := rfl
set_option maxRecDepth 20000 in
theorem at_130_50 : am_at 130 50 = some (.iload_n 3, 51, 3, []) := rfl
set_option maxRecDepth 20000 in
theorem at_130_51 : am_at 130 51 = some (.iaload, 52, 0, []) := rfl
set_option maxRecDepth 20000 in
theorem at_130_52 : am_at 130 52 = some (.aload_n 0, 53, 0, []) := rfl
set_option maxRecDepth 20000 in
theorem at_130_53 : am_at 130 53 = some (.getfield 53, 56, 0, [8, 19, 3, 729]) := rfl
set_option maxRecDepth 20000 in
theorem at_130_56 : am_at 130 56 = some (.iload_n 3, 57, 3, []) := rfl
set_option maxRecDepth 20000 in
theorem at_130_57 : am_at 130 57 = some (.iaload, 58, 0, []) := rfl
set_option maxRecDepth 20000 in
theorem at_130_58 : am_at 130 58 = some (.invokestatic 189, 61, 106, [0, 2, 918, 919, 60]) := rfl
set_option maxRecDepth 20000 in
theorem at_130_61 : am_at 130 61 = some (.istore 6, 63, 6, []) := rfl
set_option maxRecDepth 20000 in
theorem at_130_63 : am_at 130 63 = some (.aload_n 0, 64, 0, []) := rfl
set_option maxRecDepth 20000 in
theorem at_130_64 : am_at 130 64 = some (.getfield 127, 67, 0, [8, 47, 3, 757]) := rfl
set_option maxRecDepth 20000 in
theorem at_130_67 : am_at 130 67 = some (.iload_n 1, 68, 1, []) := rfl
set_option maxRecDepth 20000 in
theorem at_130_68 : am_at 130 68 = some (.dup2, 69, 0, []) := rfl
set_option maxRecDepth 20000 in
theorem at_130_69 : am_at 130 69 = some (.iaload, 70, 0, []) := rfl
set_option maxRecDepth 20000 in
theorem at_130_70 : am_at 130 70 = some (.iload 5, 72, 5, []) := rfl
set_option maxRecDepth 20000 in
theorem at_130_72 : am_at 130 72 = some (.iconst 1, 73, 1, []) := rfl
set_option maxRecDepth 20000 in
theorem at_130_73 : am_at 130 73 = some (.if_icmp .ne 7, 76, 80, []) := rfl
set_option maxRecDepth 20000 in
theorem at_130_76 : am_at 130 76 = some (.iconst 1, 77, 1, []) := rfl
set_option maxRecDepth 20000 in
theorem at_130_77 : am_at 130 77 = some (.goto 4, 80, 81, []) := rfl
set_option maxRecDepth 20000 in
theorem at_130_80 : am_at 130 80 = some (.iconst 0, 81, 0, []) := rfl
set_option maxRecDepth 20000 in
theorem at_130_81 : am_at 130 81 = some (.iadd, 82, 0, []) := rfl
set_option maxRecDepth 20000 in
theorem at_130_82 : am_at 130 82 = some (.iastore, 83, 0, []) := rfl
set_option maxRecDepth 20000 in
theorem at_130_83 : am_at 130 83 = some (.aload_n 0, 84, 0, []) := rfl
set_option maxRecDepth 20000 in
theorem at_130_84 : am_at 130 84 = some (.getfield 130, 87, 0, [8, 48, 3, 758]) := rfl
set_option maxRecDepth 20000 in
theorem at_130_87 : am_at 130 87 = some (.iload_n 1, 88, 1, []) := rfl
set_option maxRecDepth 20000 in
theorem at_130_88 : am_at 130 88 = some (.dup2, 89, 0, []) := rfl
set_option maxRecDepth 20000 in
theorem at_130_89 : am_at 130 89 = some (.iaload, 90, 0, []) := rfl
set_option maxRecDepth 20000 in
theorem at_130_90 : am_at 130 90 = some (.iload 5, 92, 5, []) := rfl
set_option maxRecDepth 20000 in
theorem at_130_92 : am_at 130 92 = some (.iconst 3, 93, 3, []) := rfl
set_option maxRecDepth 20000 in
theorem at_130_93 : am_at 130 93 = some (.if_icmp .ne 7, 96, 100, []) := rfl
set_option maxRecDepth 20000 in
theorem at_130_96 : am_at 130 96 = some (.iconst 1, 97, 1, []) := rfl
set_option maxRecDepth 20000 in
theorem at_130_97 : am_at 130 97 = some (.goto 4, 100, 101, []) := rfl
set_option maxRecDepth 20000 in
theorem at_130_100 : am_at 130 100 = some (.iconst 0, 101, 0, []) := rfl
set_option maxRecDepth 20000 in
theorem at_130_101 : am_at 130 101 = some (.iadd, 102, 0, []) := rfl
set_option maxRecDepth 20000 in
theorem at_130_102 : am_at 130 102 = some (.iastore, 103, 0, []) := rfl
set_option maxRecDepth 20000 in
theorem at_130_103 : am_at 130 103 = some (.aload_n 0, 104, 0, []) := rfl
set_option maxRecDepth 20000 in
theorem at_130_104 : am_at 130 104 = some (.getfield 121, 107, 0, [8, 45, 3, 755]) := rfl
set_option maxRecDepth 20000 in
theorem at_130_107 : am_at 130 107 = some (.iload_n 1, 108, 1, []) := rfl
set_option maxRecDepth 20000 in
theorem at_130_108 : am_at 130 108 = some (.iaload, 109, 0, []) := rfl
set_option maxRecDepth 20000 in
theorem at_130_109 : am_at 130 109 = some (.iconst 1, 110, 1, []) := rfl
set_option maxRecDepth 20000 in
theorem at_130_110 : am_at 130 110 = some (.iadd, 111, 0, []) := rfl
set_option maxRecDepth 20000 in
theorem at_130_111 : am_at 130 111 = some (.iload 6, 113, 6, []) := rfl
set_option maxRecDepth 20000 in
theorem at_130_113 : am_at 130 113 = some (.if_icmp .ne 7, 116, 120, []) := rfl
set_option maxRecDepth 20000 in
theorem at_130_116 : am_at 130 116 = some (.iconst 1, 117, 1, []) := rfl
set_option maxRecDepth 20000 in
theorem at_130_117 : am_at 130 117 = some (.goto 4, 120, 121, []) := rfl
set_option maxRecDepth 20000 in
theorem at_130_120 : am_at 130 120 = some (.iconst 0, 121, 0, []) := rfl
set_option maxRecDepth 20000 in
theorem at_130_121 : am_at 130 121 = some (.istore 7, 123, 7, []) := rfl
set_option maxRecDepth 20000 in
theorem at_130_123 : am_at 130 123 = some (.iload 7, 125, 7, []) := rfl
set_option maxRecDepth 20000 in
theorem at_130_125 : am_at 130 125 = some (.ifCond .ne 60, 128, 185, []) := rfl
set_option maxRecDepth 20000 in
theorem at_130_128 : am_at 130 128 = some (.aload_n 0, 129, 0, []) := rfl
set_option maxRecDepth 20000 in
theorem at_130_129 : am_at 130 129 = some (.getfield 50, 132, 0, [8, 18, 3, 728]) := rfl
set_option maxRecDepth 20000 in
theorem at_130_132 : am_at 130 132 = some (.iload_n 3, 133, 3, []) := rfl
set_option maxRecDepth 20000 in
theorem at_130_133 : am_at 130 133 = some (.iaload, 134, 0, []) := rfl
set_option maxRecDepth 20000 in
theorem at_130_134 : am_at 130 134 = some (.iconst 4, 135, 4, []) := rfl
set_option maxRecDepth 20000 in
theorem at_130_135 : am_at 130 135 = some (.if_icmp .eq 46, 138, 181, []) := rfl
set_option maxRecDepth 20000 in
theorem at_130_138 : am_at 130 138 = some (.aload_n 0, 139, 0, []) := rfl
set_option maxRecDepth 20000 in
theorem at_130_139 : am_at 130 139 = some (.getfield 50, 142, 0, [8, 18, 3, 728]) := rfl
set_option maxRecDepth 20000 in
theorem at_130_142 : am_at 130 142 = some (.iload_n 3, 143, 3, []) := rfl
set_option maxRecDepth 20000 in
theorem at_130_143 : am_at 130 143 = some (.iaload, 144, 0, []) := rfl
set_option maxRecDepth 20000 in
theorem at_130_144 : am_at 130 144 = some (.iconst 3, 145, 3, []) := rfl
set_option maxRecDepth 20000 in
theorem at_130_145 : am_at 130 145 = some (.if_icmp .ne 9, 148, 154, []) := rfl
set_option maxRecDepth 20000 in
theorem at_130_148 : am_at 130 148 = some (.iload 5, 150, 5, []) := rfl
set_option maxRecDepth 20000 in
theorem at_130_150 : am_at 130 150 = some (.iconst 2, 151, 2, []) := rfl
set_option maxRecDepth 20000 in
theorem at_130_151 : am_at 130 151 = some (.if_icmp .eq 30, 154, 181, []) := rfl
set_option maxRecDepth 20000 in
theorem at_130_154 : am_at 130 154 = some (.aload_n 0, 155, 0, []) := rfl
set_option maxRecDepth 20000 in
theorem at_130_155 : am_at 130 155 = some (.getfield 50, 158, 0, [8, 18, 3, 728]) := rfl
set_option maxRecDepth 20000 in
theorem at_130_158 : am_at 130 158 = some (.iload_n 3, 159, 3, []) := rfl
set_option maxRecDepth 20000 in
theorem at_130_159 : am_at 130 159 = some (.iaload, 160, 0, []) := rfl
set_option maxRecDepth 20000 in
theorem at_130_160 : am_at 130 160 = some (.iconst 2, 161, 2, []) := rfl
set_option maxRecDepth 20000 in
theorem at_130_161 : am_at 130 161 = some (.if_icmp .eq 14, 164, 175, []) := rfl
set_option maxRecDepth 20000 in
theorem at_130_164 : am_at 130 164 = some (.aload_n 0, 165, 0, []) := rfl
set_option maxRecDepth 20000 in
theorem at_130_165 : am_at 130 165 = some (.getfield 50, 168, 0, [8, 18, 3, 728]) := rfl
set_option maxRecDepth 20000 in
theorem at_130_168 : am_at 130 168 = some (.iload_n 3, 169, 3, []) := rfl
set_option maxRecDepth 20000 in
theorem at_130_169 : am_at 130 169 = some (.iaload, 170, 0, []) := rfl
set_option maxRecDepth 20000 in
theorem at_130_170 : am_at 130 170 = some (.bipush 7, 172, 7, []) := rfl
set_option maxRecDepth 20000 in
theorem at_130_172 : am_at 130 172 = some (.if_icmp .ne 13, 175, 185, []) := rfl
set_option maxRecDepth 20000 in
theorem at_130_175 : am_at 130 175 = some (.iload 5, 177, 5, []) := rfl
set_option maxRecDepth 20000 in
theorem at_130_177 : am_at 130 177 = some (.iconst 1, 178, 1, []) := rfl
set_option maxRecDepth 20000 in
theorem at_130_178 : am_at 130 178 = some (.if_icmp .ne 7, 181, 185, []) := rfl
set_option maxRecDepth 20000 in
theorem at_130_181 : am_at 130 181 = some (.iconst 1, 182, 1, []) := rfl
set_option maxRecDepth 20000 in
theorem at_130_182 : am_at 130 182 = some (.goto 4, 185, 186, []) := rfl
set_option maxRecDepth 20000 in
theorem at_130_185 : am_at 130 185 = some (.iconst 0, 186, 0, []) := rfl
set_option maxRecDepth 20000 in
theorem at_130_186 : am_at 130 186 = some (.istore 8, 188, 8, []) := rfl
set_option maxRecDepth 20000 in
theorem at_130_188 : am_at 130 188 = some (.iload 8, 190, 8, []) := rfl
set_option maxRecDepth 20000 in
theorem at_130_190 : am_at 130 190 = some (.ifCond .eq 18, 193, 208, []) := rfl
set_option maxRecDepth 20000 in
theorem at_130_193 : am_at 130 193 = some (.aload_n 0, 194, 0, []) := rfl
set_option maxRecDepth 20000 in
theorem at_130_194 : am_at 130 194 = some (.invokevirtual 254, 197, 129, [0, 0, 8, 1009, 1011, 49, 60]) := rfl
set_option maxRecDepth 20000 in
theorem at_130_197 : am_at 130 197 = some (.aload_n 0, 198, 0, []) := rfl
set_option maxRecDepth 20000 in
theorem at_130_198 : am_at 130 198 = some (.aload_n 0, 199, 0, []) := rfl
set_option maxRecDepth 20000 in
theorem at_130_199 : am_at 130 199 = some (.getfield 124, 202, 0, [8, 46, 3, 756]) := rfl
set_option maxRecDepth 20000 in
theorem at_130_202 : am_at 130 202 = some (.iload_n 1, 203, 1, []) := rfl
set_option maxRecDepth 20000 in
theorem at_130_203 : am_at 130 203 = some (.iaload, 204, 0, []) := rfl
set_option maxRecDepth 20000 in
theorem at_130_204 : am_at 130 204 = some (.putfield 248, 207, 0, [8, 51, 0, 761]) := rfl
set_option maxRecDepth 20000 in
theorem at_130_207 : am_at 130 207 = some (.return_, 208, 0, []) := rfl
set_option maxRecDepth 20000 in
theorem at_130_208 : am_at 130 208 = some (.aload_n 0, 209, 0, []) := rfl
set_option maxRecDepth 20000 in
theorem at_130_209 : am_at 130 209 = some (.getfield 50, 212, 0, [8, 18, 3, 728]) := rfl
set_option maxRecDepth 20000 in
theorem at_130_212 : am_at 130 212 = some (.iload_n 3, 213, 3, []) := rfl
set_option maxRecDepth 20000 in
theorem at_130_213 : am_at 130 213 = some (.iaload, 214, 0, []) := rfl
set_option maxRecDepth 20000 in
theorem at_130_214 : am_at 130 214 = some (.bipush 7, 216, 7, []) := rfl
set_option maxRecDepth 20000 in
theorem at_130_216 : am_at 130 216 = some (.if_icmp .ne 19, 219, 235, []) := rfl
set_option maxRecDepth 20000 in
theorem at_130_219 : am_at 130 219 = some (.aload_n 0, 220, 0, []) := rfl
set_option maxRecDepth 20000 in
theorem at_130_220 : am_at 130 220 = some (.getfield 90, 223, 0, [8, 32, 3, 742]) := rfl
set_option maxRecDepth 20000 in
theorem at_130_223 : am_at 130 223 = some (.iload 4, 225, 4, []) := rfl
set_option maxRecDepth 20000 in
theorem at_130_225 : am_at 130 225 = some (.aload_n 0, 226, 0, []) := rfl
set_option maxRecDepth 20000 in
theorem at_130_226 : am_at 130 226 = some (.getfield 121, 229, 0, [8, 45, 3, 755]) := rfl
set_option maxRecDepth 20000 in
theorem at_130_229 : am_at 130 229 = some (.iload_n 1, 230, 1, []) := rfl
set_option maxRecDepth 20000 in
theorem at_130_230 : am_at 130 230 = some (.iaload, 231, 0, []) := rfl
set_option maxRecDepth 20000 in
theorem at_130_231 : am_at 130 231 = some (.iastore, 232, 0, []) := rfl
set_option maxRecDepth 20000 in
theorem at_130_232 : am_at 130 232 = some (.goto 146, 235, 378, []) := rfl
set_option maxRecDepth 20000 in
theorem at_130_235 : am_at 130 235 = some (.aload_n 0, 236, 0, []) := rfl
set_option maxRecDepth 20000 in
theorem at_130_236 : am_at 130 236 = some (.getfield 50, 239, 0, [8, 18, 3, 728]) := rfl
set_option maxRecDepth 20000 in
theorem at_130_239 : am_at 130 239 = some (.iload_n 3, 240, 3, []) := rfl
set_option maxRecDepth 20000 in
theorem at_130_240 : am_at 130 240 = some (.iaload, 241, 0, []) := rfl
set_option maxRecDepth 20000 in
theorem at_130_241 : am_at 130 241 = some (.bipush 8, 243, 8, []) := rfl
set_option maxRecDepth 20000 in
theorem at_130_243 : am_at 130 243 = some (.if_icmp .ne 23, 246, 266, []) := rfl
set_option maxRecDepth 20000 in
theorem at_130_246 : am_at 130 246 = some (.iload 5, 248, 5, []) := rfl
set_option maxRecDepth 20000 in
theorem at_130_248 : am_at 130 248 = some (.iconst 3, 249, 3, []) := rfl
set_option maxRecDepth 20000 in
theorem at_130_249 : am_at 130 249 = some (.if_icmp .ne 8, 252, 257, []) := rfl
set_option maxRecDepth 20000 in
theorem at_130_252 : am_at 130 252 = some (.iload 5, 254, 5, []) := rfl
set_option maxRecDepth 20000 in
theorem at_130_254 : am_at 130 254 = some (.goto 7, 257, 261, []) := rfl
set_option maxRecDepth 20000 in
theorem at_130_257 : am_at 130 257 = some (.iconst 3, 258, 3, []) := rfl
set_option maxRecDepth 20000 in
theorem at_130_258 : am_at 130 258 = some (.iload 5, 260, 5, []) := rfl
set_option maxRecDepth 20000 in
theorem at_130_260 : am_at 130 260 = some (.isub, 261, 0, []) := rfl
set_option maxRecDepth 20000 in
theorem at_130_261 : am_at 130 261 = some (.istore 5, 263, 5, []) := rfl
set_option maxRecDepth 20000 in
theorem at_130_263 : am_at 130 263 = some (.goto 115, 266, 378, []) := rfl
set_option maxRecDepth 20000 in
theorem at_130_266 : am_at 130 266 = some (.aload_n 0, 267, 0, []) := rfl
set_option maxRecDepth 20000 in
theorem at_130_267 : am_at 130 267 = some (.getfield 50, 270, 0, [8, 18, 3, 728]) := rfl
set_option maxRecDepth 20000 in
theorem at_130_270 : am_at 130 270 = some (.iload_n 3, 271, 3, []) := rfl
set_option maxRecDepth 20000 in
theorem at_130_271 : am_at 130 271 = some (.iaload, 272, 0, []) := rfl
set_option maxRecDepth 20000 in
theorem at_130_272 : am_at 130 272 = some (.iconst 4, 273, 4, []) := rfl
set_option maxRecDepth 20000 in
theorem at_130_273 : am_at 130 273 = some (.if_icmp .ne 54, 276, 327, []) := rfl
set_option maxRecDepth 20000 in
theorem at_130_276 : am_at 130 276 = some (.aload_n 0, 277, 0, []) := rfl
set_option maxRecDepth 20000 in
theorem at_130_277 : am_at 130 277 = some (.getfield 127, 280, 0, [8, 47, 3, 757]) := rfl
set_option maxRecDepth 20000 in
theorem at_130_280 : am_at 130 280 = some (.iload_n 1, 281, 1, []) := rfl
set_option maxRecDepth 20000 in
theorem at_130_281 : am_at 130 281 = some (.iaload, 282, 0, []) := rfl
set_option maxRecDepth 20000 in
theorem at_130_282 : am_at 130 282 = some (.aload_n 0, 283, 0, []) := rfl
set_option maxRecDepth 20000 in
theorem at_130_283 : am_at 130 283 = some (.getfield 56, 286, 0, [8, 20, 3, 730]) := rfl
set_option maxRecDepth 20000 in
theorem at_130_286 : am_at 130 286 = some (.iload_n 3, 287, 3, []) := rfl
set_option maxRecDepth 20000 in
theorem at_130_287 : am_at 130 287 = some (.iaload, 288, 0, []) := rfl
set_option maxRecDepth 20000 in
theorem at_130_288 : am_at 130 288 = some (.if_icmp .lt 7, 291, 295, []) := rfl
set_option maxRecDepth 20000 in
theorem at_130_291 : am_at 130 291 = some (.iconst 1, 292, 1, []) := rfl
set_option maxRecDepth 20000 in
theorem at_130_292 : am_at 130 292 = some (.goto 30, 295, 322, []) := rfl
set_option maxRecDepth 20000 in
theorem at_130_295 : am_at 130 295 = some (.aload_n 0, 296, 0, []) := rfl
set_option maxRecDepth 20000 in
theorem at_130_296 : am_at 130 296 = some (.getfield 127, 299, 0, [8, 47, 3, 757]) := rfl
set_option maxRecDepth 20000 in
theorem at_130_299 : am_at 130 299 = some (.iload_n 1, 300, 1, []) := rfl
set_option maxRecDepth 20000 in
theorem at_130_300 : am_at 130 300 = some (.iaload, 301, 0, []) := rfl
set_option maxRecDepth 20000 in
theorem at_130_301 : am_at 130 301 = some (.aload_n 0, 302, 0, []) := rfl
set_option maxRecDepth 20000 in
theorem at_130_302 : am_at 130 302 = some (.getfield 130, 305, 0, [8, 48, 3, 758]) := rfl
set_option maxRecDepth 20000 in
theorem at_130_305 : am_at 130 305 = some (.iload_n 1, 306, 1, []) := rfl
set_option maxRecDepth 20000 in
theorem at_130_306 : am_at 130 306 = some (.iaload, 307, 0, []) := rfl
set_option maxRecDepth 20000 in
theorem at_130_307 : am_at 130 307 = some (.iadd, 308, 0, []) := rfl
set_option maxRecDepth 20000 in
theorem at_130_308 : am_at 130 308 = some (.aload_n 0, 309, 0, []) := rfl
set_option maxRecDepth 20000 in
theorem at_130_309 : am_at 130 309 = some (.getfield 56, 312, 0, [8, 20, 3, 730]) := rfl
set_option maxRecDepth 20000 in
theorem at_130_312 : am_at 130 312 = some (.iload_n 3, 313, 3, []) := rfl
set_option maxRecDepth 20000 in
theorem at_130_313 : am_at 130 313 = some (.iaload, 314, 0, []) := rfl
set_option maxRecDepth 20000 in
theorem at_130_314 : am_at 130 314 = some (.if_icmp .ge 7, 317, 321, []) := rfl
set_option maxRecDepth 20000 in
theorem at_130_317 : am_at 130 317 = some (.iconst 2, 318, 2, []) := rfl
set_option maxRecDepth 20000 in
theorem at_130_318 : am_at 130 318 = some (.goto 4, 321, 322, []) := rfl
set_option maxRecDepth 20000 in
theorem at_130_321 : am_at 130 321 = some (.iconst 3, 322, 3, []) := rfl
set_option maxRecDepth 20000 in
theorem at_130_322 : am_at 130 322 = some (.istore 5, 324, 5, []) := rfl
set_option maxRecDepth 20000 in
theorem at_130_324 : am_at 130 324 = some (.goto 54, 327, 378, []) := rfl
set_option maxRecDepth 20000 in
theorem at_130_327 : am_at 130 327 = some (.aload_n 0, 328, 0, []) := rfl
set_option maxRecDepth 20000 in
theorem at_130_328 : am_at 130 328 = some (.getfield 50, 331, 0, [8, 18, 3, 728]) := rfl
set_option maxRecDepth 20000 in
theorem at_130_331 : am_at 130 331 = some (.iload_n 3, 332, 3, []) := rfl
set_option maxRecDepth 20000 in
theorem at_130_332 : am_at 130 332 = some (.iaload, 333, 0, []) := rfl
set_option maxRecDepth 20000 in
theorem at_130_333 : am_at 130 333 = some (.bipush 6, 335, 6, []) := rfl
set_option maxRecDepth 20000 in
theorem at_130_335 : am_at 130 335 = some (.if_icmp .ne 43, 338, 378, []) := rfl
set_option maxRecDepth 20000 in
theorem at_130_338 : am_at 130 338 = some (.iload 5, 340, 5, []) := rfl
set_option maxRecDepth 20000 in
theorem at_130_340 : am_at 130 340 = some (.iconst 1, 341, 1, []) := rfl
set_option maxRecDepth 20000 in
theorem at_130_341 : am_at 130 341 = some (.if_icmp .ne 37, 344, 378, []) := rfl
set_option maxRecDepth 20000 in
theorem at_130_344 : am_at 130 344 = some (.aload_n 0, 345, 0, []) := rfl
set_option maxRecDepth 20000 in
theorem at_130_345 : am_at 130 345 = some (.getfield 90, 348, 0, [8, 32, 3, 742]) := rfl
set_option maxRecDepth 20000 in
theorem at_130_348 : am_at 130 348 = some (.iload 4, 350, 4, []) := rfl
set_option maxRecDepth 20000 in
theorem at_130_350 : am_at 130 350 = some (.dup2, 351, 0, []) := rfl
set_option maxRecDepth 20000 in
theorem at_130_351 : am_at 130 351 = some (.iaload, 352, 0, []) := rfl
set_option maxRecDepth 20000 in
theorem at_130_352 : am_at 130 352 = some (.iconst 1, 353, 1, []) := rfl
set_option maxRecDepth 20000 in
theorem at_130_353 : am_at 130 353 = some (.iadd, 354, 0, []) := rfl
set_option maxRecDepth 20000 in
theorem at_130_354 : am_at 130 354 = some (.iastore, 355, 0, []) := rfl
set_option maxRecDepth 20000 in
theorem at_130_355 : am_at 130 355 = some (.aload_n 0, 356, 0, []) := rfl
set_option maxRecDepth 20000 in
theorem at_130_356 : am_at 130 356 = some (.getfield 90, 359, 0, [8, 32, 3, 742]) := rfl
set_option maxRecDepth 20000 in
theorem at_130_359 : am_at 130 359 = some (.iload 4, 361, 4, []) := rfl
set_option maxRecDepth 20000 in
theorem at_130_361 : am_at 130 361 = some (.iaload, 362, 0, []) := rfl
set_option maxRecDepth 20000 in
theorem at_130_362 : am_at 130 362 = some (.aload_n 0, 363, 0, []) := rfl
set_option maxRecDepth 20000 in
theorem at_130_363 : am_at 130 363 = some (.getfield 53, 366, 0, [8, 19, 3, 729]) := rfl
set_option maxRecDepth 20000 in
theorem at_130_366 : am_at 130 366 = some (.iload_n 3, 367, 3, []) := rfl
set_option maxRecDepth 20000 in
theorem at_130_367 : am_at 130 367 = some (.iaload, 368, 0, []) := rfl
set_option maxRecDepth 20000 in
theorem at_130_368 : am_at 130 368 = some (.if_icmp .ne 7, 371, 375, []) := rfl
set_option maxRecDepth 20000 in
theorem at_130_371 : am_at 130 371 = some (.iconst 1, 372, 1, []) := rfl
set_option maxRecDepth 20000 in
theorem at_130_372 : am_at 130 372 = some (.goto 4, 375, 376, []) := rfl
set_option maxRecDepth 20000 in
theorem at_130_375 : am_at 130 375 = some (.iconst 3, 376, 3, []) := rfl
set_option maxRecDepth 20000 in
theorem at_130_376 : am_at 130 376 = some (.istore 5, 378, 5, []) := rfl
set_option maxRecDepth 20000 in
theorem at_130_378 : am_at 130 378 = some (.aload_n 0, 379, 0, []) := rfl
set_option maxRecDepth 20000 in
theorem at_130_379 : am_at 130 379 = some (.dup, 380, 0, []) := rfl
set_option maxRecDepth 20000 in
theorem at_130_380 : am_at 130 380 = some (.getfield 251, 383, 0, [8, 43, 0, 753]) := rfl
set_option maxRecDepth 20000 in
theorem at_130_383 : am_at 130 383 = some (.iconst 1, 384, 1, []) := rfl
set_option maxRecDepth 20000 in
theorem at_130_384 : am_at 130 384 = some (.isub, 385, 0, []) := rfl
set_option maxRecDepth 20000 in
theorem at_130_385 : am_at 130 385 = some (.putfield 251, 388, 0, [8, 43, 0, 753]) := rfl
set_option maxRecDepth 20000 in
theorem at_130_388 : am_at 130 388 = some (.aload_n 0, 389, 0, []) := rfl
set_option maxRecDepth 20000 in
theorem at_130_389 : am_at 130 389 = some (.iload_n 2, 390, 2, []) := rfl
set_option maxRecDepth 20000 in
theorem at_130_390 : am_at 130 390 = some (.iload 5, 392, 5, []) := rfl
set_option maxRecDepth 20000 in
theorem at_130_392 : am_at 130 392 = some (.invokevirtual 257, 395, 120, [0, 2, 8, 973, 975, 41, 60]) := rfl
set_option maxRecDepth 20000 in
theorem at_130_395 : am_at 130 395 = some (.return_, 396, 0, []) := rfl
set_option maxRecDepth 20000 in
theorem at_131_0 : am_at 131 0 = some (.bipush 30, 2, 30, []) := rfl
set_option maxRecDepth 20000 in
theorem at_131_2 : am_at 131 2 = some (.aload_n 0, 3, 0, []) := rfl
set_option maxRecDepth 20000 in
theorem at_131_3 : am_at 131 3 = some (.getfield 71, 6, 0, [8, 26, 3, 736]) := rfl
set_option maxRecDepth 20000 in
theorem at_131_6 : am_at 131 6 = some (.aload_n 0, 7, 0, []) := rfl
set_option maxRecDepth 20000 in
theorem at_131_7 : am_at 131 7 = some (.getfield 230, 10, 0, [8, 49, 0, 759]) := rfl
set_option maxRecDepth 20000 in
theorem at_131_10 : am_at 131 10 = some (.iaload, 11, 0, []) := rfl
set_option maxRecDepth 20000 in
theorem at_131_11 : am_at 131 11 = some (.imul, 12, 0, []) := rfl
set_option maxRecDepth 20000 in
theorem at_131_12 : am_at 131 12 = some (.istore_n 1, 13, 1, []) := rfl
set_option maxRecDepth 20000 in
theorem at_131_13 : am_at 131 13 = some (.aload_n 0, 14, 0, []) := rfl
set_option maxRecDepth 20000 in
theorem at_131_14 : am_at 131 14 = some (.getfield 47, 17, 0, [8, 17, 3, 727]) := rfl
set_option maxRecDepth 20000 in
theorem at_131_17 : am_at 131 17 = some (.aload_n 0, 18, 0, []) := rfl
set_option maxRecDepth 20000 in
theorem at_131_18 : am_at 131 18 = some (.getfield 71, 21, 0, [8, 26, 3, 736]) := rfl
set_option maxRecDepth 20000 in
theorem at_131_21 : am_at 131 21 = some (.aload_n 0, 22, 0, []) := rfl
set_option maxRecDepth 20000 in
theorem at_131_22 : am_at 131 22 = some (.getfield 230, 25, 0, [8, 49, 0, 759]) := rfl
set_option maxRecDepth 20000 in
theorem at_131_25 : am_at 131 25 = some (.iaload, 26, 0, []) := rfl
set_option maxRecDepth 20000 in
theorem at_131_26 : am_at 131 26 = some (.iaload, 27, 0, []) := rfl
set_option maxRecDepth 20000 in
theorem at_131_27 : am_at 131 27 = some (.istore_n 2, 28, 2, []) := rfl
set_option maxRecDepth 20000 in
theorem at_131_28 : am_at 131 28 = some (.iconst 0, 29, 0, []) := rfl
set_option maxRecDepth 20000 in
theorem at_131_29 : am_at 131 29 = some (.istore_n 3, 30, 3, []) := rfl
set_option maxRecDepth 20000 in
theorem at_131_30 : am_at 131 30 = some (.iload_n 3, 31, 3, []) := rfl
set_option maxRecDepth 20000 in
theorem at_131_31 : am_at 131 31 = some (.iload_n 2, 32, 2, []) := rfl
set_option maxRecDepth 20000 in
theorem at_131_32 : am_at 131 32 = some (.if_icmp .ge 101, 35, 133, []) := rfl
set_option maxRecDepth 20000 in
theorem at_131_35 : am_at 131 35 = some (.bipush 30, 37, 30, []) := rfl
set_option maxRecDepth 20000 in
theorem at_131_37 : am_at 131 37 = some (.aload_n 0, 38, 0, []) := rfl
set_option maxRecDepth 20000 in
theorem at_131_38 : am_at 131 38 = some (.getfield 230, 41, 0, [8, 49, 0, 759]) := rfl
set_option maxRecDepth 20000 in
theorem at_131_41 : am_at 131 41 = some (.imul, 42, 0, []) := rfl
set_option maxRecDepth 20000 in
theorem at_131_42 : am_at 131 42 = some (.iload_n 3, 43, 3, []) := rfl
set_option maxRecDepth 20000 in
theorem at_131_43 : am_at 131 43 = some (.iadd, 44, 0, []) := rfl
set_option maxRecDepth 20000 in
theorem at_131_44 : am_at 131 44 = some (.istore 4, 46, 4, []) := rfl
set_option maxRecDepth 20000 in
theorem at_131_46 : am_at 131 46 = some (.aload_n 0, 47, 0, []) := rfl
set_option maxRecDepth 20000 in
theorem at_131_47 : am_at 131 47 = some (.getfield 50, 50, 0, [8, 18, 3, 728]) := rfl
set_option maxRecDepth 20000 in
theorem at_131_50 : am_at 131 50 = some (.iload_n 1, 51, 1, []) := rfl
set_option maxRecDepth 20000 in
theorem at_131_51 : am_at 131 51 = some (.iload_n 3, 52, 3, []) := rfl
set_option maxRecDepth 20000 in
theorem at_131_52 : am_at 131 52 = some (.iadd, 53, 0, []) := rfl
set_option maxRecDepth 20000 in
theorem at_131_53 : am_at 131 53 = some (.iaload, 54, 0, []) := rfl
set_option maxRecDepth 20000 in
theorem at_131_54 : am_at 131 54 = some (.bipush 9, 56, 9, []) := rfl
set_option maxRecDepth 20000 in
theorem at_131_56 : am_at 131 56 = some (.if_icmp .ne 27, 59, 83, []) := rfl
set_option maxRecDepth 20000 in
theorem at_131_59 : am_at 131 59 = some (.aload_n 0, 60, 0, []) := rfl
set_option maxRecDepth 20000 in
theorem at_131_60 : am_at 131 60 = some (.getfield 115, 63, 0, [8, 42, 3, 752]) := rfl
set_option maxRecDepth 20000 in
theorem at_131_63 : am_at 131 63 = some (.iload_n 3, 64, 3, []) := rfl
set_option maxRecDepth 20000 in
theorem at_131_64 : am_at 131 64 = some (.baload, 65, 0, []) := rfl
set_option maxRecDepth 20000 in
theorem at_131_65 : am_at 131 65 = some (.ifCond .eq 18, 68, 83, []) := rfl
set_option maxRecDepth 20000 in
theorem at_131_68 : am_at 131 68 = some (.aload_n 0, 69, 0, []) := rfl
set_option maxRecDepth 20000 in
theorem at_131_69 : am_at 131 69 = some (.getfield 77, 72, 0, [8, 28, 3, 738]) := rfl
set_option maxRecDepth 20000 in
theorem at_131_72 : am_at 131 72 = some (.iload 4, 74, 4, []) := rfl
set_option maxRecDepth 20000 in
theorem at_131_74 : am_at 131 74 = some (.iaload, 75, 0, []) := rfl
set_option maxRecDepth 20000 in
theorem at_131_75 : am_at 131 75 = some (.iconst 1, 76, 1, []) := rfl
set_option maxRecDepth 20000 in
theorem at_131_76 : am_at 131 76 = some (.if_icmp .ne 7, 79, 83, []) := rfl
set_option maxRecDepth 20000 in
theorem at_131_79 : am_at 131 79 = some (.iconst 1, 80, 1, []) := rfl
set_option maxRecDepth 20000 in
theorem at_131_80 : am_at 131 80 = some (.goto 4, 83, 84, []) := rfl
set_option maxRecDepth 20000 in
theorem at_131_83 : am_at 131 83 = some (.iconst 0, 84, 0, []) := rfl
set_option maxRecDepth 20000 in
theorem at_131_84 : am_at 131 84 = some (.istore 5, 86, 5, []) := rfl
set_option maxRecDepth 20000 in
theorem at_131_86 : am_at 131 86 = some (.aload_n 0, 87, 0, []) := rfl
set_option maxRecDepth 20000 in
theorem at_131_87 : am_at 131 87 = some (.getfield 83, 90, 0, [8, 30, 3, 740]) := rfl
set_option maxRecDepth 20000 in
theorem at_131_90 : am_at 131 90 = some (.iload 4, 92, 4, []) := rfl
set_option maxRecDepth 20000 in
theorem at_131_92 : am_at 131 92 = some (.baload, 93, 0, []) := rfl
set_option maxRecDepth 20000 in
theorem at_131_93 : am_at 131 93 = some (.ifCond .eq 34, 96, 127, []) := rfl
set_option maxRecDepth 20000 in
theorem at_131_96 : am_at 131 96 = some (.aload_n 0, 97, 0, []) := rfl
set_option maxRecDepth 20000 in
theorem at_131_97 : am_at 131 97 = some (.getfield 115, 100, 0, [8, 42, 3, 752]) := rfl
set_option maxRecDepth 20000 in
theorem at_131_100 : am_at 131 100 = some (.iload_n 3, 101, 3, []) := rfl
set_option maxRecDepth 20000 in
theorem at_131_101 : am_at 131 101 = some (.baload, 102, 0, []) := rfl
set_option maxRecDepth 20000 in
theorem at_131_102 : am_at 131 102 = some (.ifCond .eq 16, 105, 118, []) := rfl
set_option maxRecDepth 20000 in
theorem at_131_105 : am_at 131 105 = some (.aload_n 0, 106, 0, []) := rfl
set_option maxRecDepth 20000 in
theorem at_131_106 : am_at 131 106 = some (.iload_n 3, 107, 3, []) := rfl
set_option maxRecDepth 20000 in
theorem at_131_107 : am_at 131 107 = some (.invokevirtual 270, 110, 132, [0, 1, 8, 1021, 1023, 52, 60]) := rfl
set_option maxRecDepth 20000 in
theorem at_131_110 : am_at 131 110 = some (.ifCond .ne 8, 113, 118, []) := rfl
set_option maxRecDepth 20000 in
theorem at_131_113 : am_at 131 113 = some (.iload 5, 115, 5, []) := rfl
set_option maxRecDepth 20000 in
theorem at_131_115 : am_at 131 115 = some (.ifCond .eq 12, 118, 127, []) := rfl
set_option maxRecDepth 20000 in
theorem at_131_118 : am_at 131 118 = some (.aload_n 0, 119, 0, []) := rfl
set_option maxRecDepth 20000 in
theorem at_131_119 : am_at 131 119 = some (.aload_n 0, 120, 0, []) := rfl
set_option maxRecDepth 20000 in
theorem at_131_120 : am_at 131 120 = some (.getfield 230, 123, 0, [8, 49, 0, 759]) := rfl
set_option maxRecDepth 20000 in
theorem at_131_123 : am_at 131 123 = some (.iload_n 3, 124, 3, []) := rfl
set_option maxRecDepth 20000 in
theorem at_131_124 : am_at 131 124 = some (.invokevirtual 203, 127, 111, [0, 2, 8, 937, 939, 33, 60]) := rfl
set_option maxRecDepth 20000 in
theorem at_131_127 : am_at 131 127 = some (.iinc 3 1, 130, 3, []) := rfl
set_option maxRecDepth 20000 in
theorem at_131_130 : am_at 131 130 = some (.goto (-100), 133, 30, []) := rfl
set_option maxRecDepth 20000 in
theorem at_131_133 : am_at 131 133 = some (.iconst 0, 134, 0, []) := rfl
set_option maxRecDepth 20000 in
theorem at_131_134 : am_at 131 134 = some (.istore_n 3, 135, 3, []) := rfl
set_option maxRecDepth 20000 in
theorem at_131_135 : am_at 131 135 = some (.iload_n 3, 136, 3, []) := rfl
set_option maxRecDepth 20000 in
theorem at_131_136 : am_at 131 136 = some (.iload_n 2, 137, 2, []) := rfl
set_option maxRecDepth 20000 in
theorem at_131_137 : am_at 131 137 = some (.if_icmp .ge 144, 140, 281, []) := rfl
set_option maxRecDepth 20000 in
theorem at_131_140 : am_at 131 140 = some (.bipush 30, 142, 30, []) := rfl
set_option maxRecDepth 20000 in
theorem at_131_142 : am_at 131 142 = some (.aload_n 0, 143, 0, []) := rfl
set_option maxRecDepth 20000 in
theorem at_131_143 : am_at 131 143 = some (.getfield 230, 146, 0, [8, 49, 0, 759]) := rfl
set_option maxRecDepth 20000 in
theorem at_131_146 : am_at 131 146 = some (.imul, 147, 0, []) := rfl
set_option maxRecDepth 20000 in
theorem at_131_147 : am_at 131 147 = some (.iload_n 3, 148, 3, []) := rfl
set_option maxRecDepth 20000 in
theorem at_131_148 : am_at 131 148 = some (.iadd, 149, 0, []) := rfl
set_option maxRecDepth 20000 in
theorem at_131_149 : am_at 131 149 = some (.istore 4, 151, 4, []) := rfl
set_option maxRecDepth 20000 in
theorem at_131_151 : am_at 131 151 = some (.aload_n 0, 152, 0, []) := rfl
set_option maxRecDepth 20000 in
theorem at_131_152 : am_at 131 152 = some (.getfield 115, 155, 0, [8, 42, 3, 752]) := rfl
set_option maxRecDepth 20000 in
theorem at_131_155 : am_at 131 155 = some (.iload_n 3, 156, 3, []) := rfl
set_option maxRecDepth 20000 in
theorem at_131_156 : am_at 131 156 = some (.baload, 157, 0, []) := rfl
set_option maxRecDepth 20000 in
theorem at_131_157 : am_at 131 157 = some (.ifCond .eq 11, 160, 168, []) := rfl
set_option maxRecDepth 20000 in
theorem at_131_160 : am_at 131 160 = some (.aload_n 0, 161, 0, []) := rfl
set_option maxRecDepth 20000 in
theorem at_131_161 : am_at 131 161 = some (.iload_n 3, 162, 3, []) := rfl
set_option maxRecDepth 20000 in
theorem at_131_162 : am_at 131 162 = some (.invokevirtual 270, 165, 132, [0, 1, 8, 1021, 1023, 52, 60]) := rfl
set_option maxRecDepth 20000 in
theorem at_131_165 : am_at 131 165 = some (.ifCond .eq 7, 168, 172, []) := rfl
set_option maxRecDepth 20000 in
theorem at_131_168 : am_at 131 168 = some (.iconst 1, 169, 1, []) := rfl
set_option maxRecDepth 20000 in
theorem at_131_169 : am_at 131 169 = some (.goto 4, 172, 173, []) := rfl
set_option maxRecDepth 20000 in
theorem at_131_172 : am_at 131 172 = some (.iconst 0, 173, 0, []) := rfl
set_option maxRecDepth 20000 in
theorem at_131_173 : am_at 131 173 = some (.istore 5, 175, 5, []) := rfl
set_option maxRecDepth 20000 in
theorem at_131_175 : am_at 131 175 = some (.aload_n 0, 176, 0, []) := rfl
set_option maxRecDepth 20000 in
theorem at_131_176 : am_at 131 176 = some (.getfield 50, 179, 0, [8, 18, 3, 728]) := rfl
set_option maxRecDepth 20000 in
theorem at_131_179 : am_at 131 179 = some (.iload_n 1, 180, 1, []) := rfl
set_option maxRecDepth 20000 in
theorem at_131_180 : am_at 131 180 = some (.iload_n 3, 181, 3, []) := rfl
set_option maxRecDepth 20000 in
theorem at_131_181 : am_at 131 181 = some (.iadd, 182, 0, []) := rfl
set_option maxRecDepth 20000 in
theorem at_131_182 : am_at 131 182 = some (.iaload, 183, 0, []) := rfl
set_option maxRecDepth 20000 in
theorem at_131_183 : am_at 131 183 = some (.bipush 7, 185, 7, []) := rfl
set_option maxRecDepth 20000 in
theorem at_131_185 : am_at 131 185 = some (.if_icmp .eq 16, 188, 201, []) := rfl
set_option maxRecDepth 20000 in
theorem at_131_188 : am_at 131 188 = some (.aload_n 0, 189, 0, []) := rfl
set_option maxRecDepth 20000 in
theorem at_131_189 : am_at 131 189 = some (.getfield 50, 192, 0, [8, 18, 3, 728]) := rfl
set_option maxRecDepth 20000 in
theorem at_131_192 : am_at 131 192 = some (.iload_n 1, 193, 1, []) := rfl
set_option maxRecDepth 20000 in
theorem at_131_193 : am_at 131 193 = some (.iload_n 3, 194, 3, []) := rfl
set_option maxRecDepth 20000 in
theorem at_131_194 : am_at 131 194 = some (.iadd, 195, 0, []) := rfl
set_option maxRecDepth 20000 in
theorem at_131_195 : am_at 131 195 = some (.iaload, 196, 0, []) := rfl
set_option maxRecDepth 20000 in
theorem at_131_196 : am_at 131 196 = some (.bipush 6, 198, 6, []) := rfl
set_option maxRecDepth 20000 in
theorem at_131_198 : am_at 131 198 = some (.if_icmp .ne 40, 201, 238, []) := rfl
set_option maxRecDepth 20000 in
theorem at_131_201 : am_at 131 201 = some (.aload_n 0, 202, 0, []) := rfl
set_option maxRecDepth 20000 in
theorem at_131_202 : am_at 131 202 = some (.getfield 90, 205, 0, [8, 32, 3, 742]) := rfl
set_option maxRecDepth 20000 in
theorem at_131_205 : am_at 131 205 = some (.iload 4, 207, 4, []) := rfl
set_option maxRecDepth 20000 in
theorem at_131_207 : am_at 131 207 = some (.iload 5, 209, 5, []) := rfl
set_option maxRecDepth 20000 in
theorem at_131_209 : am_at 131 209 = some (.ifCond .ne 14, 212, 223, []) := rfl
set_option maxRecDepth 20000 in
theorem at_131_212 : am_at 131 212 = some (.aload_n 0, 213, 0, []) := rfl
set_option maxRecDepth 20000 in
theorem at_131_213 : am_at 131 213 = some (.getfield 77, 216, 0, [8, 28, 3, 738]) := rfl
set_option maxRecDepth 20000 in
theorem at_131_216 : am_at 131 216 = some (.iload 4, 218, 4, []) := rfl
set_option maxRecDepth 20000 in
theorem at_131_218 : am_at 131 218 = some (.iaload, 219, 0, []) := rfl
set_option maxRecDepth 20000 in
theorem at_131_219 : am_at 131 219 = some (.iconst 3, 220, 3, []) := rfl
set_option maxRecDepth 20000 in
theorem at_131_220 : am_at 131 220 = some (.if_icmp .eq 7, 223, 227, []) := rfl
set_option maxRecDepth 20000 in
theorem at_131_223 : am_at 131 223 = some (.iconst 0, 224, 0, []) := rfl
set_option maxRecDepth 20000 in
theorem at_131_224 : am_at 131 224 = some (.goto 10, 227, 234, []) := rfl
set_option maxRecDepth 20000 in
theorem at_131_227 : am_at 131 227 = some (.aload_n 0, 228, 0, []) := rfl
set_option maxRecDepth 20000 in
theorem at_131_228 : am_at 131 228 = some (.getfield 90, 231, 0, [8, 32, 3, 742]) := rfl
set_option maxRecDepth 20000 in
theorem at_131_231 : am_at 131 231 = some (.iload 4, 233, 4, []) := rfl
set_option maxRecDepth 20000 in
theorem at_131_233 : am_at 131 233 = some (.iaload, 234, 0, []) := rfl
set_option maxRecDepth 20000 in
theorem at_131_234 : am_at 131 234 = some (.iastore, 235, 0, []) := rfl
set_option maxRecDepth 20000 in
theorem at_131_235 : am_at 131 235 = some (.goto 40, 238, 275, []) := rfl
set_option maxRecDepth 20000 in
theorem at_131_238 : am_at 131 238 = some (.aload_n 0, 239, 0, []) := rfl
set_option maxRecDepth 20000 in
theorem at_131_239 : am_at 131 239 = some (.getfield 50, 242, 0, [8, 18, 3, 728]) := rfl
set_option maxRecDepth 20000 in
theorem at_131_242 : am_at 131 242 = some (.iload_n 1, 243, 1, []) := rfl
set_option maxRecDepth 20000 in
theorem at_131_243 : am_at 131 243 = some (.iload_n 3, 244, 3, []) := rfl
set_option maxRecDepth 20000 in
theorem at_131_244 : am_at 131 244 = some (.iadd, 245, 0, []) := rfl
set_option maxRecDepth 20000 in
theorem at_131_245 : am_at 131 245 = some (.iaload, 246, 0, []) := rfl
set_option maxRecDepth 20000 in
theorem at_131_246 : am_at 131 246 = some (.bipush 9, 248, 9, []) := rfl
set_option maxRecDepth 20000 in
theorem at_131_248 : am_at 131 248 = some (.if_icmp .ne 27, 251, 275, []) := rfl
set_option maxRecDepth 20000 in
theorem at_131_251 : am_at 131 251 = some (.iload 5, 253, 5, []) := rfl
set_option maxRecDepth 20000 in
theorem at_131_253 : am_at 131 253 = some (.ifCond .ne 14, 256, 267, []) := rfl
set_option maxRecDepth 20000 in
theorem at_131_256 : am_at 131 256 = some (.aload_n 0, 257, 0, []) := rfl
set_option maxRecDepth 20000 in
theorem at_131_257 : am_at 131 257 = some (.getfield 77, 260, 0, [8, 28, 3, 738]) := rfl
set_option maxRecDepth 20000 in
theorem at_131_260 : am_at 131 260 = some (.iload 4, 262, 4, []) := rfl
set_option maxRecDepth 20000 in
theorem at_131_262 : am_at 131 262 = some (.iaload, 263, 0, []) := rfl
set_option maxRecDepth 20000 in
theorem at_131_263 : am_at 131 263 = some (.iconst 1, 264, 1, []) := rfl
set_option maxRecDepth 20000 in
theorem at_131_264 : am_at 131 264 = some (.if_icmp .ne 11, 267, 275, []) := rfl
set_option maxRecDepth 20000 in
theorem at_131_267 : am_at 131 267 = some (.aload_n 0, 268, 0, []) := rfl
set_option maxRecDepth 20000 in
theorem at_131_268 : am_at 131 268 = some (.getfield 93, 271, 0, [8, 33, 3, 743]) := rfl
set_option maxRecDepth 20000 in
theorem at_131_271 : am_at 131 271 = some (.iload 4, 273, 4, []) := rfl
set_option maxRecDepth 20000 in
theorem at_131_273 : am_at 131 273 = some (.iconst 0, 274, 0, []) := rfl
set_option maxRecDepth 20000 in
theorem at_131_274 : am_at 131 274 = some (.iastore, 275, 0, []) := rfl
set_option maxRecDepth 20000 in
theorem at_131_275 : am_at 131 275 = some (.iinc 3 1, 278, 3, []) := rfl
set_option maxRecDepth 20000 in
theorem at_131_278 : am_at 131 278 = some (.goto (-143), 281, 135, []) := rfl
set_option maxRecDepth 20000 in
theorem at_131_281 : am_at 131 281 = some (.return_, 282, 0, []) := rfl
set_option maxRecDepth 20000 in
theorem at_132_0 : am_at 132 0 = some (.bipush 30, 2, 30, []) := rfl
set_option maxRecDepth 20000 in
theorem at_132_2 : am_at 132 2 = some (.aload_n 0, 3, 0, []) := rfl
set_option maxRecDepth 20000 in
theorem at_132_3 : am_at 132 3 = some (.getfield 71, 6, 0, [8, 26, 3, 736]) := rfl
set_option maxRecDepth 20000 in
theorem at_132_6 : am_at 132 6 = some (.aload_n 0, 7, 0, []) := rfl
set_option maxRecDepth 20000 in
theorem at_132_7 : am_at 132 7 = some (.getfield 230, 10, 0, [8, 49, 0, 759]) := rfl
set_option maxRecDepth 20000 in
theorem at_132_10 : am_at 132 10 = some (.iaload, 11, 0, []) := rfl
set_option maxRecDepth 20000 in
theorem at_132_11 : am_at 132 11 = some (.imul, 12, 0, []) := rfl
set_option maxRecDepth 20000 in
theorem at_132_12 : am_at 132 12 = some (.istore_n 2, 13, 2, []) := rfl
set_option maxRecDepth 20000 in
theorem at_132_13 : am_at 132 13 = some (.iconst 0, 14, 0, []) := rfl
set_option maxRecDepth 20000 in
theorem at_132_14 : am_at 132 14 = some (.istore_n 3, 15, 3, []) := rfl
set_option maxRecDepth 20000 in
theorem at_132_15 : am_at 132 15 = some (.aload_n 0, 16, 0, []) := rfl
set_option maxRecDepth 20000 in
theorem at_132_16 : am_at 132 16 = some (.getfield 62, 19, 0, [8, 22, 3, 732]) := rfl
set_option maxRecDepth 20000 in
theorem at_132_19 : am_at 132 19 = some (.iload_n 2, 20, 2, []) := rfl
set_option maxRecDepth 20000 in
theorem at_132_20 : am_at 132 20 = some (.iload_n 1, 21, 1, []) := rfl
set_option maxRecDepth 20000 in
theorem at_132_21 : am_at 132 21 = some (.iadd, 22, 0, []) := rfl
set_option maxRecDepth 20000 in
theorem at_132_22 : am_at 132 22 = some (.iaload, 23, 0, []) := rfl
set_option maxRecDepth 20000 in
theorem at_132_23 : am_at 132 23 = some (.istore 4, 25, 4, []) := rfl
set_option maxRecDepth 20000 in
theorem at_132_25 : am_at 132 25 = some (.iload 4, 27, 4, []) := rfl
set_option maxRecDepth 20000 in
theorem at_132_27 : am_at 132 27 = some (.bipush (-4), 29, 4294967292, []) := rfl
set_option maxRecDepth 20000 in
theorem at_132_29 : am_at 132 29 = some (.if_icmp .eq 69, 32, 98, []) := rfl
set_option maxRecDepth 20000 in
theorem at_132_32 : am_at 132 32 = some (.iload_n 3, 33, 3, []) := rfl
set_option maxRecDepth 20000 in
theorem at_132_33 : am_at 132 33 = some (.ifCond .ne 45, 36, 78, []) := rfl
set_option maxRecDepth 20000 in
theorem at_132_36 : am_at 132 36 = some (.aload_n 0, 37, 0, []) := rfl
set_option maxRecDepth 20000 in
theorem at_132_37 : am_at 132 37 = some (.getfield 50, 40, 0, [8, 18, 3, 728]) := rfl
set_option maxRecDepth 20000 in
theorem at_132_40 : am_at 132 40 = some (.iload_n 2, 41, 2, []) := rfl
set_option maxRecDepth 20000 in
theorem at_132_41 : am_at 132 41 = some (.iload 4, 43, 4, []) := rfl
set_option maxRecDepth 20000 in
theorem at_132_43 : am_at 132 43 = some (.iadd, 44, 0, []) := rfl
set_option maxRecDepth 20000 in
theorem at_132_44 : am_at 132 44 = some (.iaload, 45, 0, []) := rfl
set_option maxRecDepth 20000 in
theorem at_132_45 : am_at 132 45 = some (.iconst 4, 46, 4, []) := rfl
set_option maxRecDepth 20000 in
theorem at_132_46 : am_at 132 46 = some (.if_icmp .ne 36, 49, 82, []) := rfl
set_option maxRecDepth 20000 in
theorem at_132_49 : am_at 132 49 = some (.aload_n 0, 50, 0, []) := rfl
set_option maxRecDepth 20000 in
theorem at_132_50 : am_at 132 50 = some (.getfield 115, 53, 0, [8, 42, 3, 752]) := rfl
set_option maxRecDepth 20000 in
theorem at_132_53 : am_at 132 53 = some (.iload 4, 55, 4, []) := rfl
set_option maxRecDepth 20000 in
theorem at_132_55 : am_at 132 55 = some (.baload, 56, 0, []) := rfl
set_option maxRecDepth 20000 in
theorem at_132_56 : am_at 132 56 = some (.ifCond .eq 26, 59, 82, []) := rfl
set_option maxRecDepth 20000 in
theorem at_132_59 : am_at 132 59 = some (.aload_n 0, 60, 0, []) := rfl
set_option maxRecDepth 20000 in
theorem at_132_60 : am_at 132 60 = some (.getfield 77, 63, 0, [8, 28, 3, 738]) := rfl
set_option maxRecDepth 20000 in
theorem at_132_63 : am_at 132 63 = some (.bipush 30, 65, 30, []) := rfl
set_option maxRecDepth 20000 in
theorem at_132_65 : am_at 132 65 = some (.aload_n 0, 66, 0, []) := rfl
set_option maxRecDepth 20000 in
theorem at_132_66 : am_at 132 66 = some (.getfield 230, 69, 0, [8, 49, 0, 759]) := rfl
set_option maxRecDepth 20000 in
theorem at_132_69 : am_at 132 69 = some (.imul, 70, 0, []) := rfl
set_option maxRecDepth 20000 in
theorem at_132_70 : am_at 132 70 = some (.iload 4, 72, 4, []) := rfl
set_option maxRecDepth 20000 in
theorem at_132_72 : am_at 132 72 = some (.iadd, 73, 0, []) := rfl
set_option maxRecDepth 20000 in
theorem at_132_73 : am_at 132 73 = some (.iaload, 74, 0, []) := rfl
set_option maxRecDepth 20000 in
theorem at_132_74 : am_at 132 74 = some (.iconst 3, 75, 3, []) := rfl
set_option maxRecDepth 20000 in
theorem at_132_75 : am_at 132 75 = some (.if_icmp .eq 7, 78, 82, []) := rfl
set_option maxRecDepth 20000 in
theorem at_132_78 : am_at 132 78 = some (.iconst 1, 79, 1, []) := rfl
set_option maxRecDepth 20000 in
theorem at_132_79 : am_at 132 79 = some (.goto 4, 82, 83, []) := rfl
set_option maxRecDepth 20000 in
theorem at_132_82 : am_at 132 82 = some (.iconst 0, 83, 0, []) := rfl
set_option maxRecDepth 20000 in
theorem at_132_83 : am_at 132 83 = some (.istore_n 3, 84, 3, []) := rfl
set_option maxRecDepth 20000 in
theorem at_132_84 : am_at 132 84 = some (.aload_n 0, 85, 0, []) := rfl
set_option maxRecDepth 20000 in
theorem at_132_85 : am_at 132 85 = some (.getfield 62, 88, 0, [8, 22, 3, 732]) := rfl
set_option maxRecDepth 20000 in
theorem at_132_88 : am_at 132 88 = some (.iload_n 2, 89, 2, []) := rfl
set_option maxRecDepth 20000 in
theorem at_132_89 : am_at 132 89 = some (.iload 4, 91, 4, []) := rfl
set_option maxRecDepth 20000 in
theorem at_132_91 : am_at 132 91 = some (.iadd, 92, 0, []) := rfl
set_option maxRecDepth 20000 in
theorem at_132_92 : am_at 132 92 = some (.iaload, 93, 0, []) := rfl
set_option maxRecDepth 20000 in
theorem at_132_93 : am_at 132 93 = some (.istore 4, 95, 4, []) := rfl
set_option maxRecDepth 20000 in
theorem at_132_95 : am_at 132 95 = some (.goto (-70), 98, 25, []) := rfl
set_option maxRecDepth 20000 in
theorem at_132_98 : am_at 132 98 = some (.iload_n 3, 99, 3, []) := rfl
set_option maxRecDepth 20000 in
theorem at_132_99 : am_at 132 99 = some (.ireturn, 100, 0, [1]) := rfl
set_option maxRecDepth 20000 in
theorem at_133_0 : am_at 133 0 = some (.iload_n 1, 1, 1, []) := rfl
set_option maxRecDepth 20000 in
theorem at_133_1 : am_at 133 1 = some (.i2l, 2, 0, []) := rfl
set_option maxRecDepth 20000 in
theorem at_133_2 : am_at 133 2 = some (.lconst 0, 3, 0, []) := rfl
set_option maxRecDepth 20000 in
theorem at_133_3 : am_at 133 3 = some (.ldc2_w 183, 6, 50, [917]) := rfl
set_option maxRecDepth 20000 in
theorem at_133_6 : am_at 133 6 = some (.invokestatic 135, 9, 96, [0, 3, 872, 873, 60]) := rfl
set_option maxRecDepth 20000 in
theorem at_133_9 : am_at 133 9 = some (.ifCond .ne 5, 12, 14, []) := rfl
set_option maxRecDepth 20000 in
theorem at_133_12 : am_at 133 12 = some (.iconst (-1), 13, 4294967295, []) := rfl
set_option maxRecDepth 20000 in
theorem at_133_13 : am_at 133 13 = some (.ireturn, 14, 0, [0]) := rfl
set_option maxRecDepth 20000 in
theorem at_133_14 : am_at 133 14 = some (.iconst 0, 15, 0, []) := rfl
set_option maxRecDepth 20000 in
theorem at_133_15 : am_at 133 15 = some (.istore_n 2, 16, 2, []) := rfl
set_option maxRecDepth 20000 in
theorem at_133_16 : am_at 133 16 = some (.iconst 0, 17, 0, []) := rfl
set_option maxRecDepth 20000 in
theorem at_133_17 : am_at 133 17 = some (.istore_n 3, 18, 3, []) := rfl
set_option maxRecDepth 20000 in
theorem at_133_18 : am_at 133 18 = some (.iload_n 3, 19, 3, []) := rfl
set_option maxRecDepth 20000 in
theorem at_133_19 : am_at 133 19 = some (.iload_n 1, 20, 1, []) := rfl
set_option maxRecDepth 20000 in
theorem at_133_20 : am_at 133 20 = some (.if_icmp .ge 50, 23, 70, []) := rfl
set_option maxRecDepth 20000 in
theorem at_133_23 : am_at 133 23 = some (.iconst 0, 24, 0, []) := rfl
set_option maxRecDepth 20000 in
theorem at_133_24 : am_at 133 24 = some (.istore 4, 26, 4, []) := rfl
set_option maxRecDepth 20000 in
theorem at_133_26 : am_at 133 26 = some (.iload 4, 28, 4, []) := rfl
set_option maxRecDepth 20000 in
theorem at_133_28 : am_at 133 28 = some (.aload_n 0, 29, 0, []) := rfl
set_option maxRecDepth 20000 in
theorem at_133_29 : am_at 133 29 = some (.getfield 148, 32, 0, [8, 25, 0, 735]) := rfl
set_option maxRecDepth 20000 in
theorem at_133_32 : am_at 133 32 = some (.if_icmp .ge 32, 35, 64, []) := rfl
set_option maxRecDepth 20000 in
theorem at_133_35 : am_at 133 35 = some (.aload_n 0, 36, 0, []) := rfl
set_option maxRecDepth 20000 in
theorem at_133_36 : am_at 133 36 = some (.getfield 71, 39, 0, [8, 26, 3, 736]) := rfl
set_option maxRecDepth 20000 in
theorem at_133_39 : am_at 133 39 = some (.iload 4, 41, 4, []) := rfl
set_option maxRecDepth 20000 in
theorem at_133_41 : am_at 133 41 = some (.iaload, 42, 0, []) := rfl
set_option maxRecDepth 20000 in
theorem at_133_42 : am_at 133 42 = some (.bipush (-4), 44, 4294967292, []) := rfl
set_option maxRecDepth 20000 in
theorem at_133_44 : am_at 133 44 = some (.if_icmp .eq 14, 47, 58, []) := rfl
set_option maxRecDepth 20000 in
theorem at_133_47 : am_at 133 47 = some (.aload_n 0, 48, 0, []) := rfl
set_option maxRecDepth 20000 in
theorem at_133_48 : am_at 133 48 = some (.iload 4, 50, 4, []) := rfl
set_option maxRecDepth 20000 in
theorem at_133_50 : am_at 133 50 = some (.invokevirtual 283, 53, 115, [0, 1, 8, 953, 955, 36, 60]) := rfl
set_option maxRecDepth 20000 in
theorem at_133_53 : am_at 133 53 = some (.istore 5, 55, 5, []) := rfl
set_option maxRecDepth 20000 in
theorem at_133_55 : am_at 133 55 = some (.iinc 2 1, 58, 2, []) := rfl
set_option maxRecDepth 20000 in
theorem at_133_58 : am_at 133 58 = some (.iinc 4 1, 61, 4, []) := rfl
set_option maxRecDepth 20000 in
theorem at_133_61 : am_at 133 61 = some (.goto (-35), 64, 26, []) := rfl
set_option maxRecDepth 20000 in
theorem at_133_64 : am_at 133 64 = some (.iinc 3 1, 67, 3, []) := rfl
set_option maxRecDepth 20000 in
theorem at_133_67 : am_at 133 67 = some (.goto (-49), 70, 18, []) := rfl
set_option maxRecDepth 20000 in
theorem at_133_70 : am_at 133 70 = some (.iload_n 2, 71, 2, []) := rfl
set_option maxRecDepth 20000 in
theorem at_133_71 : am_at 133 71 = some (.ireturn, 72, 0, [0]) := rfl
set_option maxRecDepth 20000 in
theorem at_134_0 : am_at 134 0 = some (.iload_n 1, 1, 1, []) := rfl
set_option maxRecDepth 20000 in
theorem at_134_1 : am_at 134 1 = some (.i2l, 2, 0, []) := rfl
set_option maxRecDepth 20000 in
theorem at_134_2 : am_at 134 2 = some (.lconst 0, 3, 0, []) := rfl
set_option maxRecDepth 20000 in
theorem at_134_3 : am_at 134 3 = some (.ldc2_w 155, 6, 255, [888]) := rfl
set_option maxRecDepth 20000 in
theorem at_134_6 : am_at 134 6 = some (.invokestatic 135, 9, 96, [0, 3, 872, 873, 60]) := rfl
set_option maxRecDepth 20000 in
theorem at_134_9 : am_at 134 9 = some (.ifCond .ne 5, 12, 14, []) := rfl
set_option maxRecDepth 20000 in
theorem at_134_12 : am_at 134 12 = some (.iconst (-1), 13, 4294967295, []) := rfl
set_option maxRecDepth 20000 in
theorem at_134_13 : am_at 134 13 = some (.ireturn, 14, 0, [0]) := rfl
set_option maxRecDepth 20000 in
theorem at_134_14 : am_at 134 14 = some (.aload_n 0, 15, 0, []) := rfl
set_option maxRecDepth 20000 in
theorem at_134_15 : am_at 134 15 = some (.getfield 227, 18, 0, [8, 0, 0, 710]) := rfl
set_option maxRecDepth 20000 in
theorem at_134_18 : am_at 134 18 = some (.istore_n 2, 19, 2, []) := rfl
set_option maxRecDepth 20000 in
theorem at_134_19 : am_at 134 19 = some (.aload_n 0, 20, 0, []) := rfl
set_option maxRecDepth 20000 in
theorem at_134_20 : am_at 134 20 = some (.iload_n 1, 21, 1, []) := rfl
set_option maxRecDepth 20000 in
theorem at_134_21 : am_at 134 21 = some (.putfield 227, 24, 0, [8, 0, 0, 710]) := rfl
set_option maxRecDepth 20000 in
theorem at_134_24 : am_at 134 24 = some (.iload_n 2, 25, 2, []) := rfl
set_option maxRecDepth 20000 in
theorem at_134_25 : am_at 134 25 = some (.ireturn, 26, 0, [0]) := rfl
set_option maxRecDepth 20000 in
theorem at_135_0 : am_at 135 0 = some (.iload_n 1, 1, 1, []) := rfl
set_option maxRecDepth 20000 in
theorem at_135_1 : am_at 135 1 = some (.i2l, 2, 0, []) := rfl
set_option maxRecDepth 20000 in
theorem at_135_2 : am_at 135 2 = some (.lconst 0, 3, 0, []) := rfl
set_option maxRecDepth 20000 in
theorem at_135_3 : am_at 135 3 = some (.ldc2_w 161, 6, 11, [897]) := rfl
set_option maxRecDepth 20000 in
theorem at_135_6 : am_at 135 6 = some (.invokestatic 135, 9, 96, [0, 3, 872, 873, 60]) := rfl
set_option maxRecDepth 20000 in
theorem at_135_9 : am_at 135 9 = some (.ifCond .eq 28, 12, 37, []) := rfl
set_option maxRecDepth 20000 in
theorem at_135_12 : am_at 135 12 = some (.iload_n 2, 13, 2, []) := rfl
set_option maxRecDepth 20000 in
theorem at_135_13 : am_at 135 13 = some (.i2l, 14, 0, []) := rfl
set_option maxRecDepth 20000 in
theorem at_135_14 : am_at 135 14 = some (.lconst 0, 15, 0, []) := rfl
set_option maxRecDepth 20000 in
theorem at_135_15 : am_at 135 15 = some (.ldc2_w 173, 18, 3, [914]) := rfl
set_option maxRecDepth 20000 in
theorem at_135_18 : am_at 135 18 = some (.invokestatic 135, 21, 96, [0, 3, 872, 873, 60]) := rfl
set_option maxRecDepth 20000 in
theorem at_135_21 : am_at 135 21 = some (.ifCond .eq 16, 24, 37, []) := rfl
set_option maxRecDepth 20000 in
theorem at_135_24 : am_at 135 24 = some (.iload_n 2, 25, 2, []) := rfl
set_option maxRecDepth 20000 in
theorem at_135_25 : am_at 135 25 = some (.iconst 3, 26, 3, []) := rfl
set_option maxRecDepth 20000 in
theorem at_135_26 : am_at 135 26 = some (.if_icmp .ne 13, 29, 39, []) := rfl
set_option maxRecDepth 20000 in
theorem at_135_29 : am_at 135 29 = some (.lload_n 3, 30, 3, []) := rfl
set_option maxRecDepth 20000 in
theorem at_135_30 : am_at 135 30 = some (.ldc2_w 181, 33, 6, [916]) := rfl
set_option maxRecDepth 20000 in
theorem at_135_33 : am_at 135 33 = some (.lcmp, 34, 0, []) := rfl
set_option maxRecDepth 20000 in
theorem at_135_34 : am_at 135 34 = some (.ifCond .le 5, 37, 39, []) := rfl
set_option maxRecDepth 20000 in
theorem at_135_37 : am_at 135 37 = some (.iconst (-1), 38, 4294967295, []) := rfl
set_option maxRecDepth 20000 in
theorem at_135_38 : am_at 135 38 = some (.ireturn, 39, 0, [0]) := rfl
set_option maxRecDepth 20000 in
theorem at_135_39 : am_at 135 39 = some (.iload_n 2, 40, 2, []) := rfl
set_option maxRecDepth 20000 in
theorem at_135_40 : am_at 135 40 = some (.iconst 3, 41, 3, []) := rfl
set_option maxRecDepth 20000 in
theorem at_135_41 : am_at 135 41 = some (.if_icmp .ne 12, 44, 53, []) := rfl
set_option maxRecDepth 20000 in
theorem at_135_44 : am_at 135 44 = some (.lload_n 3, 45, 3, []) := rfl
set_option maxRecDepth 20000 in
theorem at_135_45 : am_at 135 45 = some (.lconst 0, 46, 0, []) := rfl
set_option maxRecDepth 20000 in
theorem at_135_46 : am_at 135 46 = some (.lcmp, 47, 0, []) := rfl
set_option maxRecDepth 20000 in
theorem at_135_47 : am_at 135 47 = some (.ifCond .ge 6, 50, 53, []) := rfl
set_option maxRecDepth 20000 in
theorem at_135_50 : am_at 135 50 = some (.bipush (-14), 52, 4294967282, []) := rfl
set_option maxRecDepth 20000 in
theorem at_135_52 : am_at 135 52 = some (.ireturn, 53, 0, [0]) := rfl
set_option maxRecDepth 20000 in
theorem at_135_53 : am_at 135 53 = some (.aload_n 0, 54, 0, []) := rfl
set_option maxRecDepth 20000 in
theorem at_135_54 : am_at 135 54 = some (.getfield 7, 57, 0, [8, 1, 3, 711]) := rfl
set_option maxRecDepth 20000 in
theorem at_135_57 : am_at 135 57 = some (.iload_n 1, 58, 1, []) := rfl
set_option maxRecDepth 20000 in
theorem at_135_58 : am_at 135 58 = some (.iload_n 2, 59, 2, []) := rfl
set_option maxRecDepth 20000 in
theorem at_135_59 : am_at 135 59 = some (.iastore, 60, 0, []) := rfl
set_option maxRecDepth 20000 in
theorem at_135_60 : am_at 135 60 = some (.aload_n 0, 61, 0, []) := rfl
set_option maxRecDepth 20000 in
theorem at_135_61 : am_at 135 61 = some (.getfield 13, 64, 0, [8, 2, 3, 712]) := rfl
set_option maxRecDepth 20000 in
theorem at_135_64 : am_at 135 64 = some (.iload_n 1, 65, 1, []) := rfl
set_option maxRecDepth 20000 in
theorem at_135_65 : am_at 135 65 = some (.iload_n 2, 66, 2, []) := rfl
set_option maxRecDepth 20000 in
theorem at_135_66 : am_at 135 66 = some (.ifCond .ne 7, 69, 73, []) := rfl
set_option maxRecDepth 20000 in
theorem at_135_69 : am_at 135 69 = some (.lconst 0, 70, 0, []) := rfl
set_option maxRecDepth 20000 in
theorem at_135_70 : am_at 135 70 = some (.goto 23, 73, 93, []) := rfl
set_option maxRecDepth 20000 in
theorem at_135_73 : am_at 135 73 = some (.iload_n 2, 74, 2, []) := rfl
set_option maxRecDepth 20000 in
theorem at_135_74 : am_at 135 74 = some (.iconst 2, 75, 2, []) := rfl
set_option maxRecDepth 20000 in
theorem at_135_75 : am_at 135 75 = some (.if_icmp .ne 17, 78, 92, []) := rfl
set_option maxRecDepth 20000 in
theorem at_135_78 : am_at 135 78 = some (.lload_n 3, 79, 3, []) := rfl
set_option maxRecDepth 20000 in
theorem at_135_79 : am_at 135 79 = some (.lconst 0, 80, 0, []) := rfl
set_option maxRecDepth 20000 in
theorem at_135_80 : am_at 135 80 = some (.lcmp, 81, 0, []) := rfl
set_option maxRecDepth 20000 in
theorem at_135_81 : am_at 135 81 = some (.ifCond .eq 7, 84, 88, []) := rfl
set_option maxRecDepth 20000 in
theorem at_135_84 : am_at 135 84 = some (.lconst 1, 85, 1, []) := rfl
set_option maxRecDepth 20000 in
theorem at_135_85 : am_at 135 85 = some (.goto 8, 88, 93, []) := rfl
set_option maxRecDepth 20000 in
theorem at_135_88 : am_at 135 88 = some (.lconst 0, 89, 0, []) := rfl
set_option maxRecDepth 20000 in
theorem at_135_89 : am_at 135 89 = some (.goto 4, 92, 93, []) := rfl
set_option maxRecDepth 20000 in
theorem at_135_92 : am_at 135 92 = some (.lload_n 3, 93, 3, []) := rfl
set_option maxRecDepth 20000 in
theorem at_135_93 : am_at 135 93 = some (.lastore, 94, 0, []) := rfl
set_option maxRecDepth 20000 in
theorem at_135_94 : am_at 135 94 = some (.iconst 0, 95, 0, []) := rfl
set_option maxRecDepth 20000 in
theorem at_135_95 : am_at 135 95 = some (.istore 5, 97, 5, []) := rfl
set_option maxRecDepth 20000 in
theorem at_135_97 : am_at 135 97 = some (.iload 5, 99, 5, []) := rfl
set_option maxRecDepth 20000 in
theorem at_135_99 : am_at 135 99 = some (.bipush 6, 101, 6, []) := rfl
set_option maxRecDepth 20000 in
theorem at_135_101 : am_at 135 101 = some (.if_icmp .ge 22, 104, 123, []) := rfl
set_option maxRecDepth 20000 in
theorem at_135_104 : am_at 135 104 = some (.aload_n 0, 105, 0, []) := rfl
set_option maxRecDepth 20000 in
theorem at_135_105 : am_at 135 105 = some (.getfield 17, 108, 0, [8, 3, 3, 713]) := rfl
set_option maxRecDepth 20000 in
theorem at_135_108 : am_at 135 108 = some (.bipush 6, 110, 6, []) := rfl
set_option maxRecDepth 20000 in
theorem at_135_110 : am_at 135 110 = some (.iload_n 1, 111, 1, []) := rfl
set_option maxRecDepth 20000 in
theorem at_135_111 : am_at 135 111 = some (.imul, 112, 0, []) := rfl
set_option maxRecDepth 20000 in
theorem at_135_112 : am_at 135 112 = some (.iload 5, 114, 5, []) := rfl
set_option maxRecDepth 20000 in
theorem at_135_114 : am_at 135 114 = some (.iadd, 115, 0, []) := rfl
set_option maxRecDepth 20000 in
theorem at_135_115 : am_at 135 115 = some (.iconst 0, 116, 0, []) := rfl
set_option maxRecDepth 20000 in
theorem at_135_116 : am_at 135 116 = some (.iastore, 117, 0, []) := rfl
set_option maxRecDepth 20000 in
theorem at_135_117 : am_at 135 117 = some (.iinc 5 1, 120, 5, []) := rfl
set_option maxRecDepth 20000 in
theorem at_135_120 : am_at 135 120 = some (.goto (-23), 123, 97, []) := rfl
set_option maxRecDepth 20000 in
theorem at_135_123 : am_at 135 123 = some (.iconst 1, 124, 1, []) := rfl
set_option maxRecDepth 20000 in
theorem at_135_124 : am_at 135 124 = some (.ireturn, 125, 0, [0]) := rfl
set_option maxRecDepth 20000 in
theorem at_136_0 : am_at 136 0 = some (.iload_n 1, 1, 1, []) := rfl
set_option maxRecDepth 20000 in
theorem at_136_1 : am_at 136 1 = some (.i2l, 2, 0, []) := rfl
set_option maxRecDepth 20000 in
theorem at_136_2 : am_at 136 2 = some (.lconst 0, 3, 0, []) := rfl
set_option maxRecDepth 20000 in
theorem at_136_3 : am_at 136 3 = some (.ldc2_w 161, 6, 11, [897]) := rfl
set_option maxRecDepth 20000 in
theorem at_136_6 : am_at 136 6 = some (.invokestatic 135, 9, 96, [0, 3, 872, 873, 60]) := rfl
set_option maxRecDepth 20000 in
theorem at_136_9 : am_at 136 9 = some (.ifCond .ne 5, 12, 14, []) := rfl
set_option maxRecDepth 20000 in
theorem at_136_12 : am_at 136 12 = some (.iconst (-1), 13, 4294967295, []) := rfl
set_option maxRecDepth 20000 in
theorem at_136_13 : am_at 136 13 = some (.ireturn, 14, 0, [0]) := rfl
set_option maxRecDepth 20000 in
theorem at_136_14 : am_at 136 14 = some (.aload_n 0, 15, 0, []) := rfl
set_option maxRecDepth 20000 in
theorem at_136_15 : am_at 136 15 = some (.getfield 7, 18, 0, [8, 1, 3, 711]) := rfl
set_option maxRecDepth 20000 in
theorem at_136_18 : am_at 136 18 = some (.iload_n 1, 19, 1, []) := rfl
set_option maxRecDepth 20000 in
theorem at_136_19 : am_at 136 19 = some (.iaload, 20, 0, []) := rfl
set_option maxRecDepth 20000 in
theorem at_136_20 : am_at 136 20 = some (.iconst 3, 21, 3, []) := rfl
set_option maxRecDepth 20000 in
theorem at_136_21 : am_at 136 21 = some (.if_icmp .eq 20, 24, 41, []) := rfl
set_option maxRecDepth 20000 in
theorem at_136_24 : am_at 136 24 = some (.aload_n 0, 25, 0, []) := rfl
set_option maxRecDepth 20000 in
theorem at_136_25 : am_at 136 25 = some (.getfield 7, 28, 0, [8, 1, 3, 711]) := rfl
set_option maxRecDepth 20000 in
theorem at_136_28 : am_at 136 28 = some (.iload_n 1, 29, 1, []) := rfl
set_option maxRecDepth 20000 in
theorem at_136_29 : am_at 136 29 = some (.iaload, 30, 0, []) := rfl
set_option maxRecDepth 20000 in
theorem at_136_30 : am_at 136 30 = some (.ifCond .ne 8, 33, 38, []) := rfl
set_option maxRecDepth 20000 in
theorem at_136_33 : am_at 136 33 = some (.bipush (-11), 35, 4294967285, []) := rfl
set_option maxRecDepth 20000 in
theorem at_136_35 : am_at 136 35 = some (.goto 5, 38, 40, []) := rfl
set_option maxRecDepth 20000 in
theorem at_136_38 : am_at 136 38 = some (.bipush (-13), 40, 4294967283, []) := rfl
set_option maxRecDepth 20000 in
theorem at_136_40 : am_at 136 40 = some (.ireturn, 41, 0, [0]) := rfl
set_option maxRecDepth 20000 in
theorem at_136_41 : am_at 136 41 = some (.iload_n 2, 42, 2, []) := rfl
set_option maxRecDepth 20000 in
theorem at_136_42 : am_at 136 42 = some (.i2l, 43, 0, []) := rfl
set_option maxRecDepth 20000 in
theorem at_136_43 : am_at 136 43 = some (.lconst 0, 44, 0, []) := rfl
set_option maxRecDepth 20000 in
theorem at_136_44 : am_at 136 44 = some (.aload_n 0, 45, 0, []) := rfl
set_option maxRecDepth 20000 in
theorem at_136_45 : am_at 136 45 = some (.getfield 13, 48, 0, [8, 2, 3, 712]) := rfl
set_option maxRecDepth 20000 in
theorem at_136_48 : am_at 136 48 = some (.iload_n 1, 49, 1, []) := rfl
set_option maxRecDepth 20000 in
theorem at_136_49 : am_at 136 49 = some (.laload, 50, 0, []) := rfl
set_option maxRecDepth 20000 in
theorem at_136_50 : am_at 136 50 = some (.lconst 1, 51, 1, []) := rfl
set_option maxRecDepth 20000 in
theorem at_136_51 : am_at 136 51 = some (.lsub, 52, 0, []) := rfl
set_option maxRecDepth 20000 in
theorem at_136_52 : am_at 136 52 = some (.invokestatic 135, 55, 96, [0, 3, 872, 873, 60]) := rfl
set_option maxRecDepth 20000 in
theorem at_136_55 : am_at 136 55 = some (.ifCond .ne 6, 58, 61, []) := rfl
set_option maxRecDepth 20000 in
theorem at_136_58 : am_at 136 58 = some (.bipush (-12), 60, 4294967284, []) := rfl
set_option maxRecDepth 20000 in
theorem at_136_60 : am_at 136 60 = some (.ireturn, 61, 0, [0]) := rfl
set_option maxRecDepth 20000 in
theorem at_136_61 : am_at 136 61 = some (.aload_n 0, 62, 0, []) := rfl
set_option maxRecDepth 20000 in
theorem at_136_62 : am_at 136 62 = some (.getfield 17, 65, 0, [8, 3, 3, 713]) := rfl
set_option maxRecDepth 20000 in
theorem at_136_65 : am_at 136 65 = some (.bipush 6, 67, 6, []) := rfl
set_option maxRecDepth 20000 in
theorem at_136_67 : am_at 136 67 = some (.iload_n 1, 68, 1, []) := rfl
set_option maxRecDepth 20000 in
theorem at_136_68 : am_at 136 68 = some (.imul, 69, 0, []) := rfl
set_option maxRecDepth 20000 in
theorem at_136_69 : am_at 136 69 = some (.iload_n 2, 70, 2, []) := rfl
set_option maxRecDepth 20000 in
theorem at_136_70 : am_at 136 70 = some (.iadd, 71, 0, []) := rfl
set_option maxRecDepth 20000 in
theorem at_136_71 : am_at 136 71 = some (.iload_n 3, 72, 3, []) := rfl
set_option maxRecDepth 20000 in
theorem at_136_72 : am_at 136 72 = some (.iastore, 73, 0, []) := rfl
set_option maxRecDepth 20000 in
theorem at_136_73 : am_at 136 73 = some (.iconst 1, 74, 1, []) := rfl
set_option maxRecDepth 20000 in
theorem at_136_74 : am_at 136 74 = some (.ireturn, 75, 0, [0]) := rfl
set_option maxRecDepth 20000 in
theorem at_137_0 : am_at 137 0 = some (.iload_n 1, 1, 1, []) := rfl
set_option maxRecDepth 20000 in
theorem at_137_1 : am_at 137 1 = some (.i2l, 2, 0, []) := rfl
set_option maxRecDepth 20000 in
theorem at_137_2 : am_at 137 2 = some (.lconst 0, 3, 0, []) := rfl
set_option maxRecDepth 20000 in
theorem at_137_3 : am_at 137 3 = some (.ldc2_w 161, 6, 11, [897]) := rfl
set_option maxRecDepth 20000 in
theorem at_137_6 : am_at 137 6 = some (.invokestatic 135, 9, 96, [0, 3, 872, 873, 60]) := rfl
set_option maxRecDepth 20000 in
theorem at_137_9 : am_at 137 9 = some (.ifCond .eq 13, 12, 22, []) := rfl
set_option maxRecDepth 20000 in
theorem at_137_12 : am_at 137 12 = some (.iload_n 2, 13, 2, []) := rfl
set_option maxRecDepth 20000 in
theorem at_137_13 : am_at 137 13 = some (.i2l, 14, 0, []) := rfl
set_option maxRecDepth 20000 in
theorem at_137_14 : am_at 137 14 = some (.lconst 0, 15, 0, []) := rfl
set_option maxRecDepth 20000 in
theorem at_137_15 : am_at 137 15 = some (.lconst 1, 16, 1, []) := rfl
set_option maxRecDepth 20000 in
theorem at_137_16 : am_at 137 16 = some (.invokestatic 135, 19, 96, [0, 3, 872, 873, 60]) := rfl
set_option maxRecDepth 20000 in
theorem at_137_19 : am_at 137 19 = some (.ifCond .ne 16, 22, 35, []) := rfl
set_option maxRecDepth 20000 in
theorem at_137_22 : am_at 137 22 = some (.iload_n 2, 23, 2, []) := rfl
set_option maxRecDepth 20000 in
theorem at_137_23 : am_at 137 23 = some (.iconst 1, 24, 1, []) := rfl
set_option maxRecDepth 20000 in
theorem at_137_24 : am_at 137 24 = some (.if_icmp .ne 7, 27, 31, []) := rfl
set_option maxRecDepth 20000 in
theorem at_137_27 : am_at 137 27 = some (.lconst 0, 28, 0, []) := rfl
set_option maxRecDepth 20000 in
theorem at_137_28 : am_at 137 28 = some (.goto 6, 31, 34, []) := rfl
set_option maxRecDepth 20000 in
theorem at_137_31 : am_at 137 31 = some (.ldc2_w 286, 34, 18446744073709551615, [1045]) := rfl
set_option maxRecDepth 20000 in
theorem at_137_34 : am_at 137 34 = some (.lreturn, 35, 0, []) := rfl
set_option maxRecDepth 20000 in
theorem at_137_35 : am_at 137 35 = some (.iload_n 2, 36, 2, []) := rfl
set_option maxRecDepth 20000 in
theorem at_137_36 : am_at 137 36 = some (.ifCond .ne 13, 39, 49, []) := rfl
set_option maxRecDepth 20000 in
theorem at_137_39 : am_at 137 39 = some (.aload_n 0, 40, 0, []) := rfl
set_option maxRecDepth 20000 in
theorem at_137_40 : am_at 137 40 = some (.getfield 7, 43, 0, [8, 1, 3, 711]) := rfl
set_option maxRecDepth 20000 in
theorem at_137_43 : am_at 137 43 = some (.iload_n 1, 44, 1, []) := rfl
set_option maxRecDepth 20000 in
theorem at_137_44 : am_at 137 44 = some (.iaload, 45, 0, []) := rfl
set_option maxRecDepth 20000 in
theorem at_137_45 : am_at 137 45 = some (.i2l, 46, 0, []) := rfl
set_option maxRecDepth 20000 in
theorem at_137_46 : am_at 137 46 = some (.goto 9, 49, 55, []) := rfl
set_option maxRecDepth 20000 in
theorem at_137_49 : am_at 137 49 = some (.aload_n 0, 50, 0, []) := rfl
set_option maxRecDepth 20000 in
theorem at_137_50 : am_at 137 50 = some (.getfield 13, 53, 0, [8, 2, 3, 712]) := rfl
set_option maxRecDepth 20000 in
theorem at_137_53 : am_at 137 53 = some (.iload_n 1, 54, 1, []) := rfl
set_option maxRecDepth 20000 in
theorem at_137_54 : am_at 137 54 = some (.laload, 55, 0, []) := rfl
set_option maxRecDepth 20000 in
theorem at_137_55 : am_at 137 55 = some (.lreturn, 56, 0, []) := rfl
set_option maxRecDepth 20000 in
theorem at_138_0 : am_at 138 0 = some (.aload_n 0, 1, 0, []) := rfl
set_option maxRecDepth 20000 in
theorem at_138_1 : am_at 138 1 = some (.iload_n 1, 2, 1, []) := rfl
set_option maxRecDepth 20000 in
theorem at_138_2 : am_at 138 2 = some (.iload_n 2, 3, 2, []) := rfl
set_option maxRecDepth 20000 in
theorem at_138_3 : am_at 138 3 = some (.invokevirtual 288, 6, 139, [0, 2, 8, 1050, 1052, 53, 60]) := rfl
set_option maxRecDepth 20000 in
theorem at_138_6 : am_at 138 6 = some (.ifCond .ne 5, 9, 11, []) := rfl
set_option maxRecDepth 20000 in
theorem at_138_9 : am_at 138 9 = some (.iconst (-1), 10, 4294967295, []) := rfl
set_option maxRecDepth 20000 in
theorem at_138_10 : am_at 138 10 = some (.ireturn, 11, 0, [0]) := rfl
set_option maxRecDepth 20000 in
theorem at_138_11 : am_at 138 11 = some (.bipush 30, 13, 30, []) := rfl
set_option maxRecDepth 20000 in
theorem at_138_13 : am_at 138 13 = some (.iload_n 1, 14, 1, []) := rfl
set_option maxRecDepth 20000 in
theorem at_138_14 : am_at 138 14 = some (.imul, 15, 0, []) := rfl
set_option maxRecDepth 20000 in
theorem at_138_15 : am_at 138 15 = some (.iload_n 2, 16, 2, []) := rfl
set_option maxRecDepth 20000 in
theorem at_138_16 : am_at 138 16 = some (.iadd, 17, 0, []) := rfl
set_option maxRecDepth 20000 in
theorem at_138_17 : am_at 138 17 = some (.istore 4, 19, 4, []) := rfl
set_option maxRecDepth 20000 in
theorem at_138_19 : am_at 138 19 = some (.aload_n 0, 20, 0, []) := rfl
set_option maxRecDepth 20000 in
theorem at_138_20 : am_at 138 20 = some (.getfield 50, 23, 0, [8, 18, 3, 728]) := rfl
set_option maxRecDepth 20000 in
theorem at_138_23 : am_at 138 23 = some (.bipush 30, 25, 30, []) := rfl
set_option maxRecDepth 20000 in
theorem at_138_25 : am_at 138 25 = some (.aload_n 0, 26, 0, []) := rfl
set_option maxRecDepth 20000 in
theorem at_138_26 : am_at 138 26 = some (.getfield 71, 29, 0, [8, 26, 3, 736]) := rfl
set_option maxRecDepth 20000 in
theorem at_138_29 : am_at 138 29 = some (.iload_n 1, 30, 1, []) := rfl
set_option maxRecDepth 20000 in
theorem at_138_30 : am_at 138 30 = some (.iaload, 31, 0, []) := rfl
set_option maxRecDepth 20000 in
theorem at_138_31 : am_at 138 31 = some (.imul, 32, 0, []) := rfl
set_option maxRecDepth 20000 in
theorem at_138_32 : am_at 138 32 = some (.iload_n 2, 33, 2, []) := rfl
set_option maxRecDepth 20000 in
theorem at_138_33 : am_at 138 33 = some (.iadd, 34, 0, []) := rfl
set_option maxRecDepth 20000 in
theorem at_138_34 : am_at 138 34 = some (.iaload, 35, 0, []) := rfl
set_option maxRecDepth 20000 in
theorem at_138_35 : am_at 138 35 = some (.istore 5, 37, 5, []) := rfl
set_option maxRecDepth 20000 in
theorem at_138_37 : am_at 138 37 = some (.iload_n 3, 38, 3, []) := rfl
set_option maxRecDepth 20000 in
theorem at_138_38 : am_at 138 38 = some (.tableswitch 126 0 3 #[30, 38, 46, 68], 68, 164, [68, 76, 84, 106]) := rfl
set_option maxRecDepth 20000 in
theorem at_138_68 : am_at 138 68 = some (.aload_n 0, 69, 0, []) := rfl
set_option maxRecDepth 20000 in
theorem at_138_69 : am_at 138 69 = some (.getfield 77, 72, 0, [8, 28, 3, 738]) := rfl
set_option maxRecDepth 20000 in
theorem at_138_72 : am_at 138 72 = some (.iload 4, 74, 4, []) := rfl
set_option maxRecDepth 20000 in
theorem at_138_74 : am_at 138 74 = some (.iaload, 75, 0, []) := rfl
set_option maxRecDepth 20000 in
theorem at_138_75 : am_at 138 75 = some (.ireturn, 76, 0, [0]) := rfl
set_option maxRecDepth 20000 in
theorem at_138_76 : am_at 138 76 = some (.aload_n 0, 77, 0, []) := rfl
set_option maxRecDepth 20000 in
theorem at_138_77 : am_at 138 77 = some (.getfield 80, 80, 0, [8, 29, 3, 739]) := rfl
set_option maxRecDepth 20000 in
theorem at_138_80 : am_at 138 80 = some (.iload 4, 82, 4, []) := rfl
set_option maxRecDepth 20000 in
theorem at_138_82 : am_at 138 82 = some (.iaload, 83, 0, []) := rfl
set_option maxRecDepth 20000 in
theorem at_138_83 : am_at 138 83 = some (.ireturn, 84, 0, [0]) := rfl
set_option maxRecDepth 20000 in
theorem at_138_84 : am_at 138 84 = some (.aload_n 0, 85, 0, []) := rfl
set_option maxRecDepth 20000 in
theorem at_138_85 : am_at 138 85 = some (.getfield 83, 88, 0, [8, 30, 3, 740]) := rfl
set_option maxRecDepth 20000 in
theorem at_138_88 : am_at 138 88 = some (.iload 4, 90, 4, []) := rfl
set_option maxRecDepth 20000 in
theorem at_138_90 : am_at 138 90 = some (.baload, 91, 0, []) := rfl
set_option maxRecDepth 20000 in
theorem at_138_91 : am_at 138 91 = some (.ifCond .eq 13, 94, 104, []) := rfl
set_option maxRecDepth 20000 in
theorem at_138_94 : am_at 138 94 = some (.aload_n 0, 95, 0, []) := rfl
set_option maxRecDepth 20000 in
theorem at_138_95 : am_at 138 95 = some (.getfield 87, 98, 0, [8, 31, 3, 741]) := rfl
set_option maxRecDepth 20000 in
theorem at_138_98 : am_at 138 98 = some (.iload 4, 100, 4, []) := rfl
set_option maxRecDepth 20000 in
theorem at_138_100 : am_at 138 100 = some (.iaload, 101, 0, []) := rfl
set_option maxRecDepth 20000 in
theorem at_138_101 : am_at 138 101 = some (.goto 4, 104, 105, []) := rfl
set_option maxRecDepth 20000 in
theorem at_138_104 : am_at 138 104 = some (.iconst 0, 105, 0, []) := rfl
set_option maxRecDepth 20000 in
theorem at_138_105 : am_at 138 105 = some (.ireturn, 106, 0, [0]) := rfl
set_option maxRecDepth 20000 in
theorem at_138_106 : am_at 138 106 = some (.iload 5, 108, 5, []) := rfl
set_option maxRecDepth 20000 in
theorem at_138_108 : am_at 138 108 = some (.bipush 6, 110, 6, []) := rfl
set_option maxRecDepth 20000 in
theorem at_138_110 : am_at 138 110 = some (.if_icmp .eq 10, 113, 120, []) := rfl
set_option maxRecDepth 20000 in
theorem at_138_113 : am_at 138 113 = some (.iload 5, 115, 5, []) := rfl
set_option maxRecDepth 20000 in
theorem at_138_115 : am_at 138 115 = some (.bipush 7, 117, 7, []) := rfl
set_option maxRecDepth 20000 in
theorem at_138_117 : am_at 138 117 = some (.if_icmp .ne 13, 120, 130, []) := rfl
set_option maxRecDepth 20000 in
theorem at_138_120 : am_at 138 120 = some (.aload_n 0, 121, 0, []) := rfl
set_option maxRecDepth 20000 in
theorem at_138_121 : am_at 138 121 = some (.getfield 90, 124, 0, [8, 32, 3, 742]) := rfl
set_option maxRecDepth 20000 in
theorem at_138_124 : am_at 138 124 = some (.iload 4, 126, 4, []) := rfl
set_option maxRecDepth 20000 in
theorem at_138_126 : am_at 138 126 = some (.iaload, 127, 0, []) := rfl
set_option maxRecDepth 20000 in
theorem at_138_127 : am_at 138 127 = some (.goto 36, 130, 163, []) := rfl
set_option maxRecDepth 20000 in
theorem at_138_130 : am_at 138 130 = some (.iload 5, 132, 5, []) := rfl
set_option maxRecDepth 20000 in
theorem at_138_132 : am_at 138 132 = some (.bipush 9, 134, 9, []) := rfl
set_option maxRecDepth 20000 in
theorem at_138_134 : am_at 138 134 = some (.if_icmp .ne 28, 137, 162, []) := rfl
set_option maxRecDepth 20000 in
theorem at_138_137 : am_at 138 137 = some (.aload_n 0, 138, 0, []) := rfl
set_option maxRecDepth 20000 in
theorem at_138_138 : am_at 138 138 = some (.getfield 93, 141, 0, [8, 33, 3, 743]) := rfl
set_option maxRecDepth 20000 in
theorem at_138_141 : am_at 138 141 = some (.iload 4, 143, 4, []) := rfl
set_option maxRecDepth 20000 in
theorem at_138_143 : am_at 138 143 = some (.iaload, 144, 0, []) := rfl
set_option maxRecDepth 20000 in
theorem at_138_144 : am_at 138 144 = some (.ifCond .ne 8, 147, 152, []) := rfl
set_option maxRecDepth 20000 in
theorem at_138_147 : am_at 138 147 = some (.bipush (-4), 149, 4294967292, []) := rfl
set_option maxRecDepth 20000 in
theorem at_138_149 : am_at 138 149 = some (.goto 14, 152, 163, []) := rfl
set_option maxRecDepth 20000 in
theorem at_138_152 : am_at 138 152 = some (.aload_n 0, 153, 0, []) := rfl
set_option maxRecDepth 20000 in
theorem at_138_153 : am_at 138 153 = some (.getfield 90, 156, 0, [8, 32, 3, 742]) := rfl
set_option maxRecDepth 20000 in
theorem at_138_156 : am_at 138 156 = some (.iload 4, 158, 4, []) := rfl
set_option maxRecDepth 20000 in
theorem at_138_158 : am_at 138 158 = some (.iaload, 159, 0, []) := rfl
set_option maxRecDepth 20000 in
theorem at_138_159 : am_at 138 159 = some (.goto 4, 162, 163, []) := rfl
set_option maxRecDepth 20000 in
theorem at_138_162 : am_at 138 162 = some (.iconst 0, 163, 0, []) := rfl
set_option maxRecDepth 20000 in
theorem at_138_163 : am_at 138 163 = some (.ireturn, 164, 0, [0]) := rfl
set_option maxRecDepth 20000 in
theorem at_138_164 : am_at 138 164 = some (.iconst (-1), 165, 4294967295, []) := rfl
set_option maxRecDepth 20000 in
theorem at_138_165 : am_at 138 165 = some (.ireturn, 166, 0, [0]) := rfl
set_option maxRecDepth 20000 in
theorem at_139_0 : am_at 139 0 = some (.aload_n 0, 1, 0, []) := rfl
set_option maxRecDepth 20000 in
theorem at_139_1 : am_at 139 1 = some (.iload_n 1, 2, 1, []) := rfl
set_option maxRecDepth 20000 in
theorem at_139_2 : am_at 139 2 = some (.invokevirtual 200, 5, 110, [0, 1, 8, 933, 935, 32, 60]) := rfl
set_option maxRecDepth 20000 in
theorem at_139_5 : am_at 139 5 = some (.ifCond .eq 41, 8, 46, []) := rfl
set_option maxRecDepth 20000 in
theorem at_139_8 : am_at 139 8 = some (.aload_n 0, 9, 0, []) := rfl
set_option maxRecDepth 20000 in
theorem at_139_9 : am_at 139 9 = some (.getfield 71, 12, 0, [8, 26, 3, 736]) := rfl
set_option maxRecDepth 20000 in
theorem at_139_12 : am_at 139 12 = some (.iload_n 1, 13, 1, []) := rfl
set_option maxRecDepth 20000 in
theorem at_139_13 : am_at 139 13 = some (.iaload, 14, 0, []) := rfl
set_option maxRecDepth 20000 in
theorem at_139_14 : am_at 139 14 = some (.bipush (-4), 16, 4294967292, []) := rfl
set_option maxRecDepth 20000 in
theorem at_139_16 : am_at 139 16 = some (.if_icmp .eq 30, 19, 46, []) := rfl
set_option maxRecDepth 20000 in
theorem at_139_19 : am_at 139 19 = some (.iload_n 2, 20, 2, []) := rfl
set_option maxRecDepth 20000 in
theorem at_139_20 : am_at 139 20 = some (.i2l, 21, 0, []) := rfl
set_option maxRecDepth 20000 in
theorem at_139_21 : am_at 139 21 = some (.lconst 0, 22, 0, []) := rfl
set_option maxRecDepth 20000 in
theorem at_139_22 : am_at 139 22 = some (.aload_n 0, 23, 0, []) := rfl
set_option maxRecDepth 20000 in
theorem at_139_23 : am_at 139 23 = some (.getfield 47, 26, 0, [8, 17, 3, 727]) := rfl
set_option maxRecDepth 20000 in
theorem at_139_26 : am_at 139 26 = some (.aload_n 0, 27, 0, []) := rfl
set_option maxRecDepth 20000 in
theorem at_139_27 : am_at 139 27 = some (.getfield 71, 30, 0, [8, 26, 3, 736]) := rfl
set_option maxRecDepth 20000 in
theorem at_139_30 : am_at 139 30 = some (.iload_n 1, 31, 1, []) := rfl
set_option maxRecDepth 20000 in
theorem at_139_31 : am_at 139 31 = some (.iaload, 32, 0, []) := rfl
set_option maxRecDepth 20000 in
theorem at_139_32 : am_at 139 32 = some (.iaload, 33, 0, []) := rfl
set_option maxRecDepth 20000 in
theorem at_139_33 : am_at 139 33 = some (.iconst 1, 34, 1, []) := rfl
set_option maxRecDepth 20000 in
theorem at_139_34 : am_at 139 34 = some (.isub, 35, 0, []) := rfl
set_option maxRecDepth 20000 in
theorem at_139_35 : am_at 139 35 = some (.i2l, 36, 0, []) := rfl
set_option maxRecDepth 20000 in
theorem at_139_36 : am_at 139 36 = some (.invokestatic 135, 39, 96, [0, 3, 872, 873, 60]) := rfl
set_option maxRecDepth 20000 in
theorem at_139_39 : am_at 139 39 = some (.ifCond .eq 7, 42, 46, []) := rfl
set_option maxRecDepth 20000 in
theorem at_139_42 : am_at 139 42 = some (.iconst 1, 43, 1, []) := rfl
set_option maxRecDepth 20000 in
theorem at_139_43 : am_at 139 43 = some (.goto 4, 46, 47, []) := rfl
set_option maxRecDepth 20000 in
theorem at_139_46 : am_at 139 46 = some (.iconst 0, 47, 0, []) := rfl
set_option maxRecDepth 20000 in
theorem at_139_47 : am_at 139 47 = some (.ireturn, 48, 0, [1]) := rfl
set_option maxRecDepth 20000 in
theorem at_140_0 : am_at 140 0 = some (.iload_n 1, 1, 1, []) := rfl
set_option maxRecDepth 20000 in
theorem at_140_1 : am_at 140 1 = some (.i2l, 2, 0, []) := rfl
set_option maxRecDepth 20000 in
theorem at_140_2 : am_at 140 2 = some (.lconst 0, 3, 0, []) := rfl
set_option maxRecDepth 20000 in
theorem at_140_3 : am_at 140 3 = some (.aload_n 0, 4, 0, []) := rfl
set_option maxRecDepth 20000 in
theorem at_140_4 : am_at 140 4 = some (.getfield 242, 7, 0, [8, 39, 0, 749]) := rfl
set_option maxRecDepth 20000 in
theorem at_140_7 : am_at 140 7 = some (.bipush 40, 9, 40, []) := rfl
set_option maxRecDepth 20000 in
theorem at_140_9 : am_at 140 9 = some (.if_icmp .ge 10, 12, 19, []) := rfl
set_option maxRecDepth 20000 in
theorem at_140_12 : am_at 140 12 = some (.aload_n 0, 13, 0, []) := rfl
set_option maxRecDepth 20000 in
theorem at_140_13 : am_at 140 13 = some (.getfield 242, 16, 0, [8, 39, 0, 749]) := rfl
set_option maxRecDepth 20000 in
theorem at_140_16 : am_at 140 16 = some (.goto 5, 19, 21, []) := rfl
set_option maxRecDepth 20000 in
theorem at_140_19 : am_at 140 19 = some (.bipush 40, 21, 40, []) := rfl
set_option maxRecDepth 20000 in
theorem at_140_21 : am_at 140 21 = some (.iconst 1, 22, 1, []) := rfl
set_option maxRecDepth 20000 in
theorem at_140_22 : am_at 140 22 = some (.isub, 23, 0, []) := rfl
set_option maxRecDepth 20000 in
theorem at_140_23 : am_at 140 23 = some (.i2l, 24, 0, []) := rfl
set_option maxRecDepth 20000 in
theorem at_140_24 : am_at 140 24 = some (.invokestatic 135, 27, 96, [0, 3, 872, 873, 60]) := rfl
set_option maxRecDepth 20000 in
theorem at_140_27 : am_at 140 27 = some (.ifCond .eq 35, 30, 62, []) := rfl
set_option maxRecDepth 20000 in
theorem at_140_30 : am_at 140 30 = some (.iload_n 2, 31, 2, []) := rfl
set_option maxRecDepth 20000 in
theorem at_140_31 : am_at 140 31 = some (.i2l, 32, 0, []) := rfl
set_option maxRecDepth 20000 in
theorem at_140_32 : am_at 140 32 = some (.lconst 0, 33, 0, []) := rfl
set_option maxRecDepth 20000 in
theorem at_140_33 : am_at 140 33 = some (.lconst 1, 34, 1, []) := rfl
set_option maxRecDepth 20000 in
theorem at_140_34 : am_at 140 34 = some (.invokestatic 135, 37, 96, [0, 3, 872, 873, 60]) := rfl
set_option maxRecDepth 20000 in
theorem at_140_37 : am_at 140 37 = some (.ifCond .eq 25, 40, 62, []) := rfl
set_option maxRecDepth 20000 in
theorem at_140_40 : am_at 140 40 = some (.iload_n 2, 41, 2, []) := rfl
set_option maxRecDepth 20000 in
theorem at_140_41 : am_at 140 41 = some (.ifCond .ne 12, 44, 53, []) := rfl
set_option maxRecDepth 20000 in
theorem at_140_44 : am_at 140 44 = some (.aload_n 0, 45, 0, []) := rfl
set_option maxRecDepth 20000 in
theorem at_140_45 : am_at 140 45 = some (.getfield 109, 48, 0, [8, 40, 3, 750]) := rfl
set_option maxRecDepth 20000 in
theorem at_140_48 : am_at 140 48 = some (.iload_n 1, 49, 1, []) := rfl
set_option maxRecDepth 20000 in
theorem at_140_49 : am_at 140 49 = some (.iaload, 50, 0, []) := rfl
set_option maxRecDepth 20000 in
theorem at_140_50 : am_at 140 50 = some (.goto 13, 53, 63, []) := rfl
set_option maxRecDepth 20000 in
theorem at_140_53 : am_at 140 53 = some (.aload_n 0, 54, 0, []) := rfl
set_option maxRecDepth 20000 in
theorem at_140_54 : am_at 140 54 = some (.getfield 112, 57, 0, [8, 41, 3, 751]) := rfl
set_option maxRecDepth 20000 in
theorem at_140_57 : am_at 140 57 = some (.iload_n 1, 58, 1, []) := rfl
set_option maxRecDepth 20000 in
theorem at_140_58 : am_at 140 58 = some (.iaload, 59, 0, []) := rfl
set_option maxRecDepth 20000 in
theorem at_140_59 : am_at 140 59 = some (.goto 4, 62, 63, []) := rfl
set_option maxRecDepth 20000 in
theorem at_140_62 : am_at 140 62 = some (.iconst (-1), 63, 4294967295, []) := rfl
set_option maxRecDepth 20000 in
theorem at_140_63 : am_at 140 63 = some (.ireturn, 64, 0, [0]) := rfl
set_option maxRecDepth 20000 in
theorem at_141_0 : am_at 141 0 = some (.aload_n 0, 1, 0, []) := rfl
set_option maxRecDepth 20000 in
theorem at_141_1 : am_at 141 1 = some (.iload_n 1, 2, 1, []) := rfl
set_option maxRecDepth 20000 in
theorem at_141_2 : am_at 141 2 = some (.iload_n 2, 3, 2, []) := rfl
set_option maxRecDepth 20000 in
theorem at_141_3 : am_at 141 3 = some (.invokevirtual 288, 6, 139, [0, 2, 8, 1050, 1052, 53, 60]) := rfl
set_option maxRecDepth 20000 in
theorem at_141_6 : am_at 141 6 = some (.ifCond .eq 24, 9, 30, []) := rfl
set_option maxRecDepth 20000 in
theorem at_141_9 : am_at 141 9 = some (.aload_n 0, 10, 0, []) := rfl
set_option maxRecDepth 20000 in
theorem at_141_10 : am_at 141 10 = some (.getfield 50, 13, 0, [8, 18, 3, 728]) := rfl
set_option maxRecDepth 20000 in
theorem at_141_13 : am_at 141 13 = some (.bipush 30, 15, 30, []) := rfl
set_option maxRecDepth 20000 in
theorem at_141_15 : am_at 141 15 = some (.aload_n 0, 16, 0, []) := rfl
set_option maxRecDepth 20000 in
theorem at_141_16 : am_at 141 16 = some (.getfield 71, 19, 0, [8, 26, 3, 736]) := rfl
set_option maxRecDepth 20000 in
theorem at_141_19 : am_at 141 19 = some (.iload_n 1, 20, 1, []) := rfl
set_option maxRecDepth 20000 in
theorem at_141_20 : am_at 141 20 = some (.iaload, 21, 0, []) := rfl
set_option maxRecDepth 20000 in
theorem at_141_21 : am_at 141 21 = some (.imul, 22, 0, []) := rfl
set_option maxRecDepth 20000 in
theorem at_141_22 : am_at 141 22 = some (.iload_n 2, 23, 2, []) := rfl
set_option maxRecDepth 20000 in
theorem at_141_23 : am_at 141 23 = some (.iadd, 24, 0, []) := rfl
set_option maxRecDepth 20000 in
theorem at_141_24 : am_at 141 24 = some (.iaload, 25, 0, []) := rfl
set_option maxRecDepth 20000 in
theorem at_141_25 : am_at 141 25 = some (.bipush 9, 27, 9, []) := rfl
set_option maxRecDepth 20000 in
theorem at_141_27 : am_at 141 27 = some (.if_icmp .eq 5, 30, 32, []) := rfl
set_option maxRecDepth 20000 in
theorem at_141_30 : am_at 141 30 = some (.iconst (-1), 31, 4294967295, []) := rfl
set_option maxRecDepth 20000 in
theorem at_141_31 : am_at 141 31 = some (.ireturn, 32, 0, [0]) := rfl
set_option maxRecDepth 20000 in
theorem at_141_32 : am_at 141 32 = some (.bipush 30, 34, 30, []) := rfl
set_option maxRecDepth 20000 in
theorem at_141_34 : am_at 141 34 = some (.iload_n 1, 35, 1, []) := rfl
set_option maxRecDepth 20000 in
theorem at_141_35 : am_at 141 35 = some (.imul, 36, 0, []) := rfl
set_option maxRecDepth 20000 in
theorem at_141_36 : am_at 141 36 = some (.iload_n 2, 37, 2, []) := rfl
set_option maxRecDepth 20000 in
theorem at_141_37 : am_at 141 37 = some (.iadd, 38, 0, []) := rfl
set_option maxRecDepth 20000 in
theorem at_141_38 : am_at 141 38 = some (.istore 4, 40, 4, []) := rfl
set_option maxRecDepth 20000 in
theorem at_141_40 : am_at 141 40 = some (.iload_n 3, 41, 3, []) := rfl
set_option maxRecDepth 20000 in
theorem at_141_41 : am_at 141 41 = some (.i2l, 42, 0, []) := rfl
set_option maxRecDepth 20000 in
theorem at_141_42 : am_at 141 42 = some (.lconst 0, 43, 0, []) := rfl
set_option maxRecDepth 20000 in
theorem at_141_43 : am_at 141 43 = some (.aload_n 0, 44, 0, []) := rfl
set_option maxRecDepth 20000 in
theorem at_141_44 : am_at 141 44 = some (.getfield 93, 47, 0, [8, 33, 3, 743]) := rfl
set_option maxRecDepth 20000 in
theorem at_141_47 : am_at 141 47 = some (.iload 4, 49, 4, []) := rfl
set_option maxRecDepth 20000 in
theorem at_141_49 : am_at 141 49 = some (.iaload, 50, 0, []) := rfl
set_option maxRecDepth 20000 in
theorem at_141_50 : am_at 141 50 = some (.iconst 1, 51, 1, []) := rfl
set_option maxRecDepth 20000 in
theorem at_141_51 : am_at 141 51 = some (.isub, 52, 0, []) := rfl
set_option maxRecDepth 20000 in
theorem at_141_52 : am_at 141 52 = some (.i2l, 53, 0, []) := rfl
set_option maxRecDepth 20000 in
theorem at_141_53 : am_at 141 53 = some (.invokestatic 135, 56, 96, [0, 3, 872, 873, 60]) := rfl
set_option maxRecDepth 20000 in
theorem at_141_56 : am_at 141 56 = some (.ifCond .eq 18, 59, 74, []) := rfl
set_option maxRecDepth 20000 in
theorem at_141_59 : am_at 141 59 = some (.aload_n 0, 60, 0, []) := rfl
set_option maxRecDepth 20000 in
theorem at_141_60 : am_at 141 60 = some (.getfield 96, 63, 0, [8, 34, 3, 744]) := rfl
set_option maxRecDepth 20000 in
theorem at_141_63 : am_at 141 63 = some (.bipush 12, 65, 12, []) := rfl
set_option maxRecDepth 20000 in
theorem at_141_65 : am_at 141 65 = some (.iload 4, 67, 4, []) := rfl
set_option maxRecDepth 20000 in
theorem at_141_67 : am_at 141 67 = some (.imul, 68, 0, []) := rfl
set_option maxRecDepth 20000 in
theorem at_141_68 : am_at 141 68 = some (.iload_n 3, 69, 3, []) := rfl
set_option maxRecDepth 20000 in
theorem at_141_69 : am_at 141 69 = some (.iadd, 70, 0, []) := rfl
set_option maxRecDepth 20000 in
theorem at_141_70 : am_at 141 70 = some (.iaload, 71, 0, []) := rfl
set_option maxRecDepth 20000 in
theorem at_141_71 : am_at 141 71 = some (.goto 5, 74, 76, []) := rfl
set_option maxRecDepth 20000 in
theorem at_141_74 : am_at 141 74 = some (.bipush (-4), 76, 4294967292, []) := rfl
set_option maxRecDepth 20000 in
theorem at_141_76 : am_at 141 76 = some (.ireturn, 77, 0, [0]) := rfl
set_option maxRecDepth 20000 in
theorem at_142_0 : am_at 142 0 = some (.aload_n 0, 1, 0, []) := rfl
set_option maxRecDepth 20000 in
theorem at_142_1 : am_at 142 1 = some (.iload_n 1, 2, 1, []) := rfl
set_option maxRecDepth 20000 in
theorem at_142_2 : am_at 142 2 = some (.invokevirtual 200, 5, 110, [0, 1, 8, 933, 935, 32, 60]) := rfl
set_option maxRecDepth 20000 in
theorem at_142_5 : am_at 142 5 = some (.ifCond .eq 15, 8, 20, []) := rfl
set_option maxRecDepth 20000 in
theorem at_142_8 : am_at 142 8 = some (.iload_n 2, 9, 2, []) := rfl
set_option maxRecDepth 20000 in
theorem at_142_9 : am_at 142 9 = some (.i2l, 10, 0, []) := rfl
set_option maxRecDepth 20000 in
theorem at_142_10 : am_at 142 10 = some (.lconst 0, 11, 0, []) := rfl
set_option maxRecDepth 20000 in
theorem at_142_11 : am_at 142 11 = some (.ldc2_w 291, 14, 8, [1066]) := rfl
set_option maxRecDepth 20000 in
theorem at_142_14 : am_at 142 14 = some (.invokestatic 135, 17, 96, [0, 3, 872, 873, 60]) := rfl
set_option maxRecDepth 20000 in
theorem at_142_17 : am_at 142 17 = some (.ifCond .ne 5, 20, 22, []) := rfl
set_option maxRecDepth 20000 in
theorem at_142_20 : am_at 142 20 = some (.iconst (-1), 21, 4294967295, []) := rfl
set_option maxRecDepth 20000 in
theorem at_142_21 : am_at 142 21 = some (.ireturn, 22, 0, [0]) := rfl
set_option maxRecDepth 20000 in
theorem at_142_22 : am_at 142 22 = some (.iload_n 2, 23, 2, []) := rfl
set_option maxRecDepth 20000 in
theorem at_142_23 : am_at 142 23 = some (.bipush 8, 25, 8, []) := rfl
set_option maxRecDepth 20000 in
theorem at_142_25 : am_at 142 25 = some (.if_icmp .ne 12, 28, 37, []) := rfl
set_option maxRecDepth 20000 in
theorem at_142_28 : am_at 142 28 = some (.aload_n 0, 29, 0, []) := rfl
set_option maxRecDepth 20000 in
theorem at_142_29 : am_at 142 29 = some (.getfield 71, 32, 0, [8, 26, 3, 736]) := rfl
set_option maxRecDepth 20000 in
theorem at_142_32 : am_at 142 32 = some (.iload_n 1, 33, 1, []) := rfl
set_option maxRecDepth 20000 in
theorem at_142_33 : am_at 142 33 = some (.iaload, 34, 0, []) := rfl
set_option maxRecDepth 20000 in
theorem at_142_34 : am_at 142 34 = some (.goto 14, 37, 48, []) := rfl
set_option maxRecDepth 20000 in
theorem at_142_37 : am_at 142 37 = some (.aload_n 0, 38, 0, []) := rfl
set_option maxRecDepth 20000 in
theorem at_142_38 : am_at 142 38 = some (.getfield 74, 41, 0, [8, 27, 3, 737]) := rfl
set_option maxRecDepth 20000 in
theorem at_142_41 : am_at 142 41 = some (.bipush 8, 43, 8, []) := rfl
set_option maxRecDepth 20000 in
theorem at_142_43 : am_at 142 43 = some (.iload_n 1, 44, 1, []) := rfl
set_option maxRecDepth 20000 in
theorem at_142_44 : am_at 142 44 = some (.imul, 45, 0, []) := rfl
set_option maxRecDepth 20000 in
theorem at_142_45 : am_at 142 45 = some (.iload_n 2, 46, 2, []) := rfl
set_option maxRecDepth 20000 in
theorem at_142_46 : am_at 142 46 = some (.iadd, 47, 0, []) := rfl
set_option maxRecDepth 20000 in
theorem at_142_47 : am_at 142 47 = some (.iaload, 48, 0, []) := rfl
set_option maxRecDepth 20000 in
theorem at_142_48 : am_at 142 48 = some (.ireturn, 49, 0, [0]) := rfl
set_option maxRecDepth 20000 in
theorem at_143_0 : am_at 143 0 = some (.iload_n 1, 1, 1, []) := rfl
set_option maxRecDepth 20000 in
theorem at_143_1 : am_at 143 1 = some (.tableswitch 86 0 5 #[39, 44, 49, 54, 59, 81], 40, 87, [40, 45, 50, 55, 60, 82]) := rfl
set_option maxRecDepth 20000 in
theorem at_143_40 : am_at 143 40 = some (.aload_n 0, 41, 0, []) := rfl
set_option maxRecDepth 20000 in
theorem at_143_41 : am_at 143 41 = some (.getfield 141, 44, 0, [8, 4, 0, 714]) := rfl
set_option maxRecDepth 20000 in
theorem at_143_44 : am_at 143 44 = some (.ireturn, 45, 0, [0]) := rfl
set_option maxRecDepth 20000 in
theorem at_143_45 : am_at 143 45 = some (.aload_n 0, 46, 0, []) := rfl
set_option maxRecDepth 20000 in
theorem at_143_46 : am_at 143 46 = some (.getfield 167, 49, 0, [8, 14, 0, 724]) := rfl
set_option maxRecDepth 20000 in
theorem at_143_49 : am_at 143 49 = some (.ireturn, 50, 0, [0]) := rfl
set_option maxRecDepth 20000 in
theorem at_143_50 : am_at 143 50 = some (.aload_n 0, 51, 0, []) := rfl
set_option maxRecDepth 20000 in
theorem at_143_51 : am_at 143 51 = some (.getfield 148, 54, 0, [8, 25, 0, 735]) := rfl
set_option maxRecDepth 20000 in
theorem at_143_54 : am_at 143 54 = some (.ireturn, 55, 0, [0]) := rfl
set_option maxRecDepth 20000 in
theorem at_143_55 : am_at 143 55 = some (.aload_n 0, 56, 0, []) := rfl
set_option maxRecDepth 20000 in
theorem at_143_56 : am_at 143 56 = some (.getfield 227, 59, 0, [8, 0, 0, 710]) := rfl
set_option maxRecDepth 20000 in
theorem at_143_59 : am_at 143 59 = some (.ireturn, 60, 0, [0]) := rfl
set_option maxRecDepth 20000 in
theorem at_143_60 : am_at 143 60 = some (.aload_n 0, 61, 0, []) := rfl
set_option maxRecDepth 20000 in
theorem at_143_61 : am_at 143 61 = some (.getfield 163, 64, 0, [8, 15, 1, 725]) := rfl
set_option maxRecDepth 20000 in
theorem at_143_64 : am_at 143 64 = some (.ifCond .eq 15, 67, 79, []) := rfl
set_option maxRecDepth 20000 in
theorem at_143_67 : am_at 143 67 = some (.aload_n 0, 68, 0, []) := rfl
set_option maxRecDepth 20000 in
theorem at_143_68 : am_at 143 68 = some (.getfield 47, 71, 0, [8, 17, 3, 727]) := rfl
set_option maxRecDepth 20000 in
theorem at_143_71 : am_at 143 71 = some (.aload_n 0, 72, 0, []) := rfl
set_option maxRecDepth 20000 in
theorem at_143_72 : am_at 143 72 = some (.getfield 167, 75, 0, [8, 14, 0, 724]) := rfl
set_option maxRecDepth 20000 in
theorem at_143_75 : am_at 143 75 = some (.iaload, 76, 0, []) := rfl
set_option maxRecDepth 20000 in
theorem at_143_76 : am_at 143 76 = some (.goto 5, 79, 81, []) := rfl
set_option maxRecDepth 20000 in
theorem at_143_79 : am_at 143 79 = some (.bipush (-4), 81, 4294967292, []) := rfl
set_option maxRecDepth 20000 in
theorem at_143_81 : am_at 143 81 = some (.ireturn, 82, 0, [0]) := rfl
set_option maxRecDepth 20000 in
theorem at_143_82 : am_at 143 82 = some (.aload_n 0, 83, 0, []) := rfl
set_option maxRecDepth 20000 in
theorem at_143_83 : am_at 143 83 = some (.getfield 242, 86, 0, [8, 39, 0, 749]) := rfl
set_option maxRecDepth 20000 in
theorem at_143_86 : am_at 143 86 = some (.ireturn, 87, 0, [0]) := rfl
set_option maxRecDepth 20000 in
theorem at_143_87 : am_at 143 87 = some (.iconst (-1), 88, 4294967295, []) := rfl
set_option maxRecDepth 20000 in
theorem at_143_88 : am_at 143 88 = some (.ireturn, 89, 0, [0]) := rfl
set_option maxRecDepth 20000 in
theorem at_144_0 : am_at 144 0 = some (.iload_n 1, 1, 1, []) := rfl
set_option maxRecDepth 20000 in
theorem at_144_1 : am_at 144 1 = some (.i2l, 2, 0, []) := rfl
set_option maxRecDepth 20000 in
theorem at_144_2 : am_at 144 2 = some (.lconst 0, 3, 0, []) := rfl
set_option maxRecDepth 20000 in
theorem at_144_3 : am_at 144 3 = some (.aload_n 0, 4, 0, []) := rfl
set_option maxRecDepth 20000 in
theorem at_144_4 : am_at 144 4 = some (.getfield 167, 7, 0, [8, 14, 0, 724]) := rfl
set_option maxRecDepth 20000 in
theorem at_144_7 : am_at 144 7 = some (.iconst 1, 8, 1, []) := rfl
set_option maxRecDepth 20000 in
theorem at_144_8 : am_at 144 8 = some (.isub, 9, 0, []) := rfl
set_option maxRecDepth 20000 in
theorem at_144_9 : am_at 144 9 = some (.i2l, 10, 0, []) := rfl
set_option maxRecDepth 20000 in
theorem at_144_10 : am_at 144 10 = some (.invokestatic 135, 13, 96, [0, 3, 872, 873, 60]) := rfl
set_option maxRecDepth 20000 in
theorem at_144_13 : am_at 144 13 = some (.ifCond .eq 33, 16, 46, []) := rfl
set_option maxRecDepth 20000 in
theorem at_144_16 : am_at 144 16 = some (.iload_n 2, 17, 2, []) := rfl
set_option maxRecDepth 20000 in
theorem at_144_17 : am_at 144 17 = some (.i2l, 18, 0, []) := rfl
set_option maxRecDepth 20000 in
theorem at_144_18 : am_at 144 18 = some (.lconst 0, 19, 0, []) := rfl
set_option maxRecDepth 20000 in
theorem at_144_19 : am_at 144 19 = some (.aload_n 0, 20, 0, []) := rfl
set_option maxRecDepth 20000 in
theorem at_144_20 : am_at 144 20 = some (.getfield 47, 23, 0, [8, 17, 3, 727]) := rfl
set_option maxRecDepth 20000 in
theorem at_144_23 : am_at 144 23 = some (.iload_n 1, 24, 1, []) := rfl
set_option maxRecDepth 20000 in
theorem at_144_24 : am_at 144 24 = some (.iaload, 25, 0, []) := rfl
set_option maxRecDepth 20000 in
theorem at_144_25 : am_at 144 25 = some (.iconst 1, 26, 1, []) := rfl
set_option maxRecDepth 20000 in
theorem at_144_26 : am_at 144 26 = some (.isub, 27, 0, []) := rfl
set_option maxRecDepth 20000 in
theorem at_144_27 : am_at 144 27 = some (.i2l, 28, 0, []) := rfl
set_option maxRecDepth 20000 in
theorem at_144_28 : am_at 144 28 = some (.invokestatic 135, 31, 96, [0, 3, 872, 873, 60]) := rfl
set_option maxRecDepth 20000 in
theorem at_144_31 : am_at 144 31 = some (.ifCond .eq 15, 34, 46, []) := rfl
set_option maxRecDepth 20000 in
theorem at_144_34 : am_at 144 34 = some (.iload_n 3, 35, 3, []) := rfl
set_option maxRecDepth 20000 in
theorem at_144_35 : am_at 144 35 = some (.i2l, 36, 0, []) := rfl
set_option maxRecDepth 20000 in
theorem at_144_36 : am_at 144 36 = some (.lconst 0, 37, 0, []) := rfl
set_option maxRecDepth 20000 in
theorem at_144_37 : am_at 144 37 = some (.ldc2_w 293, 40, 5, [1075]) := rfl
set_option maxRecDepth 20000 in
theorem at_144_40 : am_at 144 40 = some (.invokestatic 135, 43, 96, [0, 3, 872, 873, 60]) := rfl
set_option maxRecDepth 20000 in
theorem at_144_43 : am_at 144 43 = some (.ifCond .ne 5, 46, 48, []) := rfl
set_option maxRecDepth 20000 in
theorem at_144_46 : am_at 144 46 = some (.iconst (-1), 47, 4294967295, []) := rfl
set_option maxRecDepth 20000 in
theorem at_144_47 : am_at 144 47 = some (.ireturn, 48, 0, [0]) := rfl
set_option maxRecDepth 20000 in
theorem at_144_48 : am_at 144 48 = some (.bipush 30, 50, 30, []) := rfl
set_option maxRecDepth 20000 in
theorem at_144_50 : am_at 144 50 = some (.iload_n 1, 51, 1, []) := rfl
set_option maxRecDepth 20000 in
theorem at_144_51 : am_at 144 51 = some (.imul, 52, 0, []) := rfl
set_option maxRecDepth 20000 in
theorem at_144_52 : am_at 144 52 = some (.iload_n 2, 53, 2, []) := rfl
set_option maxRecDepth 20000 in
theorem at_144_53 : am_at 144 53 = some (.iadd, 54, 0, []) := rfl
set_option maxRecDepth 20000 in
theorem at_144_54 : am_at 144 54 = some (.istore 4, 56, 4, []) := rfl
set_option maxRecDepth 20000 in
theorem at_144_56 : am_at 144 56 = some (.iload_n 3, 57, 3, []) := rfl
set_option maxRecDepth 20000 in
theorem at_144_57 : am_at 144 57 = some (.ifCond .ne 13, 60, 70, []) := rfl
set_option maxRecDepth 20000 in
theorem at_144_60 : am_at 144 60 = some (.aload_n 0, 61, 0, []) := rfl
set_option maxRecDepth 20000 in
theorem at_144_61 : am_at 144 61 = some (.getfield 50, 64, 0, [8, 18, 3, 728]) := rfl
set_option maxRecDepth 20000 in
theorem at_144_64 : am_at 144 64 = some (.iload 4, 66, 4, []) := rfl
set_option maxRecDepth 20000 in
theorem at_144_66 : am_at 144 66 = some (.iaload, 67, 0, []) := rfl
set_option maxRecDepth 20000 in
theorem at_144_67 : am_at 144 67 = some (.goto 70, 70, 137, []) := rfl
set_option maxRecDepth 20000 in
theorem at_144_70 : am_at 144 70 = some (.iload_n 3, 71, 3, []) := rfl
set_option maxRecDepth 20000 in
theorem at_144_71 : am_at 144 71 = some (.iconst 1, 72, 1, []) := rfl
set_option maxRecDepth 20000 in
theorem at_144_72 : am_at 144 72 = some (.if_icmp .ne 13, 75, 85, []) := rfl
set_option maxRecDepth 20000 in
theorem at_144_75 : am_at 144 75 = some (.aload_n 0, 76, 0, []) := rfl
set_option maxRecDepth 20000 in
theorem at_144_76 : am_at 144 76 = some (.getfield 53, 79, 0, [8, 19, 3, 729]) := rfl
set_option maxRecDepth 20000 in
theorem at_144_79 : am_at 144 79 = some (.iload 4, 81, 4, []) := rfl
set_option maxRecDepth 20000 in
theorem at_144_81 : am_at 144 81 = some (.iaload, 82, 0, []) := rfl
set_option maxRecDepth 20000 in
theorem at_144_82 : am_at 144 82 = some (.goto 55, 85, 137, []) := rfl
set_option maxRecDepth 20000 in
theorem at_144_85 : am_at 144 85 = some (.iload_n 3, 86, 3, []) := rfl
set_option maxRecDepth 20000 in
theorem at_144_86 : am_at 144 86 = some (.iconst 2, 87, 2, []) := rfl
set_option maxRecDepth 20000 in
theorem at_144_87 : am_at 144 87 = some (.if_icmp .ne 13, 90, 100, []) := rfl
set_option maxRecDepth 20000 in
theorem at_144_90 : am_at 144 90 = some (.aload_n 0, 91, 0, []) := rfl
set_option maxRecDepth 20000 in
theorem at_144_91 : am_at 144 91 = some (.getfield 56, 94, 0, [8, 20, 3, 730]) := rfl
set_option maxRecDepth 20000 in
theorem at_144_94 : am_at 144 94 = some (.iload 4, 96, 4, []) := rfl
set_option maxRecDepth 20000 in
theorem at_144_96 : am_at 144 96 = some (.iaload, 97, 0, []) := rfl
set_option maxRecDepth 20000 in
theorem at_144_97 : am_at 144 97 = some (.goto 40, 100, 137, []) := rfl
set_option maxRecDepth 20000 in
theorem at_144_100 : am_at 144 100 = some (.iload_n 3, 101, 3, []) := rfl
set_option maxRecDepth 20000 in
theorem at_144_101 : am_at 144 101 = some (.iconst 3, 102, 3, []) := rfl
set_option maxRecDepth 20000 in
theorem at_144_102 : am_at 144 102 = some (.if_icmp .ne 13, 105, 115, []) := rfl
set_option maxRecDepth 20000 in
theorem at_144_105 : am_at 144 105 = some (.aload_n 0, 106, 0, []) := rfl
set_option maxRecDepth 20000 in
theorem at_144_106 : am_at 144 106 = some (.getfield 59, 109, 0, [8, 21, 3, 731]) := rfl
set_option maxRecDepth 20000 in
theorem at_144_109 : am_at 144 109 = some (.iload 4, 111, 4, []) := rfl
set_option maxRecDepth 20000 in
theorem at_144_111 : am_at 144 111 = some (.iaload, 112, 0, []) := rfl
set_option maxRecDepth 20000 in
theorem at_144_112 : am_at 144 112 = some (.goto 25, 115, 137, []) := rfl
set_option maxRecDepth 20000 in
theorem at_144_115 : am_at 144 115 = some (.iload_n 3, 116, 3, []) := rfl
set_option maxRecDepth 20000 in
theorem at_144_116 : am_at 144 116 = some (.iconst 4, 117, 4, []) := rfl
set_option maxRecDepth 20000 in
theorem at_144_117 : am_at 144 117 = some (.if_icmp .ne 13, 120, 130, []) := rfl
set_option maxRecDepth 20000 in
theorem at_144_120 : am_at 144 120 = some (.aload_n 0, 121, 0, []) := rfl
set_option maxRecDepth 20000 in
theorem at_144_121 : am_at 144 121 = some (.getfield 62, 124, 0, [8, 22, 3, 732]) := rfl
set_option maxRecDepth 20000 in
theorem at_144_124 : am_at 144 124 = some (.iload 4, 126, 4, []) := rfl
set_option maxRecDepth 20000 in
theorem at_144_126 : am_at 144 126 = some (.iaload, 127, 0, []) := rfl
set_option maxRecDepth 20000 in
theorem at_144_127 : am_at 144 127 = some (.goto 10, 130, 137, []) := rfl
set_option maxRecDepth 20000 in
theorem at_144_130 : am_at 144 130 = some (.aload_n 0, 131, 0, []) := rfl
set_option maxRecDepth 20000 in
theorem at_144_131 : am_at 144 131 = some (.getfield 65, 134, 0, [8, 23, 3, 733]) := rfl
set_option maxRecDepth 20000 in
theorem at_144_134 : am_at 144 134 = some (.iload 4, 136, 4, []) := rfl
set_option maxRecDepth 20000 in
theorem at_144_136 : am_at 144 136 = some (.iaload, 137, 0, []) := rfl
set_option maxRecDepth 20000 in
theorem at_144_137 : am_at 144 137 = some (.ireturn, 138, 0, [0]) := rfl
set_option maxRecDepth 20000 in
theorem at_145_0 : am_at 145 0 = some (.new 7, 3, 7, [64, 65, 55]) := rfl
set_option maxRecDepth 20000 in
theorem at_145_3 : am_at 145 3 = some (.dup, 4, 0, []) := rfl
set_option maxRecDepth 20000 in
theorem at_145_4 : am_at 145 4 = some (.invokespecial 9, 7, 0, [0, 0, 7, 66, 67, 55]) := rfl
set_option maxRecDepth 20000 in
theorem at_145_7 : am_at 145 7 = some (.astore_n 1, 8, 1, []) := rfl
set_option maxRecDepth 20000 in
theorem at_145_8 : am_at 145 8 = some (.new 10, 11, 8, [703, 704, 60]) := rfl
set_option maxRecDepth 20000 in
theorem at_145_11 : am_at 145 11 = some (.dup, 12, 0, []) := rfl
set_option maxRecDepth 20000 in
theorem at_145_12 : am_at 145 12 = some (.invokespecial 12, 15, 94, [0, 0, 8, 705, 706, 60]) := rfl
set_option maxRecDepth 20000 in
theorem at_145_15 : am_at 145 15 = some (.astore_n 2, 16, 2, []) := rfl
set_option maxRecDepth 20000 in
theorem at_145_16 : am_at 145 16 = some (.iconst 0, 17, 0, []) := rfl
set_option maxRecDepth 20000 in
theorem at_145_17 : am_at 145 17 = some (.istore_n 3, 18, 3, []) := rfl
set_option maxRecDepth 20000 in
theorem at_145_18 : am_at 145 18 = some (.iload_n 3, 19, 3, []) := rfl
set_option maxRecDepth 20000 in
theorem at_145_19 : am_at 145 19 = some (.aload_n 0, 20, 0, []) := rfl
set_option maxRecDepth 20000 in
theorem at_145_20 : am_at 145 20 = some (.arraylength, 21, 0, []) := rfl
set_option maxRecDepth 20000 in
theorem at_145_21 : am_at 145 21 = some (.iconst 5, 22, 5, []) := rfl
set_option maxRecDepth 20000 in
theorem at_145_22 : am_at 145 22 = some (.isub, 23, 0, []) := rfl
set_option maxRecDepth 20000 in
theorem at_145_23 : am_at 145 23 = some (.if_icmp .gt 828, 26, 851, []) := rfl
set_option maxRecDepth 20000 in
theorem at_145_26 : am_at 145 26 = some (.aload_n 0, 27, 0, []) := rfl
set_option maxRecDepth 20000 in
theorem at_145_27 : am_at 145 27 = some (.iload_n 3, 28, 3, []) := rfl
set_option maxRecDepth 20000 in
theorem at_145_28 : am_at 145 28 = some (.iaload, 29, 0, []) := rfl
set_option maxRecDepth 20000 in
theorem at_145_29 : am_at 145 29 = some (.bipush 31, 31, 31, []) := rfl
set_option maxRecDepth 20000 in
theorem at_145_31 : am_at 145 31 = some (.iand, 32, 0, []) := rfl
set_option maxRecDepth 20000 in
theorem at_145_32 : am_at 145 32 = some (.tableswitch 813 0 19 #[96, 129, 198, 251, 264, 317, 330, 343, 376, 399, 422, 445, 518, 561, 595, 638, 671, 714, 747, 770], 128, 845, [128, 161, 230, 283, 296, 349, 362, 375, 408, 431, 454, 477, 550, 593, 627, 670, 703, 746, 779, 802]) := rfl
set_option maxRecDepth 20000 in
theorem at_145_128 : am_at 145 128 = some (.aload_n 1, 129, 1, []) := rfl
set_option maxRecDepth 20000 in
theorem at_145_129 : am_at 145 129 = some (.aload_n 0, 130, 0, []) := rfl
set_option maxRecDepth 20000 in
theorem at_145_130 : am_at 145 130 = some (.iload_n 3, 131, 3, []) := rfl
set_option maxRecDepth 20000 in
theorem at_145_131 : am_at 145 131 = some (.iconst 1, 132, 1, []) := rfl
set_option maxRecDepth 20000 in
theorem at_145_132 : am_at 145 132 = some (.iadd, 133, 0, []) := rfl
set_option maxRecDepth 20000 in
theorem at_145_133 : am_at 145 133 = some (.iaload, 134, 0, []) := rfl
set_option maxRecDepth 20000 in
theorem at_145_134 : am_at 145 134 = some (.aload_n 0, 135, 0, []) := rfl
set_option maxRecDepth 20000 in
theorem at_145_135 : am_at 145 135 = some (.iload_n 3, 136, 3, []) := rfl
set_option maxRecDepth 20000 in
theorem at_145_136 : am_at 145 136 = some (.iconst 2, 137, 2, []) := rfl
set_option maxRecDepth 20000 in
theorem at_145_137 : am_at 145 137 = some (.iadd, 138, 0, []) := rfl
set_option maxRecDepth 20000 in
theorem at_145_138 : am_at 145 138 = some (.iaload, 139, 0, []) := rfl
set_option maxRecDepth 20000 in
theorem at_145_139 : am_at 145 139 = some (.invokevirtual 13, 142, 5, [0, 2, 7, 209, 210, 211, 55]) := rfl
set_option maxRecDepth 20000 in
theorem at_145_142 : am_at 145 142 = some (.aload_n 2, 143, 2, []) := rfl
set_option maxRecDepth 20000 in
theorem at_145_143 : am_at 145 143 = some (.aload_n 0, 144, 0, []) := rfl
set_option maxRecDepth 20000 in
theorem at_145_144 : am_at 145 144 = some (.iload_n 3, 145, 3, []) := rfl
set_option maxRecDepth 20000 in
theorem at_145_145 : am_at 145 145 = some (.iconst 1, 146, 1, []) := rfl
set_option maxRecDepth 20000 in
theorem at_145_146 : am_at 145 146 = some (.iadd, 147, 0, []) := rfl
set_option maxRecDepth 20000 in
theorem at_145_147 : am_at 145 147 = some (.iaload, 148, 0, []) := rfl
set_option maxRecDepth 20000 in
theorem at_145_148 : am_at 145 148 = some (.aload_n 0, 149, 0, []) := rfl
set_option maxRecDepth 20000 in
theorem at_145_149 : am_at 145 149 = some (.iload_n 3, 150, 3, []) := rfl
set_option maxRecDepth 20000 in
theorem at_145_150 : am_at 145 150 = some (.iconst 2, 151, 2, []) := rfl
set_option maxRecDepth 20000 in
theorem at_145_151 : am_at 145 151 = some (.iadd, 152, 0, []) := rfl
set_option maxRecDepth 20000 in
theorem at_145_152 : am_at 145 152 = some (.iaload, 153, 0, []) := rfl
set_option maxRecDepth 20000 in
theorem at_145_153 : am_at 145 153 = some (.invokevirtual 17, 156, 95, [0, 2, 8, 867, 868, 869, 60]) := rfl
set_option maxRecDepth 20000 in
theorem at_145_156 : am_at 145 156 = some (.if_icmp .eq 689, 159, 845, []) := rfl
set_option maxRecDepth 20000 in
theorem at_145_159 : am_at 145 159 = some (.iconst 0, 160, 0, []) := rfl
set_option maxRecDepth 20000 in
theorem at_145_160 : am_at 145 160 = some (.ireturn, 161, 0, [1]) := rfl
set_option maxRecDepth 20000 in
theorem at_145_161 : am_at 145 161 = some (.aload_n 1, 162, 1, []) := rfl
set_option maxRecDepth 20000 in
theorem at_145_162 : am_at 145 162 = some (.aload_n 0, 163, 0, []) := rfl
set_option maxRecDepth 20000 in
theorem at_145_163 : am_at 145 163 = some (.iload_n 3, 164, 3, []) := rfl
set_option maxRecDepth 20000 in
theorem at_145_164 : am_at 145 164 = some (.iconst 1, 165, 1, []) := rfl
set_option maxRecDepth 20000 in
theorem at_145_165 : am_at 145 165 = some (.iadd, 166, 0, []) := rfl
set_option maxRecDepth 20000 in
theorem at_145_166 : am_at 145 166 = some (.iaload, 167, 0, []) := rfl
set_option maxRecDepth 20000 in
theorem at_145_167 : am_at 145 167 = some (.aload_n 0, 168, 0, []) := rfl
set_option maxRecDepth 20000 in
theorem at_145_168 : am_at 145 168 = some (.iload_n 3, 169, 3, []) := rfl
set_option maxRecDepth 20000 in
theorem at_145_169 : am_at 145 169 = some (.iconst 2, 170, 2, []) := rfl
set_option maxRecDepth 20000 in
theorem at_145_170 : am_at 145 170 = some (.iadd, 171, 0, []) := rfl
set_option maxRecDepth 20000 in
theorem at_145_171 : am_at 145 171 = some (.iaload, 172, 0, []) := rfl
set_option maxRecDepth 20000 in
theorem at_145_172 : am_at 145 172 = some (.ifCond .eq 7, 175, 179, []) := rfl
set_option maxRecDepth 20000 in
theorem at_145_175 : am_at 145 175 = some (.iconst 1, 176, 1, []) := rfl
set_option maxRecDepth 20000 in
theorem at_145_176 : am_at 145 176 = some (.goto 4, 179, 180, []) := rfl
set_option maxRecDepth 20000 in
theorem at_145_179 : am_at 145 179 = some (.iconst 0, 180, 0, []) := rfl
set_option maxRecDepth 20000 in
theorem at_145_180 : am_at 145 180 = some (.aload_n 0, 181, 0, []) := rfl
set_option maxRecDepth 20000 in
theorem at_145_181 : am_at 145 181 = some (.iload_n 3, 182, 3, []) := rfl
set_option maxRecDepth 20000 in
theorem at_145_182 : am_at 145 182 = some (.iconst 3, 183, 3, []) := rfl
set_option maxRecDepth 20000 in
theorem at_145_183 : am_at 145 183 = some (.iadd, 184, 0, []) := rfl
set_option maxRecDepth 20000 in
theorem at_145_184 : am_at 145 184 = some (.iaload, 185, 0, []) := rfl
set_option maxRecDepth 20000 in
theorem at_145_185 : am_at 145 185 = some (.aload_n 0, 186, 0, []) := rfl
set_option maxRecDepth 20000 in
theorem at_145_186 : am_at 145 186 = some (.iload_n 3, 187, 3, []) := rfl
set_option maxRecDepth 20000 in
theorem at_145_187 : am_at 145 187 = some (.iconst 4, 188, 4, []) := rfl
set_option maxRecDepth 20000 in
theorem at_145_188 : am_at 145 188 = some (.iadd, 189, 0, []) := rfl
set_option maxRecDepth 20000 in
theorem at_145_189 : am_at 145 189 = some (.iaload, 190, 0, []) := rfl
set_option maxRecDepth 20000 in
theorem at_145_190 : am_at 145 190 = some (.invokevirtual 18, 193, 7, [0, 4, 7, 217, 218, 219, 55]) := rfl
set_option maxRecDepth 20000 in
theorem at_145_193 : am_at 145 193 = some (.aload_n 2, 194, 2, []) := rfl
set_option maxRecDepth 20000 in
theorem at_145_194 : am_at 145 194 = some (.aload_n 0, 195, 0, []) := rfl
set_option maxRecDepth 20000 in
theorem at_145_195 : am_at 145 195 = some (.iload_n 3, 196, 3, []) := rfl
set_option maxRecDepth 20000 in
theorem at_145_196 : am_at 145 196 = some (.iconst 1, 197, 1, []) := rfl
set_option maxRecDepth 20000 in
theorem at_145_197 : am_at 145 197 = some (.iadd, 198, 0, []) := rfl
set_option maxRecDepth 20000 in
theorem at_145_198 : am_at 145 198 = some (.iaload, 199, 0, []) := rfl
set_option maxRecDepth 20000 in
theorem at_145_199 : am_at 145 199 = some (.aload_n 0, 200, 0, []) := rfl
set_option maxRecDepth 20000 in
theorem at_145_200 : am_at 145 200 = some (.iload_n 3, 201, 3, []) := rfl
set_option maxRecDepth 20000 in
theorem at_145_201 : am_at 145 201 = some (.iconst 2, 202, 2, []) := rfl
set_option maxRecDepth 20000 in
theorem at_145_202 : am_at 145 202 = some (.iadd, 203, 0, []) := rfl
set_option maxRecDepth 20000 in
theorem at_145_203 : am_at 145 203 = some (.iaload, 204, 0, []) := rfl
set_option maxRecDepth 20000 in
theorem at_145_204 : am_at 145 204 = some (.ifCond .eq 7, 207, 211, []) := rfl
set_option maxRecDepth 20000 in
theorem at_145_207 : am_at 145 207 = some (.iconst 1, 208, 1, []) := rfl
set_option maxRecDepth 20000 in
theorem at_145_208 : am_at 145 208 = some (.goto 4, 211, 212, []) := rfl
set_option maxRecDepth 20000 in
theorem at_145_211 : am_at 145 211 = some (.iconst 0, 212, 0, []) := rfl
set_option maxRecDepth 20000 in
theorem at_145_212 : am_at 145 212 = some (.aload_n 0, 213, 0, []) := rfl
set_option maxRecDepth 20000 in
theorem at_145_213 : am_at 145 213 = some (.iload_n 3, 214, 3, []) := rfl
set_option maxRecDepth 20000 in
theorem at_145_214 : am_at 145 214 = some (.iconst 3, 215, 3, []) := rfl
set_option maxRecDepth 20000 in
theorem at_145_215 : am_at 145 215 = some (.iadd, 216, 0, []) := rfl
set_option maxRecDepth 20000 in
theorem at_145_216 : am_at 145 216 = some (.iaload, 217, 0, []) := rfl
set_option maxRecDepth 20000 in
theorem at_145_217 : am_at 145 217 = some (.aload_n 0, 218, 0, []) := rfl
set_option maxRecDepth 20000 in
theorem at_145_218 : am_at 145 218 = some (.iload_n 3, 219, 3, []) := rfl
set_option maxRecDepth 20000 in
theorem at_145_219 : am_at 145 219 = some (.iconst 4, 220, 4, []) := rfl
set_option maxRecDepth 20000 in
theorem at_145_220 : am_at 145 220 = some (.iadd, 221, 0, []) := rfl
set_option maxRecDepth 20000 in
theorem at_145_221 : am_at 145 221 = some (.iaload, 222, 0, []) := rfl
set_option maxRecDepth 20000 in
theorem at_145_222 : am_at 145 222 = some (.invokevirtual 22, 225, 98, [0, 4, 8, 880, 881, 882, 60]) := rfl
set_option maxRecDepth 20000 in
theorem at_145_225 : am_at 145 225 = some (.if_icmp .eq 620, 228, 845, []) := rfl
set_option maxRecDepth 20000 in
theorem at_145_228 : am_at 145 228 = some (.iconst 0, 229, 0, []) := rfl
set_option maxRecDepth 20000 in
theorem at_145_229 : am_at 145 229 = some (.ireturn, 230, 0, [1]) := rfl
set_option maxRecDepth 20000 in
theorem at_145_230 : am_at 145 230 = some (.aload_n 1, 231, 1, []) := rfl
set_option maxRecDepth 20000 in
theorem at_145_231 : am_at 145 231 = some (.aload_n 0, 232, 0, []) := rfl
set_option maxRecDepth 20000 in
theorem at_145_232 : am_at 145 232 = some (.iload_n 3, 233, 3, []) := rfl
set_option maxRecDepth 20000 in
theorem at_145_233 : am_at 145 233 = some (.iconst 1, 234, 1, []) := rfl
set_option maxRecDepth 20000 in
theorem at_145_234 : am_at 145 234 = some (.iadd, 235, 0, []) := rfl
set_option maxRecDepth 20000 in
theorem at_145_235 : am_at 145 235 = some (.iaload, 236, 0, []) := rfl
set_option maxRecDepth 20000 in
theorem at_145_236 : am_at 145 236 = some (.aload_n 0, 237, 0, []) := rfl
set_option maxRecDepth 20000 in
theorem at_145_237 : am_at 145 237 = some (.iload_n 3, 238, 3, []) := rfl
set_option maxRecDepth 20000 in
theorem at_145_238 : am_at 145 238 = some (.iconst 2, 239, 2, []) := rfl
set_option maxRecDepth 20000 in
theorem at_145_239 : am_at 145 239 = some (.iadd, 240, 0, []) := rfl
set_option maxRecDepth 20000 in
theorem at_145_240 : am_at 145 240 = some (.iaload, 241, 0, []) := rfl
set_option maxRecDepth 20000 in
theorem at_145_241 : am_at 145 241 = some (.aload_n 0, 242, 0, []) := rfl
set_option maxRecDepth 20000 in
theorem at_145_242 : am_at 145 242 = some (.iload_n 3, 243, 3, []) := rfl
set_option maxRecDepth 20000 in
theorem at_145_243 : am_at 145 243 = some (.iconst 3, 244, 3, []) := rfl
set_option maxRecDepth 20000 in
theorem at_145_244 : am_at 145 244 = some (.iadd, 245, 0, []) := rfl
set_option maxRecDepth 20000 in
theorem at_145_245 : am_at 145 245 = some (.iaload, 246, 0, []) := rfl
set_option maxRecDepth 20000 in
theorem at_145_246 : am_at 145 246 = some (.aload_n 0, 247, 0, []) := rfl
set_option maxRecDepth 20000 in
theorem at_145_247 : am_at 145 247 = some (.iload_n 3, 248, 3, []) := rfl
set_option maxRecDepth 20000 in
theorem at_145_248 : am_at 145 248 = some (.iconst 4, 249, 4, []) := rfl
set_option maxRecDepth 20000 in
theorem at_145_249 : am_at 145 249 = some (.iadd, 250, 0, []) := rfl
set_option maxRecDepth 20000 in
theorem at_145_250 : am_at 145 250 = some (.iaload, 251, 0, []) := rfl
set_option maxRecDepth 20000 in
theorem at_145_251 : am_at 145 251 = some (.invokevirtual 23, 254, 13, [0, 4, 7, 240, 241, 242, 55]) := rfl
set_option maxRecDepth 20000 in
theorem at_145_254 : am_at 145 254 = some (.aload_n 2, 255, 2, []) := rfl
set_option maxRecDepth 20000 in
theorem at_145_255 : am_at 145 255 = some (.aload_n 0, 256, 0, []) := rfl
set_option maxRecDepth 20000 in
theorem at_145_256 : am_at 145 256 = some (.iload_n 3, 257, 3, []) := rfl
set_option maxRecDepth 20000 in
theorem at_145_257 : am_at 145 257 = some (.iconst 1, 258, 1, []) := rfl
set_option maxRecDepth 20000 in
theorem at_145_258 : am_at 145 258 = some (.iadd, 259, 0, []) := rfl
set_option maxRecDepth 20000 in
theorem at_145_259 : am_at 145 259 = some (.iaload, 260, 0, []) := rfl
set_option maxRecDepth 20000 in
theorem at_145_260 : am_at 145 260 = some (.aload_n 0, 261, 0, []) := rfl
set_option maxRecDepth 20000 in
theorem at_145_261 : am_at 145 261 = some (.iload_n 3, 262, 3, []) := rfl
set_option maxRecDepth 20000 in
theorem at_145_262 : am_at 145 262 = some (.iconst 2, 263, 2, []) := rfl
set_option maxRecDepth 20000 in
theorem at_145_263 : am_at 145 263 = some (.iadd, 264, 0, []) := rfl
set_option maxRecDepth 20000 in
theorem at_145_264 : am_at 145 264 = some (.iaload, 265, 0, []) := rfl
set_option maxRecDepth 20000 in
theorem at_145_265 : am_at 145 265 = some (.aload_n 0, 266, 0, []) := rfl
set_option maxRecDepth 20000 in
theorem at_145_266 : am_at 145 266 = some (.iload_n 3, 267, 3, []) := rfl
set_option maxRecDepth 20000 in
theorem at_145_267 : am_at 145 267 = some (.iconst 3, 268, 3, []) := rfl
set_option maxRecDepth 20000 in
theorem at_145_268 : am_at 145 268 = some (.iadd, 269, 0, []) := rfl
set_option maxRecDepth 20000 in
theorem at_145_269 : am_at 145 269 = some (.iaload, 270, 0, []) := rfl
set_option maxRecDepth 20000 in
theorem at_145_270 : am_at 145 270 = some (.aload_n 0, 271, 0, []) := rfl
set_option maxRecDepth 20000 in
theorem at_145_271 : am_at 145 271 = some (.iload_n 3, 272, 3, []) := rfl
set_option maxRecDepth 20000 in
theorem at_145_272 : am_at 145 272 = some (.iconst 4, 273, 4, []) := rfl
set_option maxRecDepth 20000 in
theorem at_145_273 : am_at 145 273 = some (.iadd, 274, 0, []) := rfl
set_option maxRecDepth 20000 in
theorem at_145_274 : am_at 145 274 = some (.iaload, 275, 0, []) := rfl
set_option maxRecDepth 20000 in
theorem at_145_275 : am_at 145 275 = some (.invokevirtual 27, 278, 101, [0, 4, 8, 893, 894, 895, 60]) := rfl
set_option maxRecDepth 20000 in
theorem at_145_278 : am_at 145 278 = some (.if_icmp .eq 567, 281, 845, []) := rfl
set_option maxRecDepth 20000 in
theorem at_145_281 : am_at 145 281 = some (.iconst 0, 282, 0, []) := rfl
set_option maxRecDepth 20000 in
theorem at_145_282 : am_at 145 282 = some (.ireturn, 283, 0, [1]) := rfl
set_option maxRecDepth 20000 in
theorem at_145_283 : am_at 145 283 = some (.aload_n 1, 284, 1, []) := rfl
set_option maxRecDepth 20000 in
theorem at_145_284 : am_at 145 284 = some (.invokevirtual 28, 287, 16, [0, 0, 7, 251, 252, 253, 55]) := rfl
set_option maxRecDepth 20000 in
theorem at_145_287 : am_at 145 287 = some (.aload_n 2, 288, 2, []) := rfl
set_option maxRecDepth 20000 in
theorem at_145_288 : am_at 145 288 = some (.invokevirtual 32, 291, 102, [0, 0, 8, 898, 899, 900, 60]) := rfl
set_option maxRecDepth 20000 in
theorem at_145_291 : am_at 145 291 = some (.if_icmp .eq 554, 294, 845, []) := rfl
set_option maxRecDepth 20000 in
theorem at_145_294 : am_at 145 294 = some (.iconst 0, 295, 0, []) := rfl
set_option maxRecDepth 20000 in
theorem at_145_295 : am_at 145 295 = some (.ireturn, 296, 0, [1]) := rfl
set_option maxRecDepth 20000 in
theorem at_145_296 : am_at 145 296 = some (.aload_n 1, 297, 1, []) := rfl
set_option maxRecDepth 20000 in
theorem at_145_297 : am_at 145 297 = some (.aload_n 0, 298, 0, []) := rfl
set_option maxRecDepth 20000 in
theorem at_145_298 : am_at 145 298 = some (.iload_n 3, 299, 3, []) := rfl
set_option maxRecDepth 20000 in
theorem at_145_299 : am_at 145 299 = some (.iconst 1, 300, 1, []) := rfl
set_option maxRecDepth 20000 in
theorem at_145_300 : am_at 145 300 = some (.iadd, 301, 0, []) := rfl
set_option maxRecDepth 20000 in
theorem at_145_301 : am_at 145 301 = some (.iaload, 302, 0, []) := rfl
set_option maxRecDepth 20000 in
theorem at_145_302 : am_at 145 302 = some (.aload_n 0, 303, 0, []) := rfl
set_option maxRecDepth 20000 in
theorem at_145_303 : am_at 145 303 = some (.iload_n 3, 304, 3, []) := rfl
set_option maxRecDepth 20000 in
theorem at_145_304 : am_at 145 304 = some (.iconst 2, 305, 2, []) := rfl
set_option maxRecDepth 20000 in
theorem at_145_305 : am_at 145 305 = some (.iadd, 306, 0, []) := rfl
set_option maxRecDepth 20000 in
theorem at_145_306 : am_at 145 306 = some (.iaload, 307, 0, []) := rfl
set_option maxRecDepth 20000 in
theorem at_145_307 : am_at 145 307 = some (.aload_n 0, 308, 0, []) := rfl
set_option maxRecDepth 20000 in
theorem at_145_308 : am_at 145 308 = some (.iload_n 3, 309, 3, []) := rfl
set_option maxRecDepth 20000 in
theorem at_145_309 : am_at 145 309 = some (.iconst 3, 310, 3, []) := rfl
set_option maxRecDepth 20000 in
theorem at_145_310 : am_at 145 310 = some (.iadd, 311, 0, []) := rfl
set_option maxRecDepth 20000 in
theorem at_145_311 : am_at 145 311 = some (.iaload, 312, 0, []) := rfl
set_option maxRecDepth 20000 in
theorem at_145_312 : am_at 145 312 = some (.aload_n 0, 313, 0, []) := rfl
set_option maxRecDepth 20000 in
theorem at_145_313 : am_at 145 313 = some (.iload_n 3, 314, 3, []) := rfl
set_option maxRecDepth 20000 in
theorem at_145_314 : am_at 145 314 = some (.iconst 4, 315, 4, []) := rfl
set_option maxRecDepth 20000 in
theorem at_145_315 : am_at 145 315 = some (.iadd, 316, 0, []) := rfl
set_option maxRecDepth 20000 in
theorem at_145_316 : am_at 145 316 = some (.iaload, 317, 0, []) := rfl
set_option maxRecDepth 20000 in
theorem at_145_317 : am_at 145 317 = some (.invokevirtual 33, 320, 19, [0, 4, 7, 310, 311, 312, 55]) := rfl
set_option maxRecDepth 20000 in
theorem at_145_320 : am_at 145 320 = some (.aload_n 2, 321, 2, []) := rfl
set_option maxRecDepth 20000 in
theorem at_145_321 : am_at 145 321 = some (.aload_n 0, 322, 0, []) := rfl
set_option maxRecDepth 20000 in
theorem at_145_322 : am_at 145 322 = some (.iload_n 3, 323, 3, []) := rfl
set_option maxRecDepth 20000 in
theorem at_145_323 : am_at 145 323 = some (.iconst 1, 324, 1, []) := rfl
set_option maxRecDepth 20000 in
theorem at_145_324 : am_at 145 324 = some (.iadd, 325, 0, []) := rfl
set_option maxRecDepth 20000 in
theorem at_145_325 : am_at 145 325 = some (.iaload, 326, 0, []) := rfl
set_option maxRecDepth 20000 in
theorem at_145_326 : am_at 145 326 = some (.aload_n 0, 327, 0, []) := rfl
set_option maxRecDepth 20000 in
theorem at_145_327 : am_at 145 327 = some (.iload_n 3, 328, 3, []) := rfl
set_option maxRecDepth 20000 in
theorem at_145_328 : am_at 145 328 = some (.iconst 2, 329, 2, []) := rfl
set_option maxRecDepth 20000 in
theorem at_145_329 : am_at 145 329 = some (.iadd, 330, 0, []) := rfl
set_option maxRecDepth 20000 in
theorem at_145_330 : am_at 145 330 = some (.iaload, 331, 0, []) := rfl
set_option maxRecDepth 20000 in
theorem at_145_331 : am_at 145 331 = some (.aload_n 0, 332, 0, []) := rfl
set_option maxRecDepth 20000 in
theorem at_145_332 : am_at 145 332 = some (.iload_n 3, 333, 3, []) := rfl
set_option maxRecDepth 20000 in
theorem at_145_333 : am_at 145 333 = some (.iconst 3, 334, 3, []) := rfl
set_option maxRecDepth 20000 in
theorem at_145_334 : am_at 145 334 = some (.iadd, 335, 0, []) := rfl
set_option maxRecDepth 20000 in
theorem at_145_335 : am_at 145 335 = some (.iaload, 336, 0, []) := rfl
set_option maxRecDepth 20000 in
theorem at_145_336 : am_at 145 336 = some (.aload_n 0, 337, 0, []) := rfl
set_option maxRecDepth 20000 in
theorem at_145_337 : am_at 145 337 = some (.iload_n 3, 338, 3, []) := rfl
set_option maxRecDepth 20000 in
theorem at_145_338 : am_at 145 338 = some (.iconst 4, 339, 4, []) := rfl
set_option maxRecDepth 20000 in
theorem at_145_339 : am_at 145 339 = some (.iadd, 340, 0, []) := rfl
set_option maxRecDepth 20000 in
theorem at_145_340 : am_at 145 340 = some (.iaload, 341, 0, []) := rfl
set_option maxRecDepth 20000 in
theorem at_145_341 : am_at 145 341 = some (.invokevirtual 36, 344, 103, [0, 4, 8, 902, 903, 904, 60]) := rfl
set_option maxRecDepth 20000 in
theorem at_145_344 : am_at 145 344 = some (.if_icmp .eq 501, 347, 845, []) := rfl
set_option maxRecDepth 20000 in
theorem at_145_347 : am_at 145 347 = some (.iconst 0, 348, 0, []) := rfl
set_option maxRecDepth 20000 in
theorem at_145_348 : am_at 145 348 = some (.ireturn, 349, 0, [1]) := rfl
set_option maxRecDepth 20000 in
theorem at_145_349 : am_at 145 349 = some (.aload_n 1, 350, 1, []) := rfl
set_option maxRecDepth 20000 in
theorem at_145_350 : am_at 145 350 = some (.invokevirtual 37, 353, 27, [0, 0, 7, 341, 342, 343, 55]) := rfl
set_option maxRecDepth 20000 in
theorem at_145_353 : am_at 145 353 = some (.aload_n 2, 354, 2, []) := rfl
set_option maxRecDepth 20000 in
theorem at_145_354 : am_at 145 354 = some (.invokevirtual 40, 357, 107, [0, 0, 8, 921, 922, 923, 60]) := rfl
set_option maxRecDepth 20000 in
theorem at_145_357 : am_at 145 357 = some (.if_icmp .eq 488, 360, 845, []) := rfl
set_option maxRecDepth 20000 in
theorem at_145_360 : am_at 145 360 = some (.iconst 0, 361, 0, []) := rfl
set_option maxRecDepth 20000 in
theorem at_145_361 : am_at 145 361 = some (.ireturn, 362, 0, [1]) := rfl
set_option maxRecDepth 20000 in
theorem at_145_362 : am_at 145 362 = some (.aload_n 1, 363, 1, []) := rfl
set_option maxRecDepth 20000 in
theorem at_145_363 : am_at 145 363 = some (.invokevirtual 41, 366, 28, [0, 0, 7, 345, 346, 347, 55]) := rfl
set_option maxRecDepth 20000 in
theorem at_145_366 : am_at 145 366 = some (.aload_n 2, 367, 2, []) := rfl
set_option maxRecDepth 20000 in
theorem at_145_367 : am_at 145 367 = some (.invokevirtual 44, 370, 108, [0, 0, 8, 925, 926, 927, 60]) := rfl
set_option maxRecDepth 20000 in
theorem at_145_370 : am_at 145 370 = some (.if_icmp .eq 475, 373, 845, []) := rfl
set_option maxRecDepth 20000 in
theorem at_145_373 : am_at 145 373 = some (.iconst 0, 374, 0, []) := rfl
set_option maxRecDepth 20000 in
theorem at_145_374 : am_at 145 374 = some (.ireturn, 375, 0, [1]) := rfl
set_option maxRecDepth 20000 in
theorem at_145_375 : am_at 145 375 = some (.aload_n 1, 376, 1, []) := rfl
set_option maxRecDepth 20000 in
theorem at_145_376 : am_at 145 376 = some (.aload_n 0, 377, 0, []) := rfl
set_option maxRecDepth 20000 in
theorem at_145_377 : am_at 145 377 = some (.iload_n 3, 378, 3, []) := rfl
set_option maxRecDepth 20000 in
theorem at_145_378 : am_at 145 378 = some (.iconst 1, 379, 1, []) := rfl
set_option maxRecDepth 20000 in
theorem at_145_379 : am_at 145 379 = some (.iadd, 380, 0, []) := rfl
set_option maxRecDepth 20000 in
theorem at_145_380 : am_at 145 380 = some (.iaload, 381, 0, []) := rfl
set_option maxRecDepth 20000 in
theorem at_145_381 : am_at 145 381 = some (.aload_n 0, 382, 0, []) := rfl
set_option maxRecDepth 20000 in
theorem at_145_382 : am_at 145 382 = some (.iload_n 3, 383, 3, []) := rfl
set_option maxRecDepth 20000 in
theorem at_145_383 : am_at 145 383 = some (.iconst 2, 384, 2, []) := rfl
set_option maxRecDepth 20000 in
theorem at_145_384 : am_at 145 384 = some (.iadd, 385, 0, []) := rfl
set_option maxRecDepth 20000 in
theorem at_145_385 : am_at 145 385 = some (.iaload, 386, 0, []) := rfl
set_option maxRecDepth 20000 in
theorem at_145_386 : am_at 145 386 = some (.invokevirtual 45, 389, 30, [0, 2, 7, 398, 399, 400, 55]) := rfl
set_option maxRecDepth 20000 in
theorem at_145_389 : am_at 145 389 = some (.aload_n 2, 390, 2, []) := rfl
set_option maxRecDepth 20000 in
theorem at_145_390 : am_at 145 390 = some (.aload_n 0, 391, 0, []) := rfl
set_option maxRecDepth 20000 in
theorem at_145_391 : am_at 145 391 = some (.iload_n 3, 392, 3, []) := rfl
set_option maxRecDepth 20000 in
theorem at_145_392 : am_at 145 392 = some (.iconst 1, 393, 1, []) := rfl
set_option maxRecDepth 20000 in
theorem at_145_393 : am_at 145 393 = some (.iadd, 394, 0, []) := rfl
set_option maxRecDepth 20000 in
theorem at_145_394 : am_at 145 394 = some (.iaload, 395, 0, []) := rfl
set_option maxRecDepth 20000 in
theorem at_145_395 : am_at 145 395 = some (.aload_n 0, 396, 0, []) := rfl
set_option maxRecDepth 20000 in
theorem at_145_396 : am_at 145 396 = some (.iload_n 3, 397, 3, []) := rfl
set_option maxRecDepth 20000 in
theorem at_145_397 : am_at 145 397 = some (.iconst 2, 398, 2, []) := rfl
set_option maxRecDepth 20000 in
theorem at_145_398 : am_at 145 398 = some (.iadd, 399, 0, []) := rfl
set_option maxRecDepth 20000 in
theorem at_145_399 : am_at 145 399 = some (.iaload, 400, 0, []) := rfl
set_option maxRecDepth 20000 in
theorem at_145_400 : am_at 145 400 = some (.invokevirtual 48, 403, 109, [0, 2, 8, 929, 930, 931, 60]) := rfl
set_option maxRecDepth 20000 in
theorem at_145_403 : am_at 145 403 = some (.if_icmp .eq 442, 406, 845, []) := rfl
set_option maxRecDepth 20000 in
theorem at_145_406 : am_at 145 406 = some (.iconst 0, 407, 0, []) := rfl
set_option maxRecDepth 20000 in
theorem at_145_407 : am_at 145 407 = some (.ireturn, 408, 0, [1]) := rfl
set_option maxRecDepth 20000 in
theorem at_145_408 : am_at 145 408 = some (.aload_n 1, 409, 1, []) := rfl
set_option maxRecDepth 20000 in
theorem at_145_409 : am_at 145 409 = some (.aload_n 0, 410, 0, []) := rfl
set_option maxRecDepth 20000 in
theorem at_145_410 : am_at 145 410 = some (.iload_n 3, 411, 3, []) := rfl
set_option maxRecDepth 20000 in
theorem at_145_411 : am_at 145 411 = some (.iconst 1, 412, 1, []) := rfl
set_option maxRecDepth 20000 in
theorem at_145_412 : am_at 145 412 = some (.iadd, 413, 0, []) := rfl
set_option maxRecDepth 20000 in
theorem at_145_413 : am_at 145 413 = some (.iaload, 414, 0, []) := rfl
set_option maxRecDepth 20000 in
theorem at_145_414 : am_at 145 414 = some (.invokevirtual 49, 417, 39, [0, 1, 7, 436, 437, 438, 55]) := rfl
set_option maxRecDepth 20000 in
theorem at_145_417 : am_at 145 417 = some (.aload_n 2, 418, 2, []) := rfl
set_option maxRecDepth 20000 in
theorem at_145_418 : am_at 145 418 = some (.aload_n 0, 419, 0, []) := rfl
set_option maxRecDepth 20000 in
theorem at_145_419 : am_at 145 419 = some (.iload_n 3, 420, 3, []) := rfl
set_option maxRecDepth 20000 in
theorem at_145_420 : am_at 145 420 = some (.iconst 1, 421, 1, []) := rfl
set_option maxRecDepth 20000 in
theorem at_145_421 : am_at 145 421 = some (.iadd, 422, 0, []) := rfl
set_option maxRecDepth 20000 in
theorem at_145_422 : am_at 145 422 = some (.iaload, 423, 0, []) := rfl
set_option maxRecDepth 20000 in
theorem at_145_423 : am_at 145 423 = some (.invokevirtual 53, 426, 114, [0, 1, 8, 949, 950, 951, 60]) := rfl
set_option maxRecDepth 20000 in
theorem at_145_426 : am_at 145 426 = some (.if_icmp .eq 419, 429, 845, []) := rfl
set_option maxRecDepth 20000 in
theorem at_145_429 : am_at 145 429 = some (.iconst 0, 430, 0, []) := rfl
set_option maxRecDepth 20000 in
theorem at_145_430 : am_at 145 430 = some (.ireturn, 431, 0, [1]) := rfl
set_option maxRecDepth 20000 in
theorem at_145_431 : am_at 145 431 = some (.aload_n 1, 432, 1, []) := rfl
set_option maxRecDepth 20000 in
theorem at_145_432 : am_at 145 432 = some (.aload_n 0, 433, 0, []) := rfl
set_option maxRecDepth 20000 in
theorem at_145_433 : am_at 145 433 = some (.iload_n 3, 434, 3, []) := rfl
set_option maxRecDepth 20000 in
theorem at_145_434 : am_at 145 434 = some (.iconst 1, 435, 1, []) := rfl
set_option maxRecDepth 20000 in
theorem at_145_435 : am_at 145 435 = some (.iadd, 436, 0, []) := rfl
set_option maxRecDepth 20000 in
theorem at_145_436 : am_at 145 436 = some (.iaload, 437, 0, []) := rfl
set_option maxRecDepth 20000 in
theorem at_145_437 : am_at 145 437 = some (.invokevirtual 54, 440, 78, [0, 1, 7, 634, 635, 636, 55]) := rfl
set_option maxRecDepth 20000 in
theorem at_145_440 : am_at 145 440 = some (.aload_n 2, 441, 2, []) := rfl
set_option maxRecDepth 20000 in
theorem at_145_441 : am_at 145 441 = some (.aload_n 0, 442, 0, []) := rfl
set_option maxRecDepth 20000 in
theorem at_145_442 : am_at 145 442 = some (.iload_n 3, 443, 3, []) := rfl
set_option maxRecDepth 20000 in
theorem at_145_443 : am_at 145 443 = some (.iconst 1, 444, 1, []) := rfl
set_option maxRecDepth 20000 in
theorem at_145_444 : am_at 145 444 = some (.iadd, 445, 0, []) := rfl
set_option maxRecDepth 20000 in
theorem at_145_445 : am_at 145 445 = some (.iaload, 446, 0, []) := rfl
set_option maxRecDepth 20000 in
theorem at_145_446 : am_at 145 446 = some (.invokevirtual 57, 449, 133, [0, 1, 8, 1025, 1026, 1027, 60]) := rfl
set_option maxRecDepth 20000 in
theorem at_145_449 : am_at 145 449 = some (.if_icmp .eq 396, 452, 845, []) := rfl
set_option maxRecDepth 20000 in
theorem at_145_452 : am_at 145 452 = some (.iconst 0, 453, 0, []) := rfl
set_option maxRecDepth 20000 in
theorem at_145_453 : am_at 145 453 = some (.ireturn, 454, 0, [1]) := rfl
set_option maxRecDepth 20000 in
theorem at_145_454 : am_at 145 454 = some (.aload_n 1, 455, 1, []) := rfl
set_option maxRecDepth 20000 in
theorem at_145_455 : am_at 145 455 = some (.aload_n 0, 456, 0, []) := rfl
set_option maxRecDepth 20000 in
theorem at_145_456 : am_at 145 456 = some (.iload_n 3, 457, 3, []) := rfl
set_option maxRecDepth 20000 in
theorem at_145_457 : am_at 145 457 = some (.iconst 1, 458, 1, []) := rfl
set_option maxRecDepth 20000 in
theorem at_145_458 : am_at 145 458 = some (.iadd, 459, 0, []) := rfl
set_option maxRecDepth 20000 in
theorem at_145_459 : am_at 145 459 = some (.iaload, 460, 0, []) := rfl
set_option maxRecDepth 20000 in
theorem at_145_460 : am_at 145 460 = some (.invokevirtual 58, 463, 79, [0, 1, 7, 638, 639, 640, 55]) := rfl
set_option maxRecDepth 20000 in
theorem at_145_463 : am_at 145 463 = some (.aload_n 2, 464, 2, []) := rfl
set_option maxRecDepth 20000 in
theorem at_145_464 : am_at 145 464 = some (.aload_n 0, 465, 0, []) := rfl
set_option maxRecDepth 20000 in
theorem at_145_465 : am_at 145 465 = some (.iload_n 3, 466, 3, []) := rfl
set_option maxRecDepth 20000 in
theorem at_145_466 : am_at 145 466 = some (.iconst 1, 467, 1, []) := rfl
set_option maxRecDepth 20000 in
theorem at_145_467 : am_at 145 467 = some (.iadd, 468, 0, []) := rfl
set_option maxRecDepth 20000 in
theorem at_145_468 : am_at 145 468 = some (.iaload, 469, 0, []) := rfl
set_option maxRecDepth 20000 in
theorem at_145_469 : am_at 145 469 = some (.invokevirtual 61, 472, 134, [0, 1, 8, 1029, 1030, 1031, 60]) := rfl
set_option maxRecDepth 20000 in
theorem at_145_472 : am_at 145 472 = some (.if_icmp .eq 373, 475, 845, []) := rfl
set_option maxRecDepth 20000 in
theorem at_145_475 : am_at 145 475 = some (.iconst 0, 476, 0, []) := rfl
set_option maxRecDepth 20000 in
theorem at_145_476 : am_at 145 476 = some (.ireturn, 477, 0, [1]) := rfl
set_option maxRecDepth 20000 in
theorem at_145_477 : am_at 145 477 = some (.aload_n 1, 478, 1, []) := rfl
set_option maxRecDepth 20000 in
theorem at_145_478 : am_at 145 478 = some (.aload_n 0, 479, 0, []) := rfl
set_option maxRecDepth 20000 in
theorem at_145_479 : am_at 145 479 = some (.iload_n 3, 480, 3, []) := rfl
set_option maxRecDepth 20000 in
theorem at_145_480 : am_at 145 480 = some (.iconst 1, 481, 1, []) := rfl
set_option maxRecDepth 20000 in
theorem at_145_481 : am_at 145 481 = some (.iadd, 482, 0, []) := rfl
set_option maxRecDepth 20000 in
theorem at_145_482 : am_at 145 482 = some (.iaload, 483, 0, []) := rfl
set_option maxRecDepth 20000 in
theorem at_145_483 : am_at 145 483 = some (.aload_n 0, 484, 0, []) := rfl
set_option maxRecDepth 20000 in
theorem at_145_484 : am_at 145 484 = some (.iload_n 3, 485, 3, []) := rfl
set_option maxRecDepth 20000 in
theorem at_145_485 : am_at 145 485 = some (.iconst 2, 486, 2, []) := rfl
set_option maxRecDepth 20000 in
theorem at_145_486 : am_at 145 486 = some (.iadd, 487, 0, []) := rfl
set_option maxRecDepth 20000 in
theorem at_145_487 : am_at 145 487 = some (.iaload, 488, 0, []) := rfl
set_option maxRecDepth 20000 in
theorem at_145_488 : am_at 145 488 = some (.aload_n 0, 489, 0, []) := rfl
set_option maxRecDepth 20000 in
theorem at_145_489 : am_at 145 489 = some (.iload_n 3, 490, 3, []) := rfl
set_option maxRecDepth 20000 in
theorem at_145_490 : am_at 145 490 = some (.iconst 3, 491, 3, []) := rfl
set_option maxRecDepth 20000 in
theorem at_145_491 : am_at 145 491 = some (.iadd, 492, 0, []) := rfl
set_option maxRecDepth 20000 in
theorem at_145_492 : am_at 145 492 = some (.iaload, 493, 0, []) := rfl
set_option maxRecDepth 20000 in
theorem at_145_493 : am_at 145 493 = some (.i2l, 494, 0, []) := rfl
set_option maxRecDepth 20000 in
theorem at_145_494 : am_at 145 494 = some (.bipush 32, 496, 32, []) := rfl
set_option maxRecDepth 20000 in
theorem at_145_496 : am_at 145 496 = some (.lshl, 497, 0, []) := rfl
set_option maxRecDepth 20000 in
theorem at_145_497 : am_at 145 497 = some (.aload_n 0, 498, 0, []) := rfl
set_option maxRecDepth 20000 in
theorem at_145_498 : am_at 145 498 = some (.iload_n 3, 499, 3, []) := rfl
set_option maxRecDepth 20000 in
theorem at_145_499 : am_at 145 499 = some (.iconst 4, 500, 4, []) := rfl
set_option maxRecDepth 20000 in
theorem at_145_500 : am_at 145 500 = some (.iadd, 501, 0, []) := rfl
set_option maxRecDepth 20000 in
theorem at_145_501 : am_at 145 501 = some (.iaload, 502, 0, []) := rfl
set_option maxRecDepth 20000 in
theorem at_145_502 : am_at 145 502 = some (.i2l, 503, 0, []) := rfl
set_option maxRecDepth 20000 in
theorem at_145_503 : am_at 145 503 = some (.ldc2_w 62, 506, 4294967295, [1076]) := rfl
set_option maxRecDepth 20000 in
theorem at_145_506 : am_at 145 506 = some (.land, 507, 0, []) := rfl
set_option maxRecDepth 20000 in
theorem at_145_507 : am_at 145 507 = some (.lor, 508, 0, []) := rfl
set_option maxRecDepth 20000 in
theorem at_145_508 : am_at 145 508 = some (.invokevirtual 64, 511, 80, [0, 3, 7, 642, 643, 644, 55]) := rfl
set_option maxRecDepth 20000 in
theorem at_145_511 : am_at 145 511 = some (.aload_n 2, 512, 2, []) := rfl
set_option maxRecDepth 20000 in
theorem at_145_512 : am_at 145 512 = some (.aload_n 0, 513, 0, []) := rfl
set_option maxRecDepth 20000 in
theorem at_145_513 : am_at 145 513 = some (.iload_n 3, 514, 3, []) := rfl
set_option maxRecDepth 20000 in
theorem at_145_514 : am_at 145 514 = some (.iconst 1, 515, 1, []) := rfl
set_option maxRecDepth 20000 in
theorem at_145_515 : am_at 145 515 = some (.iadd, 516, 0, []) := rfl
set_option maxRecDepth 20000 in
theorem at_145_516 : am_at 145 516 = some (.iaload, 517, 0, []) := rfl
set_option maxRecDepth 20000 in
theorem at_145_517 : am_at 145 517 = some (.aload_n 0, 518, 0, []) := rfl
set_option maxRecDepth 20000 in
theorem at_145_518 : am_at 145 518 = some (.iload_n 3, 519, 3, []) := rfl
set_option maxRecDepth 20000 in
theorem at_145_519 : am_at 145 519 = some (.iconst 2, 520, 2, []) := rfl
set_option maxRecDepth 20000 in
theorem at_145_520 : am_at 145 520 = some (.iadd, 521, 0, []) := rfl
set_option maxRecDepth 20000 in
theorem at_145_521 : am_at 145 521 = some (.iaload, 522, 0, []) := rfl
set_option maxRecDepth 20000 in
theorem at_145_522 : am_at 145 522 = some (.aload_n 0, 523, 0, []) := rfl
set_option maxRecDepth 20000 in
theorem at_145_523 : am_at 145 523 = some (.iload_n 3, 524, 3, []) := rfl
set_option maxRecDepth 20000 in
theorem at_145_524 : am_at 145 524 = some (.iconst 3, 525, 3, []) := rfl
set_option maxRecDepth 20000 in
theorem at_145_525 : am_at 145 525 = some (.iadd, 526, 0, []) := rfl
set_option maxRecDepth 20000 in
theorem at_145_526 : am_at 145 526 = some (.iaload, 527, 0, []) := rfl
set_option maxRecDepth 20000 in
theorem at_145_527 : am_at 145 527 = some (.i2l, 528, 0, []) := rfl
set_option maxRecDepth 20000 in
theorem at_145_528 : am_at 145 528 = some (.bipush 32, 530, 32, []) := rfl
set_option maxRecDepth 20000 in
theorem at_145_530 : am_at 145 530 = some (.lshl, 531, 0, []) := rfl
set_option maxRecDepth 20000 in
theorem at_145_531 : am_at 145 531 = some (.aload_n 0, 532, 0, []) := rfl
set_option maxRecDepth 20000 in
theorem at_145_532 : am_at 145 532 = some (.iload_n 3, 533, 3, []) := rfl
set_option maxRecDepth 20000 in
theorem at_145_533 : am_at 145 533 = some (.iconst 4, 534, 4, []) := rfl
set_option maxRecDepth 20000 in
theorem at_145_534 : am_at 145 534 = some (.iadd, 535, 0, []) := rfl
set_option maxRecDepth 20000 in
theorem at_145_535 : am_at 145 535 = some (.iaload, 536, 0, []) := rfl
set_option maxRecDepth 20000 in
theorem at_145_536 : am_at 145 536 = some (.i2l, 537, 0, []) := rfl
set_option maxRecDepth 20000 in
theorem at_145_537 : am_at 145 537 = some (.ldc2_w 62, 540, 4294967295, [1076]) := rfl
set_option maxRecDepth 20000 in
theorem at_145_540 : am_at 145 540 = some (.land, 541, 0, []) := rfl
set_option maxRecDepth 20000 in
theorem at_145_541 : am_at 145 541 = some (.lor, 542, 0, []) := rfl
set_option maxRecDepth 20000 in
theorem at_145_542 : am_at 145 542 = some (.invokevirtual 68, 545, 135, [0, 3, 8, 1033, 1034, 1035, 60]) := rfl
set_option maxRecDepth 20000 in
theorem at_145_545 : am_at 145 545 = some (.if_icmp .eq 300, 548, 845, []) := rfl
set_option maxRecDepth 20000 in
theorem at_145_548 : am_at 145 548 = some (.iconst 0, 549, 0, []) := rfl
set_option maxRecDepth 20000 in
theorem at_145_549 : am_at 145 549 = some (.ireturn, 550, 0, [1]) := rfl
set_option maxRecDepth 20000 in
theorem at_145_550 : am_at 145 550 = some (.aload_n 1, 551, 1, []) := rfl
set_option maxRecDepth 20000 in
theorem at_145_551 : am_at 145 551 = some (.aload_n 0, 552, 0, []) := rfl
set_option maxRecDepth 20000 in
theorem at_145_552 : am_at 145 552 = some (.iload_n 3, 553, 3, []) := rfl
set_option maxRecDepth 20000 in
theorem at_145_553 : am_at 145 553 = some (.iconst 1, 554, 1, []) := rfl
set_option maxRecDepth 20000 in
theorem at_145_554 : am_at 145 554 = some (.iadd, 555, 0, []) := rfl
set_option maxRecDepth 20000 in
theorem at_145_555 : am_at 145 555 = some (.iaload, 556, 0, []) := rfl
set_option maxRecDepth 20000 in
theorem at_145_556 : am_at 145 556 = some (.aload_n 0, 557, 0, []) := rfl
set_option maxRecDepth 20000 in
theorem at_145_557 : am_at 145 557 = some (.iload_n 3, 558, 3, []) := rfl
set_option maxRecDepth 20000 in
theorem at_145_558 : am_at 145 558 = some (.iconst 2, 559, 2, []) := rfl
set_option maxRecDepth 20000 in
theorem at_145_559 : am_at 145 559 = some (.iadd, 560, 0, []) := rfl
set_option maxRecDepth 20000 in
theorem at_145_560 : am_at 145 560 = some (.iaload, 561, 0, []) := rfl
set_option maxRecDepth 20000 in
theorem at_145_561 : am_at 145 561 = some (.aload_n 0, 562, 0, []) := rfl
set_option maxRecDepth 20000 in
theorem at_145_562 : am_at 145 562 = some (.iload_n 3, 563, 3, []) := rfl
set_option maxRecDepth 20000 in
theorem at_145_563 : am_at 145 563 = some (.iconst 3, 564, 3, []) := rfl
set_option maxRecDepth 20000 in
theorem at_145_564 : am_at 145 564 = some (.iadd, 565, 0, []) := rfl
set_option maxRecDepth 20000 in
theorem at_145_565 : am_at 145 565 = some (.iaload, 566, 0, []) := rfl
set_option maxRecDepth 20000 in
theorem at_145_566 : am_at 145 566 = some (.invokevirtual 69, 569, 83, [0, 3, 7, 655, 656, 657, 55]) := rfl
set_option maxRecDepth 20000 in
theorem at_145_569 : am_at 145 569 = some (.aload_n 2, 570, 2, []) := rfl
set_option maxRecDepth 20000 in
theorem at_145_570 : am_at 145 570 = some (.aload_n 0, 571, 0, []) := rfl
set_option maxRecDepth 20000 in
theorem at_145_571 : am_at 145 571 = some (.iload_n 3, 572, 3, []) := rfl
set_option maxRecDepth 20000 in
theorem at_145_572 : am_at 145 572 = some (.iconst 1, 573, 1, []) := rfl
set_option maxRecDepth 20000 in
theorem at_145_573 : am_at 145 573 = some (.iadd, 574, 0, []) := rfl
set_option maxRecDepth 20000 in
theorem at_145_574 : am_at 145 574 = some (.iaload, 575, 0, []) := rfl
set_option maxRecDepth 20000 in
theorem at_145_575 : am_at 145 575 = some (.aload_n 0, 576, 0, []) := rfl
set_option maxRecDepth 20000 in
theorem at_145_576 : am_at 145 576 = some (.iload_n 3, 577, 3, []) := rfl
set_option maxRecDepth 20000 in
theorem at_145_577 : am_at 145 577 = some (.iconst 2, 578, 2, []) := rfl
set_option maxRecDepth 20000 in
theorem at_145_578 : am_at 145 578 = some (.iadd, 579, 0, []) := rfl
set_option maxRecDepth 20000 in
theorem at_145_579 : am_at 145 579 = some (.iaload, 580, 0, []) := rfl
set_option maxRecDepth 20000 in
theorem at_145_580 : am_at 145 580 = some (.aload_n 0, 581, 0, []) := rfl
set_option maxRecDepth 20000 in
theorem at_145_581 : am_at 145 581 = some (.iload_n 3, 582, 3, []) := rfl
set_option maxRecDepth 20000 in
theorem at_145_582 : am_at 145 582 = some (.iconst 3, 583, 3, []) := rfl
set_option maxRecDepth 20000 in
theorem at_145_583 : am_at 145 583 = some (.iadd, 584, 0, []) := rfl
set_option maxRecDepth 20000 in
theorem at_145_584 : am_at 145 584 = some (.iaload, 585, 0, []) := rfl
set_option maxRecDepth 20000 in
theorem at_145_585 : am_at 145 585 = some (.invokevirtual 73, 588, 136, [0, 3, 8, 1037, 1038, 1039, 60]) := rfl
set_option maxRecDepth 20000 in
theorem at_145_588 : am_at 145 588 = some (.if_icmp .eq 257, 591, 845, []) := rfl
set_option maxRecDepth 20000 in
theorem at_145_591 : am_at 145 591 = some (.iconst 0, 592, 0, []) := rfl
set_option maxRecDepth 20000 in
theorem at_145_592 : am_at 145 592 = some (.ireturn, 593, 0, [1]) := rfl
set_option maxRecDepth 20000 in
theorem at_145_593 : am_at 145 593 = some (.aload_n 1, 594, 1, []) := rfl
set_option maxRecDepth 20000 in
theorem at_145_594 : am_at 145 594 = some (.aload_n 0, 595, 0, []) := rfl
set_option maxRecDepth 20000 in
theorem at_145_595 : am_at 145 595 = some (.iload_n 3, 596, 3, []) := rfl
set_option maxRecDepth 20000 in
theorem at_145_596 : am_at 145 596 = some (.iconst 1, 597, 1, []) := rfl
set_option maxRecDepth 20000 in
theorem at_145_597 : am_at 145 597 = some (.iadd, 598, 0, []) := rfl
set_option maxRecDepth 20000 in
theorem at_145_598 : am_at 145 598 = some (.iaload, 599, 0, []) := rfl
set_option maxRecDepth 20000 in
theorem at_145_599 : am_at 145 599 = some (.aload_n 0, 600, 0, []) := rfl
set_option maxRecDepth 20000 in
theorem at_145_600 : am_at 145 600 = some (.iload_n 3, 601, 3, []) := rfl
set_option maxRecDepth 20000 in
theorem at_145_601 : am_at 145 601 = some (.iconst 2, 602, 2, []) := rfl
set_option maxRecDepth 20000 in
theorem at_145_602 : am_at 145 602 = some (.iadd, 603, 0, []) := rfl
set_option maxRecDepth 20000 in
theorem at_145_603 : am_at 145 603 = some (.iaload, 604, 0, []) := rfl
set_option maxRecDepth 20000 in
theorem at_145_604 : am_at 145 604 = some (.invokevirtual 74, 607, 85, [0, 2, 7, 664, 665, 666, 55]) := rfl
set_option maxRecDepth 20000 in
theorem at_145_607 : am_at 145 607 = some (.aload_n 2, 608, 2, []) := rfl
set_option maxRecDepth 20000 in
theorem at_145_608 : am_at 145 608 = some (.aload_n 0, 609, 0, []) := rfl
set_option maxRecDepth 20000 in
theorem at_145_609 : am_at 145 609 = some (.iload_n 3, 610, 3, []) := rfl
set_option maxRecDepth 20000 in
theorem at_145_610 : am_at 145 610 = some (.iconst 1, 611, 1, []) := rfl
set_option maxRecDepth 20000 in
theorem at_145_611 : am_at 145 611 = some (.iadd, 612, 0, []) := rfl
set_option maxRecDepth 20000 in
theorem at_145_612 : am_at 145 612 = some (.iaload, 613, 0, []) := rfl
set_option maxRecDepth 20000 in
theorem at_145_613 : am_at 145 613 = some (.aload_n 0, 614, 0, []) := rfl
set_option maxRecDepth 20000 in
theorem at_145_614 : am_at 145 614 = some (.iload_n 3, 615, 3, []) := rfl
set_option maxRecDepth 20000 in
theorem at_145_615 : am_at 145 615 = some (.iconst 2, 616, 2, []) := rfl
set_option maxRecDepth 20000 in
theorem at_145_616 : am_at 145 616 = some (.iadd, 617, 0, []) := rfl
set_option maxRecDepth 20000 in
theorem at_145_617 : am_at 145 617 = some (.iaload, 618, 0, []) := rfl
set_option maxRecDepth 20000 in
theorem at_145_618 : am_at 145 618 = some (.invokevirtual 78, 621, 137, [0, 2, 8, 1041, 1042, 1043, 60]) := rfl
set_option maxRecDepth 20000 in
theorem at_145_621 : am_at 145 621 = some (.lcmp, 622, 0, []) := rfl
set_option maxRecDepth 20000 in
theorem at_145_622 : am_at 145 622 = some (.ifCond .eq 223, 625, 845, []) := rfl
set_option maxRecDepth 20000 in
theorem at_145_625 : am_at 145 625 = some (.iconst 0, 626, 0, []) := rfl
set_option maxRecDepth 20000 in
theorem at_145_626 : am_at 145 626 = some (.ireturn, 627, 0, [1]) := rfl
set_option maxRecDepth 20000 in
theorem at_145_627 : am_at 145 627 = some (.aload_n 1, 628, 1, []) := rfl
set_option maxRecDepth 20000 in
theorem at_145_628 : am_at 145 628 = some (.aload_n 0, 629, 0, []) := rfl
set_option maxRecDepth 20000 in
theorem at_145_629 : am_at 145 629 = some (.iload_n 3, 630, 3, []) := rfl
set_option maxRecDepth 20000 in
theorem at_145_630 : am_at 145 630 = some (.iconst 1, 631, 1, []) := rfl
set_option maxRecDepth 20000 in
theorem at_145_631 : am_at 145 631 = some (.iadd, 632, 0, []) := rfl
set_option maxRecDepth 20000 in
theorem at_145_632 : am_at 145 632 = some (.iaload, 633, 0, []) := rfl
set_option maxRecDepth 20000 in
theorem at_145_633 : am_at 145 633 = some (.aload_n 0, 634, 0, []) := rfl
set_option maxRecDepth 20000 in
theorem at_145_634 : am_at 145 634 = some (.iload_n 3, 635, 3, []) := rfl
set_option maxRecDepth 20000 in
theorem at_145_635 : am_at 145 635 = some (.iconst 2, 636, 2, []) := rfl
set_option maxRecDepth 20000 in
theorem at_145_636 : am_at 145 636 = some (.iadd, 637, 0, []) := rfl
set_option maxRecDepth 20000 in
theorem at_145_637 : am_at 145 637 = some (.iaload, 638, 0, []) := rfl
set_option maxRecDepth 20000 in
theorem at_145_638 : am_at 145 638 = some (.aload_n 0, 639, 0, []) := rfl
set_option maxRecDepth 20000 in
theorem at_145_639 : am_at 145 639 = some (.iload_n 3, 640, 3, []) := rfl
set_option maxRecDepth 20000 in
theorem at_145_640 : am_at 145 640 = some (.iconst 3, 641, 3, []) := rfl
set_option maxRecDepth 20000 in
theorem at_145_641 : am_at 145 641 = some (.iadd, 642, 0, []) := rfl
set_option maxRecDepth 20000 in
theorem at_145_642 : am_at 145 642 = some (.iaload, 643, 0, []) := rfl
set_option maxRecDepth 20000 in
theorem at_145_643 : am_at 145 643 = some (.invokevirtual 79, 646, 86, [0, 3, 7, 669, 670, 671, 55]) := rfl
set_option maxRecDepth 20000 in
theorem at_145_646 : am_at 145 646 = some (.aload_n 2, 647, 2, []) := rfl
set_option maxRecDepth 20000 in
theorem at_145_647 : am_at 145 647 = some (.aload_n 0, 648, 0, []) := rfl
set_option maxRecDepth 20000 in
theorem at_145_648 : am_at 145 648 = some (.iload_n 3, 649, 3, []) := rfl
set_option maxRecDepth 20000 in
theorem at_145_649 : am_at 145 649 = some (.iconst 1, 650, 1, []) := rfl
set_option maxRecDepth 20000 in
theorem at_145_650 : am_at 145 650 = some (.iadd, 651, 0, []) := rfl
set_option maxRecDepth 20000 in
theorem at_145_651 : am_at 145 651 = some (.iaload, 652, 0, []) := rfl
set_option maxRecDepth 20000 in
theorem at_145_652 : am_at 145 652 = some (.aload_n 0, 653, 0, []) := rfl
set_option maxRecDepth 20000 in
theorem at_145_653 : am_at 145 653 = some (.iload_n 3, 654, 3, []) := rfl
set_option maxRecDepth 20000 in
theorem at_145_654 : am_at 145 654 = some (.iconst 2, 655, 2, []) := rfl
set_option maxRecDepth 20000 in
theorem at_145_655 : am_at 145 655 = some (.iadd, 656, 0, []) := rfl
set_option maxRecDepth 20000 in
theorem at_145_656 : am_at 145 656 = some (.iaload, 657, 0, []) := rfl
set_option maxRecDepth 20000 in
theorem at_145_657 : am_at 145 657 = some (.aload_n 0, 658, 0, []) := rfl
set_option maxRecDepth 20000 in
theorem at_145_658 : am_at 145 658 = some (.iload_n 3, 659, 3, []) := rfl
set_option maxRecDepth 20000 in
theorem at_145_659 : am_at 145 659 = some (.iconst 3, 660, 3, []) := rfl
set_option maxRecDepth 20000 in
theorem at_145_660 : am_at 145 660 = some (.iadd, 661, 0, []) := rfl
set_option maxRecDepth 20000 in
theorem at_145_661 : am_at 145 661 = some (.iaload, 662, 0, []) := rfl
set_option maxRecDepth 20000 in
theorem at_145_662 : am_at 145 662 = some (.invokevirtual 82, 665, 138, [0, 3, 8, 1046, 1047, 1048, 60]) := rfl
set_option maxRecDepth 20000 in
theorem at_145_665 : am_at 145 665 = some (.if_icmp .eq 180, 668, 845, []) := rfl
set_option maxRecDepth 20000 in
theorem at_145_668 : am_at 145 668 = some (.iconst 0, 669, 0, []) := rfl
set_option maxRecDepth 20000 in
theorem at_145_669 : am_at 145 669 = some (.ireturn, 670, 0, [1]) := rfl
set_option maxRecDepth 20000 in
theorem at_145_670 : am_at 145 670 = some (.aload_n 1, 671, 1, []) := rfl
set_option maxRecDepth 20000 in
theorem at_145_671 : am_at 145 671 = some (.aload_n 0, 672, 0, []) := rfl
set_option maxRecDepth 20000 in
theorem at_145_672 : am_at 145 672 = some (.iload_n 3, 673, 3, []) := rfl
set_option maxRecDepth 20000 in
theorem at_145_673 : am_at 145 673 = some (.iconst 1, 674, 1, []) := rfl
set_option maxRecDepth 20000 in
theorem at_145_674 : am_at 145 674 = some (.iadd, 675, 0, []) := rfl
set_option maxRecDepth 20000 in
theorem at_145_675 : am_at 145 675 = some (.iaload, 676, 0, []) := rfl
set_option maxRecDepth 20000 in
theorem at_145_676 : am_at 145 676 = some (.aload_n 0, 677, 0, []) := rfl
set_option maxRecDepth 20000 in
theorem at_145_677 : am_at 145 677 = some (.iload_n 3, 678, 3, []) := rfl
set_option maxRecDepth 20000 in
theorem at_145_678 : am_at 145 678 = some (.iconst 2, 679, 2, []) := rfl
set_option maxRecDepth 20000 in
theorem at_145_679 : am_at 145 679 = some (.iadd, 680, 0, []) := rfl
set_option maxRecDepth 20000 in
theorem at_145_680 : am_at 145 680 = some (.iaload, 681, 0, []) := rfl
set_option maxRecDepth 20000 in
theorem at_145_681 : am_at 145 681 = some (.invokevirtual 83, 684, 88, [0, 2, 7, 678, 679, 680, 55]) := rfl
set_option maxRecDepth 20000 in
theorem at_145_684 : am_at 145 684 = some (.aload_n 2, 685, 2, []) := rfl
set_option maxRecDepth 20000 in
theorem at_145_685 : am_at 145 685 = some (.aload_n 0, 686, 0, []) := rfl
set_option maxRecDepth 20000 in
theorem at_145_686 : am_at 145 686 = some (.iload_n 3, 687, 3, []) := rfl
set_option maxRecDepth 20000 in
theorem at_145_687 : am_at 145 687 = some (.iconst 1, 688, 1, []) := rfl
set_option maxRecDepth 20000 in
theorem at_145_688 : am_at 145 688 = some (.iadd, 689, 0, []) := rfl
set_option maxRecDepth 20000 in
theorem at_145_689 : am_at 145 689 = some (.iaload, 690, 0, []) := rfl
set_option maxRecDepth 20000 in
theorem at_145_690 : am_at 145 690 = some (.aload_n 0, 691, 0, []) := rfl
set_option maxRecDepth 20000 in
theorem at_145_691 : am_at 145 691 = some (.iload_n 3, 692, 3, []) := rfl
set_option maxRecDepth 20000 in
theorem at_145_692 : am_at 145 692 = some (.iconst 2, 693, 2, []) := rfl
set_option maxRecDepth 20000 in
theorem at_145_693 : am_at 145 693 = some (.iadd, 694, 0, []) := rfl
set_option maxRecDepth 20000 in
theorem at_145_694 : am_at 145 694 = some (.iaload, 695, 0, []) := rfl
set_option maxRecDepth 20000 in
theorem at_145_695 : am_at 145 695 = some (.invokevirtual 86, 698, 140, [0, 2, 8, 1054, 1055, 1056, 60]) := rfl
set_option maxRecDepth 20000 in
theorem at_145_698 : am_at 145 698 = some (.if_icmp .eq 147, 701, 845, []) := rfl
set_option maxRecDepth 20000 in
theorem at_145_701 : am_at 145 701 = some (.iconst 0, 702, 0, []) := rfl
set_option maxRecDepth 20000 in
theorem at_145_702 : am_at 145 702 = some (.ireturn, 703, 0, [1]) := rfl
set_option maxRecDepth 20000 in
theorem at_145_703 : am_at 145 703 = some (.aload_n 1, 704, 1, []) := rfl
set_option maxRecDepth 20000 in
theorem at_145_704 : am_at 145 704 = some (.aload_n 0, 705, 0, []) := rfl
set_option maxRecDepth 20000 in
theorem at_145_705 : am_at 145 705 = some (.iload_n 3, 706, 3, []) := rfl
set_option maxRecDepth 20000 in
theorem at_145_706 : am_at 145 706 = some (.iconst 1, 707, 1, []) := rfl
set_option maxRecDepth 20000 in
theorem at_145_707 : am_at 145 707 = some (.iadd, 708, 0, []) := rfl
set_option maxRecDepth 20000 in
theorem at_145_708 : am_at 145 708 = some (.iaload, 709, 0, []) := rfl
set_option maxRecDepth 20000 in
theorem at_145_709 : am_at 145 709 = some (.aload_n 0, 710, 0, []) := rfl
set_option maxRecDepth 20000 in
theorem at_145_710 : am_at 145 710 = some (.iload_n 3, 711, 3, []) := rfl
set_option maxRecDepth 20000 in
theorem at_145_711 : am_at 145 711 = some (.iconst 2, 712, 2, []) := rfl
set_option maxRecDepth 20000 in
theorem at_145_712 : am_at 145 712 = some (.iadd, 713, 0, []) := rfl
set_option maxRecDepth 20000 in
theorem at_145_713 : am_at 145 713 = some (.iaload, 714, 0, []) := rfl
set_option maxRecDepth 20000 in
theorem at_145_714 : am_at 145 714 = some (.aload_n 0, 715, 0, []) := rfl
set_option maxRecDepth 20000 in
theorem at_145_715 : am_at 145 715 = some (.iload_n 3, 716, 3, []) := rfl
set_option maxRecDepth 20000 in
theorem at_145_716 : am_at 145 716 = some (.iconst 3, 717, 3, []) := rfl
set_option maxRecDepth 20000 in
theorem at_145_717 : am_at 145 717 = some (.iadd, 718, 0, []) := rfl
set_option maxRecDepth 20000 in
theorem at_145_718 : am_at 145 718 = some (.iaload, 719, 0, []) := rfl
set_option maxRecDepth 20000 in
theorem at_145_719 : am_at 145 719 = some (.invokevirtual 87, 722, 90, [0, 3, 7, 686, 687, 688, 55]) := rfl
set_option maxRecDepth 20000 in
theorem at_145_722 : am_at 145 722 = some (.aload_n 2, 723, 2, []) := rfl
set_option maxRecDepth 20000 in
theorem at_145_723 : am_at 145 723 = some (.aload_n 0, 724, 0, []) := rfl
set_option maxRecDepth 20000 in
theorem at_145_724 : am_at 145 724 = some (.iload_n 3, 725, 3, []) := rfl
set_option maxRecDepth 20000 in
theorem at_145_725 : am_at 145 725 = some (.iconst 1, 726, 1, []) := rfl
set_option maxRecDepth 20000 in
theorem at_145_726 : am_at 145 726 = some (.iadd, 727, 0, []) := rfl
set_option maxRecDepth 20000 in
theorem at_145_727 : am_at 145 727 = some (.iaload, 728, 0, []) := rfl
set_option maxRecDepth 20000 in
theorem at_145_728 : am_at 145 728 = some (.aload_n 0, 729, 0, []) := rfl
set_option maxRecDepth 20000 in
theorem at_145_729 : am_at 145 729 = some (.iload_n 3, 730, 3, []) := rfl
set_option maxRecDepth 20000 in
theorem at_145_730 : am_at 145 730 = some (.iconst 2, 731, 2, []) := rfl
set_option maxRecDepth 20000 in
theorem at_145_731 : am_at 145 731 = some (.iadd, 732, 0, []) := rfl
set_option maxRecDepth 20000 in
theorem at_145_732 : am_at 145 732 = some (.iaload, 733, 0, []) := rfl
set_option maxRecDepth 20000 in
theorem at_145_733 : am_at 145 733 = some (.aload_n 0, 734, 0, []) := rfl
set_option maxRecDepth 20000 in
theorem at_145_734 : am_at 145 734 = some (.iload_n 3, 735, 3, []) := rfl
set_option maxRecDepth 20000 in
theorem at_145_735 : am_at 145 735 = some (.iconst 3, 736, 3, []) := rfl
set_option maxRecDepth 20000 in
theorem at_145_736 : am_at 145 736 = some (.iadd, 737, 0, []) := rfl
set_option maxRecDepth 20000 in
theorem at_145_737 : am_at 145 737 = some (.iaload, 738, 0, []) := rfl
set_option maxRecDepth 20000 in
theorem at_145_738 : am_at 145 738 = some (.invokevirtual 90, 741, 141, [0, 3, 8, 1058, 1059, 1060, 60]) := rfl
set_option maxRecDepth 20000 in
theorem at_145_741 : am_at 145 741 = some (.if_icmp .eq 104, 744, 845, []) := rfl
set_option maxRecDepth 20000 in
theorem at_145_744 : am_at 145 744 = some (.iconst 0, 745, 0, []) := rfl
set_option maxRecDepth 20000 in
theorem at_145_745 : am_at 145 745 = some (.ireturn, 746, 0, [1]) := rfl
set_option maxRecDepth 20000 in
theorem at_145_746 : am_at 145 746 = some (.aload_n 1, 747, 1, []) := rfl
set_option maxRecDepth 20000 in
theorem at_145_747 : am_at 145 747 = some (.aload_n 0, 748, 0, []) := rfl
set_option maxRecDepth 20000 in
theorem at_145_748 : am_at 145 748 = some (.iload_n 3, 749, 3, []) := rfl
set_option maxRecDepth 20000 in
theorem at_145_749 : am_at 145 749 = some (.iconst 1, 750, 1, []) := rfl
set_option maxRecDepth 20000 in
theorem at_145_750 : am_at 145 750 = some (.iadd, 751, 0, []) := rfl
set_option maxRecDepth 20000 in
theorem at_145_751 : am_at 145 751 = some (.iaload, 752, 0, []) := rfl
set_option maxRecDepth 20000 in
theorem at_145_752 : am_at 145 752 = some (.aload_n 0, 753, 0, []) := rfl
set_option maxRecDepth 20000 in
theorem at_145_753 : am_at 145 753 = some (.iload_n 3, 754, 3, []) := rfl
set_option maxRecDepth 20000 in
theorem at_145_754 : am_at 145 754 = some (.iconst 2, 755, 2, []) := rfl
set_option maxRecDepth 20000 in
theorem at_145_755 : am_at 145 755 = some (.iadd, 756, 0, []) := rfl
set_option maxRecDepth 20000 in
theorem at_145_756 : am_at 145 756 = some (.iaload, 757, 0, []) := rfl
set_option maxRecDepth 20000 in
theorem at_145_757 : am_at 145 757 = some (.invokevirtual 91, 760, 91, [0, 2, 7, 691, 692, 693, 55]) := rfl
set_option maxRecDepth 20000 in
theorem at_145_760 : am_at 145 760 = some (.aload_n 2, 761, 2, []) := rfl
set_option maxRecDepth 20000 in
theorem at_145_761 : am_at 145 761 = some (.aload_n 0, 762, 0, []) := rfl
set_option maxRecDepth 20000 in
theorem at_145_762 : am_at 145 762 = some (.iload_n 3, 763, 3, []) := rfl
set_option maxRecDepth 20000 in
theorem at_145_763 : am_at 145 763 = some (.iconst 1, 764, 1, []) := rfl
set_option maxRecDepth 20000 in
theorem at_145_764 : am_at 145 764 = some (.iadd, 765, 0, []) := rfl
set_option maxRecDepth 20000 in
theorem at_145_765 : am_at 145 765 = some (.iaload, 766, 0, []) := rfl
set_option maxRecDepth 20000 in
theorem at_145_766 : am_at 145 766 = some (.aload_n 0, 767, 0, []) := rfl
set_option maxRecDepth 20000 in
theorem at_145_767 : am_at 145 767 = some (.iload_n 3, 768, 3, []) := rfl
set_option maxRecDepth 20000 in
theorem at_145_768 : am_at 145 768 = some (.iconst 2, 769, 2, []) := rfl
set_option maxRecDepth 20000 in
theorem at_145_769 : am_at 145 769 = some (.iadd, 770, 0, []) := rfl
set_option maxRecDepth 20000 in
theorem at_145_770 : am_at 145 770 = some (.iaload, 771, 0, []) := rfl
set_option maxRecDepth 20000 in
theorem at_145_771 : am_at 145 771 = some (.invokevirtual 94, 774, 142, [0, 2, 8, 1062, 1063, 1064, 60]) := rfl
set_option maxRecDepth 20000 in
theorem at_145_774 : am_at 145 774 = some (.if_icmp .eq 71, 777, 845, []) := rfl
set_option maxRecDepth 20000 in
theorem at_145_777 : am_at 145 777 = some (.iconst 0, 778, 0, []) := rfl
set_option maxRecDepth 20000 in
theorem at_145_778 : am_at 145 778 = some (.ireturn, 779, 0, [1]) := rfl
set_option maxRecDepth 20000 in
theorem at_145_779 : am_at 145 779 = some (.aload_n 1, 780, 1, []) := rfl
set_option maxRecDepth 20000 in
theorem at_145_780 : am_at 145 780 = some (.aload_n 0, 781, 0, []) := rfl
set_option maxRecDepth 20000 in
theorem at_145_781 : am_at 145 781 = some (.iload_n 3, 782, 3, []) := rfl
set_option maxRecDepth 20000 in
theorem at_145_782 : am_at 145 782 = some (.iconst 1, 783, 1, []) := rfl
set_option maxRecDepth 20000 in
theorem at_145_783 : am_at 145 783 = some (.iadd, 784, 0, []) := rfl
set_option maxRecDepth 20000 in
theorem at_145_784 : am_at 145 784 = some (.iaload, 785, 0, []) := rfl
set_option maxRecDepth 20000 in
theorem at_145_785 : am_at 145 785 = some (.invokevirtual 95, 788, 92, [0, 1, 7, 695, 696, 697, 55]) := rfl
set_option maxRecDepth 20000 in
theorem at_145_788 : am_at 145 788 = some (.aload_n 2, 789, 2, []) := rfl
set_option maxRecDepth 20000 in
theorem at_145_789 : am_at 145 789 = some (.aload_n 0, 790, 0, []) := rfl
set_option maxRecDepth 20000 in
theorem at_145_790 : am_at 145 790 = some (.iload_n 3, 791, 3, []) := rfl
set_option maxRecDepth 20000 in
theorem at_145_791 : am_at 145 791 = some (.iconst 1, 792, 1, []) := rfl
set_option maxRecDepth 20000 in
theorem at_145_792 : am_at 145 792 = some (.iadd, 793, 0, []) := rfl
set_option maxRecDepth 20000 in
theorem at_145_793 : am_at 145 793 = some (.iaload, 794, 0, []) := rfl
set_option maxRecDepth 20000 in
theorem at_145_794 : am_at 145 794 = some (.invokevirtual 98, 797, 143, [0, 1, 8, 1067, 1068, 1069, 60]) := rfl
set_option maxRecDepth 20000 in
theorem at_145_797 : am_at 145 797 = some (.if_icmp .eq 48, 800, 845, []) := rfl
set_option maxRecDepth 20000 in
theorem at_145_800 : am_at 145 800 = some (.iconst 0, 801, 0, []) := rfl
set_option maxRecDepth 20000 in
theorem at_145_801 : am_at 145 801 = some (.ireturn, 802, 0, [1]) := rfl
set_option maxRecDepth 20000 in
theorem at_145_802 : am_at 145 802 = some (.aload_n 1, 803, 1, []) := rfl
set_option maxRecDepth 20000 in
theorem at_145_803 : am_at 145 803 = some (.aload_n 0, 804, 0, []) := rfl
set_option maxRecDepth 20000 in
theorem at_145_804 : am_at 145 804 = some (.iload_n 3, 805, 3, []) := rfl
set_option maxRecDepth 20000 in
theorem at_145_805 : am_at 145 805 = some (.iconst 1, 806, 1, []) := rfl
set_option maxRecDepth 20000 in
theorem at_145_806 : am_at 145 806 = some (.iadd, 807, 0, []) := rfl
set_option maxRecDepth 20000 in
theorem at_145_807 : am_at 145 807 = some (.iaload, 808, 0, []) := rfl
set_option maxRecDepth 20000 in
theorem at_145_808 : am_at 145 808 = some (.aload_n 0, 809, 0, []) := rfl
set_option maxRecDepth 20000 in
theorem at_145_809 : am_at 145 809 = some (.iload_n 3, 810, 3, []) := rfl
set_option maxRecDepth 20000 in
theorem at_145_810 : am_at 145 810 = some (.iconst 2, 811, 2, []) := rfl
set_option maxRecDepth 20000 in
theorem at_145_811 : am_at 145 811 = some (.iadd, 812, 0, []) := rfl
set_option maxRecDepth 20000 in
theorem at_145_812 : am_at 145 812 = some (.iaload, 813, 0, []) := rfl
set_option maxRecDepth 20000 in
theorem at_145_813 : am_at 145 813 = some (.aload_n 0, 814, 0, []) := rfl
set_option maxRecDepth 20000 in
theorem at_145_814 : am_at 145 814 = some (.iload_n 3, 815, 3, []) := rfl
set_option maxRecDepth 20000 in
theorem at_145_815 : am_at 145 815 = some (.iconst 3, 816, 3, []) := rfl
set_option maxRecDepth 20000 in
theorem at_145_816 : am_at 145 816 = some (.iadd, 817, 0, []) := rfl
set_option maxRecDepth 20000 in
theorem at_145_817 : am_at 145 817 = some (.iaload, 818, 0, []) := rfl
set_option maxRecDepth 20000 in
theorem at_145_818 : am_at 145 818 = some (.invokevirtual 99, 821, 93, [0, 3, 7, 699, 700, 701, 55]) := rfl
set_option maxRecDepth 20000 in
theorem at_145_821 : am_at 145 821 = some (.aload_n 2, 822, 2, []) := rfl
set_option maxRecDepth 20000 in
theorem at_145_822 : am_at 145 822 = some (.aload_n 0, 823, 0, []) := rfl
set_option maxRecDepth 20000 in
theorem at_145_823 : am_at 145 823 = some (.iload_n 3, 824, 3, []) := rfl
set_option maxRecDepth 20000 in
theorem at_145_824 : am_at 145 824 = some (.iconst 1, 825, 1, []) := rfl
set_option maxRecDepth 20000 in
theorem at_145_825 : am_at 145 825 = some (.iadd, 826, 0, []) := rfl
set_option maxRecDepth 20000 in
theorem at_145_826 : am_at 145 826 = some (.iaload, 827, 0, []) := rfl
set_option maxRecDepth 20000 in
theorem at_145_827 : am_at 145 827 = some (.aload_n 0, 828, 0, []) := rfl
set_option maxRecDepth 20000 in
theorem at_145_828 : am_at 145 828 = some (.iload_n 3, 829, 3, []) := rfl
set_option maxRecDepth 20000 in
theorem at_145_829 : am_at 145 829 = some (.iconst 2, 830, 2, []) := rfl
set_option maxRecDepth 20000 in
theorem at_145_830 : am_at 145 830 = some (.iadd, 831, 0, []) := rfl
set_option maxRecDepth 20000 in
theorem at_145_831 : am_at 145 831 = some (.iaload, 832, 0, []) := rfl
set_option maxRecDepth 20000 in
theorem at_145_832 : am_at 145 832 = some (.aload_n 0, 833, 0, []) := rfl
set_option maxRecDepth 20000 in
theorem at_145_833 : am_at 145 833 = some (.iload_n 3, 834, 3, []) := rfl
set_option maxRecDepth 20000 in
theorem at_145_834 : am_at 145 834 = some (.iconst 3, 835, 3, []) := rfl
set_option maxRecDepth 20000 in
theorem at_145_835 : am_at 145 835 = some (.iadd, 836, 0, []) := rfl
set_option maxRecDepth 20000 in
theorem at_145_836 : am_at 145 836 = some (.iaload, 837, 0, []) := rfl
set_option maxRecDepth 20000 in
theorem at_145_837 : am_at 145 837 = some (.invokevirtual 102, 840, 144, [0, 3, 8, 1071, 1072, 1073, 60]) := rfl
set_option maxRecDepth 20000 in
theorem at_145_840 : am_at 145 840 = some (.if_icmp .eq 5, 843, 845, []) := rfl
set_option maxRecDepth 20000 in
theorem at_145_843 : am_at 145 843 = some (.iconst 0, 844, 0, []) := rfl
set_option maxRecDepth 20000 in
theorem at_145_844 : am_at 145 844 = some (.ireturn, 845, 0, [1]) := rfl
set_option maxRecDepth 20000 in
theorem at_145_845 : am_at 145 845 = some (.iinc 3 5, 848, 3, []) := rfl
set_option maxRecDepth 20000 in
theorem at_145_848 : am_at 145 848 = some (.goto (-830), 851, 18, []) := rfl
set_option maxRecDepth 20000 in
theorem at_145_851 : am_at 145 851 = some (.iconst 1, 852, 1, []) := rfl
set_option maxRecDepth 20000 in
theorem at_145_852 : am_at 145 852 = some (.ireturn, 853, 0, [1]) := rfl
