set_option maxRecDepth 20000 in
theorem gX9_back_X2_become : GoodIn wsX9_back (wsV RX9 206 RX2 yX2_become wsX2_become) := goodIn_app (goodIn_of _ (by decide +kernel)) ggX9_back_X2_become
theorem dX9_back_0 : decode cX9_back 0 = .ok (.iload_n 1, 1) := by decide +kernel
theorem dX9_back_1 : decode cX9_back 1 = .ok (.invokestatic 253, 3) := by decide +kernel
theorem dX9_back_4 : decode cX9_back 4 = .ok (.ifCond .ne 5, 3) := by decide +kernel
theorem dX9_back_7 : decode cX9_back 7 = .ok (.iconst (-1), 1) := by decide +kernel
theorem dX9_back_8 : decode cX9_back 8 = .ok (.ireturn, 1) := by decide +kernel
theorem dX9_back_9 : decode cX9_back 9 = .ok (.aload_n 0, 1) := by decide +kernel
theorem dX9_back_10 : decode cX9_back 10 = .ok (.getfield 84, 3) := by decide +kernel
theorem dX9_back_13 : decode cX9_back 13 = .ok (.iload_n 1, 1) := by decide +kernel
theorem dX9_back_14 : decode cX9_back 14 = .ok (.baload, 1) := by decide +kernel
theorem dX9_back_15 : decode cX9_back 15 = .ok (.ifCond .ne 6, 3) := by decide +kernel
theorem dX9_back_18 : decode cX9_back 18 = .ok (.bipush (-2), 2) := by decide +kernel
theorem dX9_back_20 : decode cX9_back 20 = .ok (.ireturn, 1) := by decide +kernel
theorem dX9_back_21 : decode cX9_back 21 = .ok (.aload_n 0, 1) := by decide +kernel
theorem dX9_back_22 : decode cX9_back 22 = .ok (.getfield 73, 3) := by decide +kernel
theorem dX9_back_25 : decode cX9_back 25 = .ok (.aload_n 0, 1) := by decide +kernel
theorem dX9_back_26 : decode cX9_back 26 = .ok (.getfield 80, 3) := by decide +kernel
theorem dX9_back_29 : decode cX9_back 29 = .ok (.iload_n 1, 1) := by decide +kernel
theorem dX9_back_30 : decode cX9_back 30 = .ok (.aaload, 1) := by decide +kernel
theorem dX9_back_31 : decode cX9_back 31 = .ok (.invokevirtual 206, 3) := by decide +kernel
theorem dX9_back_34 : decode cX9_back 34 = .ok (.aload_n 0, 1) := by decide +kernel
theorem dX9_back_35 : decode cX9_back 35 = .ok (.getfield 73, 3) := by decide +kernel
theorem dX9_back_38 : decode cX9_back 38 = .ok (.getfield 174, 3) := by decide +kernel
theorem dX9_back_41 : decode cX9_back 41 = .ok (.ireturn, 1) := by decide +kernel
set_option maxRecDepth 20000 in
theorem ggX9_count_X3_quarrelPairs : GoodIn wsX9_count wsX3_quarrelPairs := goodIn_r _ [10, 11, 12, 13, 14, 15, 16, 17, 18, 19, 34, 35, 36, 37, 38, 39, 40, 41, 42, 43] (by decide +kernel) (by decide +kernel)
set_option maxRecDepth 20000 in
theorem gX9_count_X3_quarrelPairs : GoodIn wsX9_count (wsV RX9 259 RX3 yX3_quarrelPairs wsX3_quarrelPairs) := goodIn_app (goodIn_of _ (by decide +kernel)) ggX9_count_X3_quarrelPairs
theorem dX9_count_0 : decode cX9_count 0 = .ok (.iload_n 1, 1) := by decide +kernel
theorem dX9_count_1 : decode cX9_count 1 = .ok (.tableswitch 63 0 3 #[31, 39, 47, 55], 31) := by decide +kernel
theorem dX9_count_32 : decode cX9_count 32 = .ok (.aload_n 0, 1) := by decide +kernel
theorem dX9_count_33 : decode cX9_count 33 = .ok (.getfield 28, 3) := by decide +kernel
theorem dX9_count_36 : decode cX9_count 36 = .ok (.getfield 223, 3) := by decide +kernel
theorem dX9_count_39 : decode cX9_count 39 = .ok (.ireturn, 1) := by decide +kernel
theorem dX9_count_40 : decode cX9_count 40 = .ok (.aload_n 0, 1) := by decide +kernel
theorem dX9_count_41 : decode cX9_count 41 = .ok (.getfield 28, 3) := by decide +kernel
theorem dX9_count_44 : decode cX9_count 44 = .ok (.getfield 256, 3) := by decide +kernel
theorem dX9_count_47 : decode cX9_count 47 = .ok (.ireturn, 1) := by decide +kernel
theorem dX9_count_48 : decode cX9_count 48 = .ok (.aload_n 0, 1) := by decide +kernel
theorem dX9_count_49 : decode cX9_count 49 = .ok (.getfield 28, 3) := by decide +kernel
theorem dX9_count_52 : decode cX9_count 52 = .ok (.invokevirtual 259, 3) := by decide +kernel
theorem dX9_count_55 : decode cX9_count 55 = .ok (.ireturn, 1) := by decide +kernel
theorem dX9_count_56 : decode cX9_count 56 = .ok (.aload_n 0, 1) := by decide +kernel
theorem dX9_count_57 : decode cX9_count 57 = .ok (.getfield 12, 3) := by decide +kernel
theorem dX9_count_60 : decode cX9_count 60 = .ok (.getfield 107, 3) := by decide +kernel
theorem dX9_count_63 : decode cX9_count 63 = .ok (.ireturn, 1) := by decide +kernel
theorem dX9_count_64 : decode cX9_count 64 = .ok (.iconst (-1), 1) := by decide +kernel
theorem dX9_count_65 : decode cX9_count 65 = .ok (.ireturn, 1) := by decide +kernel
theorem dX9_trace_0 : decode cX9_trace 0 = .ok (.aload_n 0, 1) := by decide +kernel
theorem dX9_trace_1 : decode cX9_trace 1 = .ok (.getfield 88, 3) := by decide +kernel
theorem dX9_trace_4 : decode cX9_trace 4 = .ok (.lreturn, 1) := by decide +kernel
set_option maxRecDepth 20000 in
theorem ggX9_startAnew_X4_list : GoodIn wsX9_startAnew wsX4_list := goodIn_r _ [12, 13, 14, 15, 16, 17, 18, 19, 11, 20, 21, 22, 23, 24, 25, 26, 27, 28, 29, 30, 31, 32, 33, 34, 35, 36, 37, 38, 39, 40, 41, 42, 43, 44, 45, 46, 47, 48, 49, 50, 180, 181, 182, 183, 184, 185, 186, 187, 188, 189, 190, 191, 192, 193, 194, 195, 196, 197] (by decide +kernel) (by decide +kernel)
set_option maxRecDepth 20000 in
theorem gX9_startAnew_X4_list : GoodIn wsX9_startAnew (wsV RX9 262 RX4 yX4_list wsX4_list) := goodIn_app (goodIn_of _ (by decide +kernel)) ggX9_startAnew_X4_list
set_option maxRecDepth 20000 in
theorem ggX9_startAnew_X7_reckon : GoodIn wsX9_startAnew wsX7_reckon := goodIn_r _ [55, 56, 57, 58, 59, 37, 60, 50, 61, 62, 63, 54, 64, 65, 66, 67, 68, 69, 30, 70, 198, 188, 189, 190, 191, 192, 193, 194, 195, 196, 197, 180, 181, 182, 183, 184, 185, 186, 187] (by decide +kernel) (by decide +kernel)
set_option maxRecDepth 20000 in
theorem gX9_startAnew_X7_reckon : GoodIn wsX9_startAnew (wsV RX9 265 RX7 yX7_reckon wsX7_reckon) := goodIn_app (goodIn_of _ (by decide +kernel)) ggX9_startAnew_X7_reckon
set_option maxRecDepth 20000 in
theorem ggX9_startAnew_X0_reckon : GoodIn wsX9_startAnew wsX0_reckon := goodIn_r _ [75, 76, 77, 78, 79, 80, 81, 82, 58, 59, 37, 60, 50, 83, 84, 85, 74, 86, 87, 88, 89, 90, 30, 91, 92, 93, 94, 95, 96, 97, 41, 42, 43, 44, 45, 46, 47, 48, 49, 98, 99, 100, 101, 29, 31, 102, 103, 104, 105, 106, 107, 199, 200, 188, 189, 190, 191, 192, 193, 194, 195, 196, 197] (by decide +kernel) (by decide +kernel)
set_option maxRecDepth 20000 in
theorem gX9_startAnew_X0_reckon : GoodIn wsX9_startAnew (wsV RX9 269 RX0 yX0_reckon wsX0_reckon) := goodIn_app (goodIn_of _ (by decide +kernel)) ggX9_startAnew_X0_reckon
set_option maxRecDepth 20000 in
theorem ggX9_startAnew_X1_reckon : GoodIn wsX9_startAnew wsX1_reckon := goodIn_r _ [112, 113, 114, 115, 116, 117, 118, 119, 120, 121, 122, 79, 80, 81, 123, 124, 125, 111, 126, 127, 128, 129, 130, 131, 132, 133, 134, 135, 136, 137, 138, 139, 140, 141, 142, 143, 144, 145, 146, 147, 148, 201, 202, 203, 204, 205, 180, 181, 182, 183, 184, 185, 186, 187, 188, 189, 190, 191, 192, 193, 194, 195, 196, 197] (by decide +kernel) (by decide +kernel)
set_option maxRecDepth 20000 in
theorem gX9_startAnew_X1_reckon : GoodIn wsX9_startAnew (wsV RX9 271 RX1 yX1_reckon wsX1_reckon) := goodIn_app (goodIn_of _ (by decide +kernel)) ggX9_startAnew_X1_reckon
set_option maxRecDepth 20000 in
theorem ggX9_startAnew_X2_begin : GoodIn wsX9_startAnew wsX2_begin := goodIn_r _ [153, 154, 155, 156, 157, 158, 206, 207, 208, 209, 210, 211, 212] (by decide +kernel) (by decide +kernel)
set_option maxRecDepth 20000 in
theorem gX9_startAnew_X2_begin : GoodIn wsX9_startAnew (wsV RX9 189 RX2 yX2_begin wsX2_begin) := goodIn_app (goodIn_of _ (by decide +kernel)) ggX9_startAnew_X2_begin
set_option maxRecDepth 20000 in
theorem ggX9_startAnew_X2_bearAsTold : GoodIn wsX9_startAnew wsX2_bearAsTold := goodIn_r _ [162, 163, 164, 165, 188, 189, 190, 191, 192, 193, 194, 195, 196, 197, 206, 207, 208, 209, 210, 211, 212] (by decide +kernel) (by decide +kernel)
set_option maxRecDepth 20000 in
theorem gX9_startAnew_X2_bearAsTold : GoodIn wsX9_startAnew (wsV RX9 272 RX2 yX2_bearAsTold wsX2_bearAsTold) := goodIn_app (goodIn_of _ (by decide +kernel)) ggX9_startAnew_X2_bearAsTold
theorem dX9_startAnew_0 : decode cX9_startAnew 0 = .ok (.aload_n 0, 1) := by decide +kernel
theorem dX9_startAnew_1 : decode cX9_startAnew 1 = .ok (.getfield 38, 3) := by decide +kernel
theorem dX9_startAnew_4 : decode cX9_startAnew 4 = .ok (.aload_n 0, 1) := by decide +kernel
theorem dX9_startAnew_5 : decode cX9_startAnew 5 = .ok (.getfield 28, 3) := by decide +kernel
theorem dX9_startAnew_8 : decode cX9_startAnew 8 = .ok (.invokevirtual 262, 3) := by decide +kernel
theorem dX9_startAnew_11 : decode cX9_startAnew 11 = .ok (.aload_n 0, 1) := by decide +kernel
theorem dX9_startAnew_12 : decode cX9_startAnew 12 = .ok (.getfield 45, 3) := by decide +kernel
theorem dX9_startAnew_15 : decode cX9_startAnew 15 = .ok (.aload_n 0, 1) := by decide +kernel
theorem dX9_startAnew_16 : decode cX9_startAnew 16 = .ok (.getfield 28, 3) := by decide +kernel
theorem dX9_startAnew_19 : decode cX9_startAnew 19 = .ok (.aload_n 0, 1) := by decide +kernel
theorem dX9_startAnew_20 : decode cX9_startAnew 20 = .ok (.getfield 38, 3) := by decide +kernel
theorem dX9_startAnew_23 : decode cX9_startAnew 23 = .ok (.invokevirtual 265, 3) := by decide +kernel
theorem dX9_startAnew_26 : decode cX9_startAnew 26 = .ok (.aload_n 0, 1) := by decide +kernel
theorem dX9_startAnew_27 : decode cX9_startAnew 27 = .ok (.getfield 52, 3) := by decide +kernel
theorem dX9_startAnew_30 : decode cX9_startAnew 30 = .ok (.aload_n 0, 1) := by decide +kernel
theorem dX9_startAnew_31 : decode cX9_startAnew 31 = .ok (.getfield 28, 3) := by decide +kernel
theorem dX9_startAnew_34 : decode cX9_startAnew 34 = .ok (.invokevirtual 269, 3) := by decide +kernel
theorem dX9_startAnew_37 : decode cX9_startAnew 37 = .ok (.aload_n 0, 1) := by decide +kernel
theorem dX9_startAnew_38 : decode cX9_startAnew 38 = .ok (.getfield 59, 3) := by decide +kernel
theorem dX9_startAnew_41 : decode cX9_startAnew 41 = .ok (.aload_n 0, 1) := by decide +kernel
theorem dX9_startAnew_42 : decode cX9_startAnew 42 = .ok (.getfield 28, 3) := by decide +kernel
theorem dX9_startAnew_45 : decode cX9_startAnew 45 = .ok (.aload_n 0, 1) := by decide +kernel
theorem dX9_startAnew_46 : decode cX9_startAnew 46 = .ok (.getfield 38, 3) := by decide +kernel
theorem dX9_startAnew_49 : decode cX9_startAnew 49 = .ok (.invokevirtual 271, 3) := by decide +kernel
theorem dX9_startAnew_52 : decode cX9_startAnew 52 = .ok (.aload_n 0, 1) := by decide +kernel
theorem dX9_startAnew_53 : decode cX9_startAnew 53 = .ok (.getfield 73, 3) := by decide +kernel
theorem dX9_startAnew_56 : decode cX9_startAnew 56 = .ok (.invokevirtual 189, 3) := by decide +kernel
theorem dX9_startAnew_59 : decode cX9_startAnew 59 = .ok (.aload_n 0, 1) := by decide +kernel
theorem dX9_startAnew_60 : decode cX9_startAnew 60 = .ok (.getfield 73, 3) := by decide +kernel
theorem dX9_startAnew_63 : decode cX9_startAnew 63 = .ok (.aload_n 0, 1) := by decide +kernel
theorem dX9_startAnew_64 : decode cX9_startAnew 64 = .ok (.getfield 28, 3) := by decide +kernel
theorem dX9_startAnew_67 : decode cX9_startAnew 67 = .ok (.invokevirtual 272, 3) := by decide +kernel
theorem dX9_startAnew_70 : decode cX9_startAnew 70 = .ok (.iconst 0, 1) := by decide +kernel
theorem dX9_startAnew_71 : decode cX9_startAnew 71 = .ok (.istore_n 1, 1) := by decide +kernel
theorem dX9_startAnew_72 : decode cX9_startAnew 72 = .ok (.iload_n 1, 1) := by decide +kernel
theorem dX9_startAnew_73 : decode cX9_startAnew 73 = .ok (.iconst 2, 1) := by decide +kernel
theorem dX9_startAnew_74 : decode cX9_startAnew 74 = .ok (.if_icmp .ge 16, 3) := by decide +kernel
theorem dX9_startAnew_77 : decode cX9_startAnew 77 = .ok (.aload_n 0, 1) := by decide +kernel
theorem dX9_startAnew_78 : decode cX9_startAnew 78 = .ok (.getfield 84, 3) := by decide +kernel
theorem dX9_startAnew_81 : decode cX9_startAnew 81 = .ok (.iload_n 1, 1) := by decide +kernel
theorem dX9_startAnew_82 : decode cX9_startAnew 82 = .ok (.iconst 0, 1) := by decide +kernel
theorem dX9_startAnew_83 : decode cX9_startAnew 83 = .ok (.bastore, 1) := by decide +kernel
theorem dX9_startAnew_84 : decode cX9_startAnew 84 = .ok (.iinc 1 1, 3) := by decide +kernel
theorem dX9_startAnew_87 : decode cX9_startAnew 87 = .ok (.goto (-15), 3) := by decide +kernel
theorem dX9_startAnew_90 : decode cX9_startAnew 90 = .ok (.return_, 1) := by decide +kernel
set_option maxRecDepth 20000 in
theorem ggX9_areTwo_X3_hasHalf : GoodIn wsX9_areTwo wsX3_hasHalf := goodIn_r _ [6, 7, 22, 23, 24, 25, 26, 27, 28, 29, 30, 31] (by decide +kernel) (by decide +kernel)
set_option maxRecDepth 20000 in
theorem gX9_areTwo_X3_hasHalf : GoodIn wsX9_areTwo (wsV RX9 114 RX3 yX3_hasHalf wsX3_hasHalf) := goodIn_app (goodIn_of _ (by decide +kernel)) ggX9_areTwo_X3_hasHalf
theorem dX9_areTwo_0 : decode cX9_areTwo 0 = .ok (.aload_n 0, 1) := by decide +kernel
theorem dX9_areTwo_1 : decode cX9_areTwo 1 = .ok (.getfield 28, 3) := by decide +kernel
theorem dX9_areTwo_4 : decode cX9_areTwo 4 = .ok (.iload_n 1, 1) := by decide +kernel
theorem dX9_areTwo_5 : decode cX9_areTwo 5 = .ok (.invokevirtual 114, 3) := by decide +kernel
theorem dX9_areTwo_8 : decode cX9_areTwo 8 = .ok (.ifCond .eq 23, 3) := by decide +kernel
theorem dX9_areTwo_11 : decode cX9_areTwo 11 = .ok (.aload_n 0, 1) := by decide +kernel
theorem dX9_areTwo_12 : decode cX9_areTwo 12 = .ok (.getfield 28, 3) := by decide +kernel
theorem dX9_areTwo_15 : decode cX9_areTwo 15 = .ok (.iload_n 2, 1) := by decide +kernel
theorem dX9_areTwo_16 : decode cX9_areTwo 16 = .ok (.invokevirtual 114, 3) := by decide +kernel
theorem dX9_areTwo_19 : decode cX9_areTwo 19 = .ok (.ifCond .eq 12, 3) := by decide +kernel
theorem dX9_areTwo_22 : decode cX9_areTwo 22 = .ok (.iload_n 1, 1) := by decide +kernel
theorem dX9_areTwo_23 : decode cX9_areTwo 23 = .ok (.iload_n 2, 1) := by decide +kernel
theorem dX9_areTwo_24 : decode cX9_areTwo 24 = .ok (.if_icmp .eq 7, 3) := by decide +kernel
theorem dX9_areTwo_27 : decode cX9_areTwo 27 = .ok (.iconst 1, 1) := by decide +kernel
theorem dX9_areTwo_28 : decode cX9_areTwo 28 = .ok (.goto 4, 3) := by decide +kernel
theorem dX9_areTwo_31 : decode cX9_areTwo 31 = .ok (.iconst 0, 1) := by decide +kernel
theorem dX9_areTwo_32 : decode cX9_areTwo 32 = .ok (.ireturn, 1) := by decide +kernel
theorem dX9_isImage_0 : decode cX9_isImage 0 = .ok (.iload_n 0, 1) := by decide +kernel
theorem dX9_isImage_1 : decode cX9_isImage 1 = .ok (.ifCond .lt 12, 3) := by decide +kernel
theorem dX9_isImage_4 : decode cX9_isImage 4 = .ok (.iload_n 0, 1) := by decide +kernel
theorem dX9_isImage_5 : decode cX9_isImage 5 = .ok (.iconst 2, 1) := by decide +kernel
theorem dX9_isImage_6 : decode cX9_isImage 6 = .ok (.if_icmp .ge 7, 3) := by decide +kernel
theorem dX9_isImage_9 : decode cX9_isImage 9 = .ok (.iconst 1, 1) := by decide +kernel
theorem dX9_isImage_10 : decode cX9_isImage 10 = .ok (.goto 4, 3) := by decide +kernel
theorem dX9_isImage_13 : decode cX9_isImage 13 = .ok (.iconst 0, 1) := by decide +kernel
theorem dX9_isImage_14 : decode cX9_isImage 14 = .ok (.ireturn, 1) := by decide +kernel
theorem dX9_greatestDivisor_0 : decode cX9_greatestDivisor 0 = .ok (.iload_n 0, 1) := by decide +kernel
theorem dX9_greatestDivisor_1 : decode cX9_greatestDivisor 1 = .ok (.istore_n 2, 1) := by decide +kernel
theorem dX9_greatestDivisor_2 : decode cX9_greatestDivisor 2 = .ok (.iload_n 1, 1) := by decide +kernel
theorem dX9_greatestDivisor_3 : decode cX9_greatestDivisor 3 = .ok (.istore_n 3, 1) := by decide +kernel
theorem dX9_greatestDivisor_4 : decode cX9_greatestDivisor 4 = .ok (.iconst 0, 1) := by decide +kernel
theorem dX9_greatestDivisor_5 : decode cX9_greatestDivisor 5 = .ok (.istore 4, 2) := by decide +kernel
theorem dX9_greatestDivisor_7 : decode cX9_greatestDivisor 7 = .ok (.iload 4, 2) := by decide +kernel
theorem dX9_greatestDivisor_9 : decode cX9_greatestDivisor 9 = .ok (.bipush 100, 2) := by decide +kernel
theorem dX9_greatestDivisor_11 : decode cX9_greatestDivisor 11 = .ok (.if_icmp .ge 23, 3) := by decide +kernel
theorem dX9_greatestDivisor_14 : decode cX9_greatestDivisor 14 = .ok (.iload_n 3, 1) := by decide +kernel
theorem dX9_greatestDivisor_15 : decode cX9_greatestDivisor 15 = .ok (.ifCond .eq 19, 3) := by decide +kernel
theorem dX9_greatestDivisor_18 : decode cX9_greatestDivisor 18 = .ok (.iload_n 2, 1) := by decide +kernel
theorem dX9_greatestDivisor_19 : decode cX9_greatestDivisor 19 = .ok (.iload_n 3, 1) := by decide +kernel
theorem dX9_greatestDivisor_20 : decode cX9_greatestDivisor 20 = .ok (.irem, 1) := by decide +kernel
theorem dX9_greatestDivisor_21 : decode cX9_greatestDivisor 21 = .ok (.istore 5, 2) := by decide +kernel
theorem dX9_greatestDivisor_23 : decode cX9_greatestDivisor 23 = .ok (.iload_n 3, 1) := by decide +kernel
theorem dX9_greatestDivisor_24 : decode cX9_greatestDivisor 24 = .ok (.istore_n 2, 1) := by decide +kernel
theorem dX9_greatestDivisor_25 : decode cX9_greatestDivisor 25 = .ok (.iload 5, 2) := by decide +kernel
theorem dX9_greatestDivisor_27 : decode cX9_greatestDivisor 27 = .ok (.istore_n 3, 1) := by decide +kernel
theorem dX9_greatestDivisor_28 : decode cX9_greatestDivisor 28 = .ok (.iinc 4 1, 3) := by decide +kernel
theorem dX9_greatestDivisor_31 : decode cX9_greatestDivisor 31 = .ok (.goto (-24), 3) := by decide +kernel
theorem dX9_greatestDivisor_34 : decode cX9_greatestDivisor 34 = .ok (.iload_n 2, 1) := by decide +kernel
theorem dX9_greatestDivisor_35 : decode cX9_greatestDivisor 35 = .ok (.ireturn, 1) := by decide +kernel
set_option maxRecDepth 20000 in
theorem ggX9_markAs_X3_hasHalf : GoodIn wsX9_markAs wsX3_hasHalf := goodIn_r _ [15, 16, 41, 42, 43, 44, 45, 46, 47, 48, 49, 50] (by decide +kernel) (by decide +kernel)
set_option maxRecDepth 20000 in
theorem gX9_markAs_X3_hasHalf : GoodIn wsX9_markAs (wsV RX9 114 RX3 yX3_hasHalf wsX3_hasHalf) := goodIn_app (goodIn_of _ (by decide +kernel)) ggX9_markAs_X3_hasHalf
set_option maxRecDepth 20000 in
theorem ggX9_markAs_X9_markAs : GoodIn wsX9_markAs wsX9_markAs := goodIn_r _ [0, 1, 2, 3, 4, 5, 6, 7, 8, 9, 10, 11, 12, 13, 14, 15, 16, 17, 18, 19, 20, 21, 22, 23, 24, 25, 26, 27, 28, 29, 30, 31, 32, 33, 34, 35, 36, 37, 38, 39, 40, 41, 42, 43, 44, 45, 46, 47, 48, 49, 50, 51, 52, 53, 54, 55, 56, 57, 58, 59, 60, 61, 62, 63, 64, 65] (by decide +kernel) (by decide +kernel)
set_option maxRecDepth 20000 in
theorem gX9_markAs_X9_markAs : GoodIn wsX9_markAs (va_wsS RX9 249 yX9_markAs wsX9_markAs) := goodIn_app (goodIn_of _ (by decide +kernel)) ggX9_markAs_X9_markAs
set_option maxRecDepth 20000 in
theorem ggX9_markAs_X4_howManyWith : GoodIn wsX9_markAs wsX4_howManyWith := goodIn_r _ [24, 25, 26, 58, 59, 60, 61, 62, 63, 64, 65] (by decide +kernel) (by decide +kernel)
set_option maxRecDepth 20000 in
theorem gX9_markAs_X4_howManyWith : GoodIn wsX9_markAs (wsV RX9 281 RX4 yX4_howManyWith wsX4_howManyWith) := goodIn_app (goodIn_of _ (by decide +kernel)) ggX9_markAs_X4_howManyWith
theorem dX9_markAs_0 : decode cX9_markAs 0 = .ok (.iload_n 3, 1) := by decide +kernel
theorem dX9_markAs_1 : decode cX9_markAs 1 = .ok (.iconst 5, 1) := by decide +kernel
theorem dX9_markAs_2 : decode cX9_markAs 2 = .ok (.if_icmp .gt 23, 3) := by decide +kernel
theorem dX9_markAs_5 : decode cX9_markAs 5 = .ok (.iload_n 1, 1) := by decide +kernel
theorem dX9_markAs_6 : decode cX9_markAs 6 = .ok (.ifCond .lt 19, 3) := by decide +kernel
theorem dX9_markAs_9 : decode cX9_markAs 9 = .ok (.iload_n 1, 1) := by decide +kernel
theorem dX9_markAs_10 : decode cX9_markAs 10 = .ok (.iconst 5, 1) := by decide +kernel
theorem dX9_markAs_11 : decode cX9_markAs 11 = .ok (.if_icmp .gt 14, 3) := by decide +kernel
theorem dX9_markAs_14 : decode cX9_markAs 14 = .ok (.aload_n 0, 1) := by decide +kernel
theorem dX9_markAs_15 : decode cX9_markAs 15 = .ok (.getfield 28, 3) := by decide +kernel
theorem dX9_markAs_18 : decode cX9_markAs 18 = .ok (.iload_n 2, 1) := by decide +kernel
theorem dX9_markAs_19 : decode cX9_markAs 19 = .ok (.invokevirtual 114, 3) := by decide +kernel
theorem dX9_markAs_22 : decode cX9_markAs 22 = .ok (.ifCond .ne 5, 3) := by decide +kernel
theorem dX9_markAs_25 : decode cX9_markAs 25 = .ok (.iconst 0, 1) := by decide +kernel
theorem dX9_markAs_26 : decode cX9_markAs 26 = .ok (.ireturn, 1) := by decide +kernel
theorem dX9_markAs_27 : decode cX9_markAs 27 = .ok (.aload_n 0, 1) := by decide +kernel
theorem dX9_markAs_28 : decode cX9_markAs 28 = .ok (.dup, 1) := by decide +kernel
theorem dX9_markAs_29 : decode cX9_markAs 29 = .ok (.getfield 88, 3) := by decide +kernel
theorem dX9_markAs_32 : decode cX9_markAs 32 = .ok (.getstatic 275, 3) := by decide +kernel
theorem dX9_markAs_35 : decode cX9_markAs 35 = .ok (.iload_n 1, 1) := by decide +kernel
theorem dX9_markAs_36 : decode cX9_markAs 36 = .ok (.iaload, 1) := by decide +kernel
theorem dX9_markAs_37 : decode cX9_markAs 37 = .ok (.i2l, 1) := by decide +kernel
theorem dX9_markAs_38 : decode cX9_markAs 38 = .ok (.ladd, 1) := by decide +kernel
theorem dX9_markAs_39 : decode cX9_markAs 39 = .ok (.putfield 88, 3) := by decide +kernel
theorem dX9_markAs_42 : decode cX9_markAs 42 = .ok (.iload_n 1, 1) := by decide +kernel
theorem dX9_markAs_43 : decode cX9_markAs 43 = .ok (.ifCond .ne 13, 3) := by decide +kernel
theorem dX9_markAs_46 : decode cX9_markAs 46 = .ok (.aload_n 0, 1) := by decide +kernel
theorem dX9_markAs_47 : decode cX9_markAs 47 = .ok (.getfield 28, 3) := by decide +kernel
theorem dX9_markAs_50 : decode cX9_markAs 50 = .ok (.getfield 125, 3) := by decide +kernel
theorem dX9_markAs_53 : decode cX9_markAs 53 = .ok (.iload_n 2, 1) := by decide +kernel
theorem dX9_markAs_54 : decode cX9_markAs 54 = .ok (.iaload, 1) := by decide +kernel
theorem dX9_markAs_55 : decode cX9_markAs 55 = .ok (.ireturn, 1) := by decide +kernel
theorem dX9_markAs_56 : decode cX9_markAs 56 = .ok (.aload_n 0, 1) := by decide +kernel
theorem dX9_markAs_57 : decode cX9_markAs 57 = .ok (.getstatic 278, 3) := by decide +kernel
theorem dX9_markAs_60 : decode cX9_markAs 60 = .ok (.iload_n 1, 1) := by decide +kernel
theorem dX9_markAs_61 : decode cX9_markAs 61 = .ok (.iaload, 1) := by decide +kernel
theorem dX9_markAs_62 : decode cX9_markAs 62 = .ok (.iload_n 2, 1) := by decide +kernel
theorem dX9_markAs_63 : decode cX9_markAs 63 = .ok (.iload_n 3, 1) := by decide +kernel
theorem dX9_markAs_64 : decode cX9_markAs 64 = .ok (.iconst 1, 1) := by decide +kernel
theorem dX9_markAs_65 : decode cX9_markAs 65 = .ok (.iadd, 1) := by decide +kernel
theorem dX9_markAs_66 : decode cX9_markAs 66 = .ok (.invokestatic 249, 3) := by decide +kernel
theorem dX9_markAs_69 : decode cX9_markAs 69 = .ok (.istore 4, 2) := by decide +kernel
theorem dX9_markAs_71 : decode cX9_markAs 71 = .ok (.iload_n 1, 1) := by decide +kernel
theorem dX9_markAs_72 : decode cX9_markAs 72 = .ok (.tableswitch 75 1 4 #[32, 45, 50, 63], 32) := by decide +kernel
theorem dX9_markAs_104 : decode cX9_markAs 104 = .ok (.iload 4, 2) := by decide +kernel
theorem dX9_markAs_106 : decode cX9_markAs 106 = .ok (.aload_n 0, 1) := by decide +kernel
theorem dX9_markAs_107 : decode cX9_markAs 107 = .ok (.getfield 28, 3) := by decide +kernel
theorem dX9_markAs_110 : decode cX9_markAs 110 = .ok (.getfield 122, 3) := by decide +kernel
theorem dX9_markAs_113 : decode cX9_markAs 113 = .ok (.iload_n 2, 1) := by decide +kernel
theorem dX9_markAs_114 : decode cX9_markAs 114 = .ok (.iaload, 1) := by decide +kernel
theorem dX9_markAs_115 : decode cX9_markAs 115 = .ok (.isub, 1) := by decide +kernel
theorem dX9_markAs_116 : decode cX9_markAs 116 = .ok (.ireturn, 1) := by decide +kernel
theorem dX9_markAs_117 : decode cX9_markAs 117 = .ok (.iload 4, 2) := by decide +kernel
theorem dX9_markAs_119 : decode cX9_markAs 119 = .ok (.iconst 2, 1) := by decide +kernel
theorem dX9_markAs_120 : decode cX9_markAs 120 = .ok (.imul, 1) := by decide +kernel
theorem dX9_markAs_121 : decode cX9_markAs 121 = .ok (.ireturn, 1) := by decide +kernel
theorem dX9_markAs_122 : decode cX9_markAs 122 = .ok (.iload 4, 2) := by decide +kernel
theorem dX9_markAs_124 : decode cX9_markAs 124 = .ok (.aload_n 0, 1) := by decide +kernel
theorem dX9_markAs_125 : decode cX9_markAs 125 = .ok (.getfield 28, 3) := by decide +kernel
theorem dX9_markAs_128 : decode cX9_markAs 128 = .ok (.getfield 128, 3) := by decide +kernel
theorem dX9_markAs_131 : decode cX9_markAs 131 = .ok (.iload_n 2, 1) := by decide +kernel
theorem dX9_markAs_132 : decode cX9_markAs 132 = .ok (.iaload, 1) := by decide +kernel
theorem dX9_markAs_133 : decode cX9_markAs 133 = .ok (.iadd, 1) := by decide +kernel
theorem dX9_markAs_134 : decode cX9_markAs 134 = .ok (.ireturn, 1) := by decide +kernel
theorem dX9_markAs_135 : decode cX9_markAs 135 = .ok (.iload 4, 2) := by decide +kernel
theorem dX9_markAs_137 : decode cX9_markAs 137 = .ok (.aload_n 0, 1) := by decide +kernel
theorem dX9_markAs_138 : decode cX9_markAs 138 = .ok (.getfield 38, 3) := by decide +kernel
theorem dX9_markAs_141 : decode cX9_markAs 141 = .ok (.iload_n 2, 1) := by decide +kernel
theorem dX9_markAs_142 : decode cX9_markAs 142 = .ok (.invokevirtual 281, 3) := by decide +kernel
theorem dX9_markAs_145 : decode cX9_markAs 145 = .ok (.iadd, 1) := by decide +kernel
theorem dX9_markAs_146 : decode cX9_markAs 146 = .ok (.ireturn, 1) := by decide +kernel
theorem dX9_markAs_147 : decode cX9_markAs 147 = .ok (.iload 4, 2) := by decide +kernel
theorem dX9_markAs_149 : decode cX9_markAs 149 = .ok (.aload_n 0, 1) := by decide +kernel
theorem dX9_markAs_150 : decode cX9_markAs 150 = .ok (.getfield 73, 3) := by decide +kernel
theorem dX9_markAs_153 : decode cX9_markAs 153 = .ok (.getfield 174, 3) := by decide +kernel
theorem dX9_markAs_156 : decode cX9_markAs 156 = .ok (.iadd, 1) := by decide +kernel
theorem dX9_markAs_157 : decode cX9_markAs 157 = .ok (.ireturn, 1) := by decide +kernel
set_option maxRecDepth 20000 in
theorem ggX9_restsFrom_X1_isRest : GoodIn wsX9_restsFrom wsX1_isRest := goodIn_r _ [9, 10, 11, 12, 13, 14, 15, 8, 16, 17, 18, 22, 23, 24, 25, 26, 27, 28, 29, 30, 31, 32, 33, 34] (by decide +kernel) (by decide +kernel)
set_option maxRecDepth 20000 in
theorem gX9_restsFrom_X1_isRest : GoodIn wsX9_restsFrom (wsV RX9 287 RX1 yX1_isRest wsX1_isRest) := goodIn_app (goodIn_of _ (by decide +kernel)) ggX9_restsFrom_X1_isRest
set_option maxRecDepth 20000 in
theorem ggX9_restsFrom_X9_restsFrom : GoodIn wsX9_restsFrom wsX9_restsFrom := goodIn_r _ [0, 1, 2, 3, 4, 5, 6, 7, 8, 9, 10, 11, 12, 13, 14, 15, 16, 17, 18, 19, 20, 21, 22, 23, 24, 25, 26, 27, 28, 29, 30, 31, 32, 33, 34] (by decide +kernel) (by decide +kernel)
set_option maxRecDepth 20000 in
theorem gX9_restsFrom_X9_restsFrom : GoodIn wsX9_restsFrom (va_wsS RX9 291 yX9_restsFrom wsX9_restsFrom) := goodIn_app (goodIn_of _ (by decide +kernel)) ggX9_restsFrom_X9_restsFrom
theorem dX9_restsFrom_0 : decode cX9_restsFrom 0 = .ok (.iload_n 2, 1) := by decide +kernel
theorem dX9_restsFrom_1 : decode cX9_restsFrom 1 = .ok (.aload_n 1, 1) := by decide +kernel
theorem dX9_restsFrom_2 : decode cX9_restsFrom 2 = .ok (.getfield 284, 3) := by decide +kernel
theorem dX9_restsFrom_5 : decode cX9_restsFrom 5 = .ok (.if_icmp .lt 17, 3) := by decide +kernel
theorem dX9_restsFrom_8 : decode cX9_restsFrom 8 = .ok (.aload_n 0, 1) := by decide +kernel
theorem dX9_restsFrom_9 : decode cX9_restsFrom 9 = .ok (.aload_n 1, 1) := by decide +kernel
theorem dX9_restsFrom_10 : decode cX9_restsFrom 10 = .ok (.invokevirtual 287, 3) := by decide +kernel
theorem dX9_restsFrom_13 : decode cX9_restsFrom 13 = .ok (.ifCond .eq 7, 3) := by decide +kernel
theorem dX9_restsFrom_16 : decode cX9_restsFrom 16 = .ok (.iconst 1, 1) := by decide +kernel
theorem dX9_restsFrom_17 : decode cX9_restsFrom 17 = .ok (.goto 4, 3) := by decide +kernel
theorem dX9_restsFrom_20 : decode cX9_restsFrom 20 = .ok (.iconst 0, 1) := by decide +kernel
theorem dX9_restsFrom_21 : decode cX9_restsFrom 21 = .ok (.ireturn, 1) := by decide +kernel
theorem dX9_restsFrom_22 : decode cX9_restsFrom 22 = .ok (.aload_n 0, 1) := by decide +kernel
theorem dX9_restsFrom_23 : decode cX9_restsFrom 23 = .ok (.aload_n 1, 1) := by decide +kernel
theorem dX9_restsFrom_24 : decode cX9_restsFrom 24 = .ok (.iload_n 2, 1) := by decide +kernel
theorem dX9_restsFrom_25 : decode cX9_restsFrom 25 = .ok (.iconst 1, 1) := by decide +kernel
theorem dX9_restsFrom_26 : decode cX9_restsFrom 26 = .ok (.iadd, 1) := by decide +kernel
theorem dX9_restsFrom_27 : decode cX9_restsFrom 27 = .ok (.invokestatic 291, 3) := by decide +kernel
theorem dX9_restsFrom_30 : decode cX9_restsFrom 30 = .ok (.istore_n 3, 1) := by decide +kernel
theorem dX9_restsFrom_31 : decode cX9_restsFrom 31 = .ok (.aload_n 1, 1) := by decide +kernel
theorem dX9_restsFrom_32 : decode cX9_restsFrom 32 = .ok (.getfield 295, 3) := by decide +kernel
theorem dX9_restsFrom_35 : decode cX9_restsFrom 35 = .ok (.iload_n 2, 1) := by decide +kernel
theorem dX9_restsFrom_36 : decode cX9_restsFrom 36 = .ok (.iaload, 1) := by decide +kernel
theorem dX9_restsFrom_37 : decode cX9_restsFrom 37 = .ok (.istore 4, 2) := by decide +kernel
theorem dX9_restsFrom_39 : decode cX9_restsFrom 39 = .ok (.aload_n 1, 1) := by decide +kernel
theorem dX9_restsFrom_40 : decode cX9_restsFrom 40 = .ok (.getfield 298, 3) := by decide +kernel
theorem dX9_restsFrom_43 : decode cX9_restsFrom 43 = .ok (.iload_n 2, 1) := by decide +kernel
theorem dX9_restsFrom_44 : decode cX9_restsFrom 44 = .ok (.iaload, 1) := by decide +kernel
theorem dX9_restsFrom_45 : decode cX9_restsFrom 45 = .ok (.istore 5, 2) := by decide +kernel
theorem dX9_restsFrom_47 : decode cX9_restsFrom 47 = .ok (.aload_n 0, 1) := by decide +kernel
theorem dX9_restsFrom_48 : decode cX9_restsFrom 48 = .ok (.getfield 301, 3) := by decide +kernel
theorem dX9_restsFrom_51 : decode cX9_restsFrom 51 = .ok (.iload 4, 2) := by decide +kernel
theorem dX9_restsFrom_53 : decode cX9_restsFrom 53 = .ok (.iaload, 1) := by decide +kernel
theorem dX9_restsFrom_54 : decode cX9_restsFrom 54 = .ok (.iconst (-1), 1) := by decide +kernel
theorem dX9_restsFrom_55 : decode cX9_restsFrom 55 = .ok (.if_icmp .ne 59, 3) := by decide +kernel
theorem dX9_restsFrom_58 : decode cX9_restsFrom 58 = .ok (.aload_n 0, 1) := by decide +kernel
theorem dX9_restsFrom_59 : decode cX9_restsFrom 59 = .ok (.getfield 301, 3) := by decide +kernel
theorem dX9_restsFrom_62 : decode cX9_restsFrom 62 = .ok (.iload 5, 2) := by decide +kernel
theorem dX9_restsFrom_64 : decode cX9_restsFrom 64 = .ok (.iaload, 1) := by decide +kernel
theorem dX9_restsFrom_65 : decode cX9_restsFrom 65 = .ok (.iconst (-1), 1) := by decide +kernel
theorem dX9_restsFrom_66 : decode cX9_restsFrom 66 = .ok (.if_icmp .ne 48, 3) := by decide +kernel
theorem dX9_restsFrom_69 : decode cX9_restsFrom 69 = .ok (.aload_n 0, 1) := by decide +kernel
theorem dX9_restsFrom_70 : decode cX9_restsFrom 70 = .ok (.getfield 301, 3) := by decide +kernel
theorem dX9_restsFrom_73 : decode cX9_restsFrom 73 = .ok (.iload 4, 2) := by decide +kernel
theorem dX9_restsFrom_75 : decode cX9_restsFrom 75 = .ok (.iload 5, 2) := by decide +kernel
theorem dX9_restsFrom_77 : decode cX9_restsFrom 77 = .ok (.iastore, 1) := by decide +kernel
theorem dX9_restsFrom_78 : decode cX9_restsFrom 78 = .ok (.aload_n 0, 1) := by decide +kernel
theorem dX9_restsFrom_79 : decode cX9_restsFrom 79 = .ok (.getfield 301, 3) := by decide +kernel
theorem dX9_restsFrom_82 : decode cX9_restsFrom 82 = .ok (.iload 5, 2) := by decide +kernel
theorem dX9_restsFrom_84 : decode cX9_restsFrom 84 = .ok (.iload 4, 2) := by decide +kernel
theorem dX9_restsFrom_86 : decode cX9_restsFrom 86 = .ok (.iastore, 1) := by decide +kernel
theorem dX9_restsFrom_87 : decode cX9_restsFrom 87 = .ok (.iload_n 3, 1) := by decide +kernel
theorem dX9_restsFrom_88 : decode cX9_restsFrom 88 = .ok (.aload_n 0, 1) := by decide +kernel
theorem dX9_restsFrom_89 : decode cX9_restsFrom 89 = .ok (.aload_n 1, 1) := by decide +kernel
theorem dX9_restsFrom_90 : decode cX9_restsFrom 90 = .ok (.iload_n 2, 1) := by decide +kernel
theorem dX9_restsFrom_91 : decode cX9_restsFrom 91 = .ok (.iconst 1, 1) := by decide +kernel
theorem dX9_restsFrom_92 : decode cX9_restsFrom 92 = .ok (.iadd, 1) := by decide +kernel
theorem dX9_restsFrom_93 : decode cX9_restsFrom 93 = .ok (.invokestatic 291, 3) := by decide +kernel
theorem dX9_restsFrom_96 : decode cX9_restsFrom 96 = .ok (.iadd, 1) := by decide +kernel
theorem dX9_restsFrom_97 : decode cX9_restsFrom 97 = .ok (.istore_n 3, 1) := by decide +kernel
theorem dX9_restsFrom_98 : decode cX9_restsFrom 98 = .ok (.aload_n 0, 1) := by decide +kernel
theorem dX9_restsFrom_99 : decode cX9_restsFrom 99 = .ok (.getfield 301, 3) := by decide +kernel
theorem dX9_restsFrom_102 : decode cX9_restsFrom 102 = .ok (.iload 4, 2) := by decide +kernel
theorem dX9_restsFrom_104 : decode cX9_restsFrom 104 = .ok (.iconst (-1), 1) := by decide +kernel
theorem dX9_restsFrom_105 : decode cX9_restsFrom 105 = .ok (.iastore, 1) := by decide +kernel
theorem dX9_restsFrom_106 : decode cX9_restsFrom 106 = .ok (.aload_n 0, 1) := by decide +kernel
theorem dX9_restsFrom_107 : decode cX9_restsFrom 107 = .ok (.getfield 301, 3) := by decide +kernel
theorem dX9_restsFrom_110 : decode cX9_restsFrom 110 = .ok (.iload 5, 2) := by decide +kernel
theorem dX9_restsFrom_112 : decode cX9_restsFrom 112 = .ok (.iconst (-1), 1) := by decide +kernel
theorem dX9_restsFrom_113 : decode cX9_restsFrom 113 = .ok (.iastore, 1) := by decide +kernel
theorem dX9_restsFrom_114 : decode cX9_restsFrom 114 = .ok (.iload_n 3, 1) := by decide +kernel
theorem dX9_restsFrom_115 : decode cX9_restsFrom 115 = .ok (.ireturn, 1) := by decide +kernel
theorem dX10_init_0 : decode cX10_init 0 = .ok (.aload_n 0, 1) := by decide +kernel
theorem dX10_init_1 : decode cX10_init 1 = .ok (.invokespecial 1, 3) := by decide +kernel
theorem dX10_init_4 : decode cX10_init 4 = .ok (.aload_n 0, 1) := by decide +kernel
theorem dX10_init_5 : decode cX10_init 5 = .ok (.sipush 300, 3) := by decide +kernel
theorem dX10_init_8 : decode cX10_init 8 = .ok (.newarray .byte, 2) := by decide +kernel
theorem dX10_init_10 : decode cX10_init 10 = .ok (.putfield 7, 3) := by decide +kernel
theorem dX10_init_13 : decode cX10_init 13 = .ok (.aload_n 0, 1) := by decide +kernel
theorem dX10_init_14 : decode cX10_init 14 = .ok (.iconst 2, 1) := by decide +kernel
theorem dX10_init_15 : decode cX10_init 15 = .ok (.newarray .int, 2) := by decide +kernel
theorem dX10_init_17 : decode cX10_init 17 = .ok (.putfield 13, 3) := by decide +kernel
theorem dX10_init_20 : decode cX10_init 20 = .ok (.aload_n 0, 1) := by decide +kernel
theorem dX10_init_21 : decode cX10_init 21 = .ok (.bipush 16, 2) := by decide +kernel
theorem dX10_init_23 : decode cX10_init 23 = .ok (.newarray .int, 2) := by decide +kernel
theorem dX10_init_25 : decode cX10_init 25 = .ok (.putfield 17, 3) := by decide +kernel
theorem dX10_init_28 : decode cX10_init 28 = .ok (.aload_n 0, 1) := by decide +kernel
theorem dX10_init_29 : decode cX10_init 29 = .ok (.bipush 16, 2) := by decide +kernel
theorem dX10_init_31 : decode cX10_init 31 = .ok (.newarray .int, 2) := by decide +kernel
theorem dX10_init_33 : decode cX10_init 33 = .ok (.putfield 20, 3) := by decide +kernel
theorem dX10_init_36 : decode cX10_init 36 = .ok (.aload_n 0, 1) := by decide +kernel
theorem dX10_init_37 : decode cX10_init 37 = .ok (.bipush 16, 2) := by decide +kernel
theorem dX10_init_39 : decode cX10_init 39 = .ok (.newarray .int, 2) := by decide +kernel
theorem dX10_init_41 : decode cX10_init 41 = .ok (.putfield 23, 3) := by decide +kernel
theorem dX10_init_44 : decode cX10_init 44 = .ok (.aload_n 0, 1) := by decide +kernel
theorem dX10_init_45 : decode cX10_init 45 = .ok (.bipush 16, 2) := by decide +kernel
theorem dX10_init_47 : decode cX10_init 47 = .ok (.newarray .int, 2) := by decide +kernel
theorem dX10_init_49 : decode cX10_init 49 = .ok (.putfield 26, 3) := by decide +kernel
theorem dX10_init_52 : decode cX10_init 52 = .ok (.aload_n 0, 1) := by decide +kernel
theorem dX10_init_53 : decode cX10_init 53 = .ok (.sipush 128, 3) := by decide +kernel
theorem dX10_init_56 : decode cX10_init 56 = .ok (.newarray .boolean, 2) := by decide +kernel
theorem dX10_init_58 : decode cX10_init 58 = .ok (.putfield 29, 3) := by decide +kernel
theorem dX10_init_61 : decode cX10_init 61 = .ok (.aload_n 0, 1) := by decide +kernel
theorem dX10_init_62 : decode cX10_init 62 = .ok (.iconst 2, 1) := by decide +kernel
theorem dX10_init_63 : decode cX10_init 63 = .ok (.newarray .int, 2) := by decide +kernel
theorem dX10_init_65 : decode cX10_init 65 = .ok (.putfield 33, 3) := by decide +kernel
theorem dX10_init_68 : decode cX10_init 68 = .ok (.aload_n 0, 1) := by decide +kernel
theorem dX10_init_69 : decode cX10_init 69 = .ok (.bipush 10, 2) := by decide +kernel
theorem dX10_init_71 : decode cX10_init 71 = .ok (.newarray .int, 2) := by decide +kernel
theorem dX10_init_73 : decode cX10_init 73 = .ok (.putfield 36, 3) := by decide +kernel
theorem dX10_init_76 : decode cX10_init 76 = .ok (.aload_n 0, 1) := by decide +kernel
theorem dX10_init_77 : decode cX10_init 77 = .ok (.bipush 10, 2) := by decide +kernel
theorem dX10_init_79 : decode cX10_init 79 = .ok (.newarray .int, 2) := by decide +kernel
theorem dX10_init_81 : decode cX10_init 81 = .ok (.putfield 39, 3) := by decide +kernel
theorem dX10_init_84 : decode cX10_init 84 = .ok (.aload_n 0, 1) := by decide +kernel
theorem dX10_init_85 : decode cX10_init 85 = .ok (.bipush 10, 2) := by decide +kernel
theorem dX10_init_87 : decode cX10_init 87 = .ok (.newarray .int, 2) := by decide +kernel
theorem dX10_init_89 : decode cX10_init 89 = .ok (.putfield 42, 3) := by decide +kernel
theorem dX10_init_92 : decode cX10_init 92 = .ok (.aload_n 0, 1) := by decide +kernel
theorem dX10_init_93 : decode cX10_init 93 = .ok (.bipush 48, 2) := by decide +kernel
theorem dX10_init_95 : decode cX10_init 95 = .ok (.newarray .int, 2) := by decide +kernel
theorem dX10_init_97 : decode cX10_init 97 = .ok (.putfield 45, 3) := by decide +kernel
theorem dX10_init_100 : decode cX10_init 100 = .ok (.aload_n 0, 1) := by decide +kernel
theorem dX10_init_101 : decode cX10_init 101 = .ok (.iconst 2, 1) := by decide +kernel
theorem dX10_init_102 : decode cX10_init 102 = .ok (.newarray .boolean, 2) := by decide +kernel
theorem dX10_init_104 : decode cX10_init 104 = .ok (.putfield 48, 3) := by decide +kernel
theorem dX10_init_107 : decode cX10_init 107 = .ok (.aload_n 0, 1) := by decide +kernel
theorem dX10_init_108 : decode cX10_init 108 = .ok (.sipush 1536, 3) := by decide +kernel
theorem dX10_init_111 : decode cX10_init 111 = .ok (.newarray .int, 2) := by decide +kernel
theorem dX10_init_113 : decode cX10_init 113 = .ok (.putfield 51, 3) := by decide +kernel
theorem dX10_init_116 : decode cX10_init 116 = .ok (.aload_n 0, 1) := by decide +kernel
theorem dX10_init_117 : decode cX10_init 117 = .ok (.iconst 5, 1) := by decide +kernel
theorem dX10_init_118 : decode cX10_init 118 = .ok (.newarray .int, 2) := by decide +kernel
theorem dX10_init_120 : decode cX10_init 120 = .ok (.putfield 54, 3) := by decide +kernel
theorem dX10_init_123 : decode cX10_init 123 = .ok (.aload_n 0, 1) := by decide +kernel
theorem dX10_init_124 : decode cX10_init 124 = .ok (.sipush 256, 3) := by decide +kernel
theorem dX10_init_127 : decode cX10_init 127 = .ok (.newarray .int, 2) := by decide +kernel
theorem dX10_init_129 : decode cX10_init 129 = .ok (.putfield 57, 3) := by decide +kernel
theorem dX10_init_132 : decode cX10_init 132 = .ok (.aload_n 0, 1) := by decide +kernel
theorem dX10_init_133 : decode cX10_init 133 = .ok (.bipush 8, 2) := by decide +kernel
theorem dX10_init_135 : decode cX10_init 135 = .ok (.newarray .int, 2) := by decide +kernel
theorem dX10_init_137 : decode cX10_init 137 = .ok (.putfield 60, 3) := by decide +kernel
theorem dX10_init_140 : decode cX10_init 140 = .ok (.aload_n 0, 1) := by decide +kernel
theorem dX10_init_141 : decode cX10_init 141 = .ok (.bipush 8, 2) := by decide +kernel
theorem dX10_init_143 : decode cX10_init 143 = .ok (.newarray .int, 2) := by decide +kernel
theorem dX10_init_145 : decode cX10_init 145 = .ok (.putfield 63, 3) := by decide +kernel
theorem dX10_init_148 : decode cX10_init 148 = .ok (.aload_n 0, 1) := by decide +kernel
theorem dX10_init_149 : decode cX10_init 149 = .ok (.sipush 1280, 3) := by decide +kernel
theorem dX10_init_152 : decode cX10_init 152 = .ok (.newarray .int, 2) := by decide +kernel
theorem dX10_init_154 : decode cX10_init 154 = .ok (.putfield 66, 3) := by decide +kernel
theorem dX10_init_157 : decode cX10_init 157 = .ok (.aload_n 0, 1) := by decide +kernel
theorem dX10_init_158 : decode cX10_init 158 = .ok (.sipush 1280, 3) := by decide +kernel
theorem dX10_init_161 : decode cX10_init 161 = .ok (.newarray .int, 2) := by decide +kernel
theorem dX10_init_163 : decode cX10_init 163 = .ok (.putfield 69, 3) := by decide +kernel
theorem dX10_init_166 : decode cX10_init 166 = .ok (.aload_n 0, 1) := by decide +kernel
theorem dX10_init_167 : decode cX10_init 167 = .ok (.getfield 45, 3) := by decide +kernel
theorem dX10_init_170 : decode cX10_init 170 = .ok (.iconst 5, 1) := by decide +kernel
theorem dX10_init_171 : decode cX10_init 171 = .ok (.iconst 1, 1) := by decide +kernel
theorem dX10_init_172 : decode cX10_init 172 = .ok (.iastore, 1) := by decide +kernel
theorem dX10_init_173 : decode cX10_init 173 = .ok (.return_, 1) := by decide +kernel
theorem dX10_in_0 : decode cX10_in 0 = .ok (.iload_n 0, 1) := by decide +kernel
theorem dX10_in_1 : decode cX10_in 1 = .ok (.iload_n 1, 1) := by decide +kernel
theorem dX10_in_2 : decode cX10_in 2 = .ok (.if_icmp .lt 12, 3) := by decide +kernel
theorem dX10_in_5 : decode cX10_in 5 = .ok (.iload_n 0, 1) := by decide +kernel
theorem dX10_in_6 : decode cX10_in 6 = .ok (.iload_n 2, 1) := by decide +kernel
theorem dX10_in_7 : decode cX10_in 7 = .ok (.if_icmp .gt 7, 3) := by decide +kernel
theorem dX10_in_10 : decode cX10_in 10 = .ok (.iconst 1, 1) := by decide +kernel
theorem dX10_in_11 : decode cX10_in 11 = .ok (.goto 4, 3) := by decide +kernel
theorem dX10_in_14 : decode cX10_in 14 = .ok (.iconst 0, 1) := by decide +kernel
theorem dX10_in_15 : decode cX10_in 15 = .ok (.ireturn, 1) := by decide +kernel
set_option maxRecDepth 20000 in
theorem ggX10_type_X10_in : GoodIn wsX10_type wsX10_in := goodIn_r _ [7] (by decide +kernel) (by decide +kernel)
set_option maxRecDepth 20000 in
theorem gX10_type_X10_in : GoodIn wsX10_type (va_wsS RX10 72 yX10_in wsX10_in) := goodIn_app (goodIn_of _ (by decide +kernel)) ggX10_type_X10_in
theorem dX10_type_0 : decode cX10_type 0 = .ok (.iload_n 3, 1) := by decide +kernel
theorem dX10_type_1 : decode cX10_type 1 = .ok (.iconst 1, 1) := by decide +kernel
theorem dX10_type_2 : decode cX10_type 2 = .ok (.bipush 8, 2) := by decide +kernel
theorem dX10_type_4 : decode cX10_type 4 = .ok (.invokestatic 72, 3) := by decide +kernel
theorem dX10_type_7 : decode cX10_type 7 = .ok (.ifCond .ne 5, 3) := by decide +kernel
theorem dX10_type_10 : decode cX10_type 10 = .ok (.iconst (-1), 1) := by decide +kernel
theorem dX10_type_11 : decode cX10_type 11 = .ok (.ireturn, 1) := by decide +kernel
theorem dX10_type_12 : decode cX10_type 12 = .ok (.aload_n 0, 1) := by decide +kernel
theorem dX10_type_13 : decode cX10_type 13 = .ok (.getfield 76, 3) := by decide +kernel
theorem dX10_type_16 : decode cX10_type 16 = .ok (.iload_n 3, 1) := by decide +kernel
theorem dX10_type_17 : decode cX10_type 17 = .ok (.iadd, 1) := by decide +kernel
theorem dX10_type_18 : decode cX10_type 18 = .ok (.sipush 300, 3) := by decide +kernel
theorem dX10_type_21 : decode cX10_type 21 = .ok (.if_icmp .le 6, 3) := by decide +kernel
theorem dX10_type_24 : decode cX10_type 24 = .ok (.bipush (-3), 2) := by decide +kernel
theorem dX10_type_26 : decode cX10_type 26 = .ok (.ireturn, 1) := by decide +kernel
theorem dX10_type_27 : decode cX10_type 27 = .ok (.iload_n 3, 1) := by decide +kernel
theorem dX10_type_28 : decode cX10_type 28 = .ok (.iconst 1, 1) := by decide +kernel
theorem dX10_type_29 : decode cX10_type 29 = .ok (.isub, 1) := by decide +kernel
theorem dX10_type_30 : decode cX10_type 30 = .ok (.istore 4, 2) := by decide +kernel
theorem dX10_type_32 : decode cX10_type 32 = .ok (.iload 4, 2) := by decide +kernel
theorem dX10_type_34 : decode cX10_type 34 = .ok (.ifCond .lt 41, 3) := by decide +kernel
theorem dX10_type_37 : decode cX10_type 37 = .ok (.aload_n 0, 1) := by decide +kernel
theorem dX10_type_38 : decode cX10_type 38 = .ok (.getfield 7, 3) := by decide +kernel
theorem dX10_type_41 : decode cX10_type 41 = .ok (.aload_n 0, 1) := by decide +kernel
theorem dX10_type_42 : decode cX10_type 42 = .ok (.getfield 76, 3) := by decide +kernel
theorem dX10_type_45 : decode cX10_type 45 = .ok (.lload_n 1, 1) := by decide +kernel
theorem dX10_type_46 : decode cX10_type 46 = .ok (.bipush 8, 2) := by decide +kernel
theorem dX10_type_48 : decode cX10_type 48 = .ok (.iload 4, 2) := by decide +kernel
theorem dX10_type_50 : decode cX10_type 50 = .ok (.imul, 1) := by decide +kernel
theorem dX10_type_51 : decode cX10_type 51 = .ok (.lshr, 1) := by decide +kernel
theorem dX10_type_52 : decode cX10_type 52 = .ok (.ldc2_w 80, 3) := by decide +kernel
theorem dX10_type_55 : decode cX10_type 55 = .ok (.land, 1) := by decide +kernel
theorem dX10_type_56 : decode cX10_type 56 = .ok (.l2i, 1) := by decide +kernel
theorem dX10_type_57 : decode cX10_type 57 = .ok (.i2b, 1) := by decide +kernel
theorem dX10_type_58 : decode cX10_type 58 = .ok (.bastore, 1) := by decide +kernel
theorem dX10_type_59 : decode cX10_type 59 = .ok (.aload_n 0, 1) := by decide +kernel
theorem dX10_type_60 : decode cX10_type 60 = .ok (.dup, 1) := by decide +kernel
theorem dX10_type_61 : decode cX10_type 61 = .ok (.getfield 76, 3) := by decide +kernel
theorem dX10_type_64 : decode cX10_type 64 = .ok (.iconst 1, 1) := by decide +kernel
theorem dX10_type_65 : decode cX10_type 65 = .ok (.iadd, 1) := by decide +kernel
theorem dX10_type_66 : decode cX10_type 66 = .ok (.putfield 76, 3) := by decide +kernel
theorem dX10_type_69 : decode cX10_type 69 = .ok (.iinc 4 (-1), 3) := by decide +kernel
theorem dX10_type_72 : decode cX10_type 72 = .ok (.goto (-40), 3) := by decide +kernel
theorem dX10_type_75 : decode cX10_type 75 = .ok (.aload_n 0, 1) := by decide +kernel
theorem dX10_type_76 : decode cX10_type 76 = .ok (.getfield 76, 3) := by decide +kernel
theorem dX10_type_79 : decode cX10_type 79 = .ok (.ireturn, 1) := by decide +kernel
theorem dX10_clear_0 : decode cX10_clear 0 = .ok (.aload_n 0, 1) := by decide +kernel
theorem dX10_clear_1 : decode cX10_clear 1 = .ok (.getfield 76, 3) := by decide +kernel
theorem dX10_clear_4 : decode cX10_clear 4 = .ok (.istore_n 1, 1) := by decide +kernel
theorem dX10_clear_5 : decode cX10_clear 5 = .ok (.aload_n 0, 1) := by decide +kernel
theorem dX10_clear_6 : decode cX10_clear 6 = .ok (.iconst 0, 1) := by decide +kernel
theorem dX10_clear_7 : decode cX10_clear 7 = .ok (.putfield 76, 3) := by decide +kernel
theorem dX10_clear_10 : decode cX10_clear 10 = .ok (.iload_n 1, 1) := by decide +kernel
theorem dX10_clear_11 : decode cX10_clear 11 = .ok (.ireturn, 1) := by decide +kernel
theorem dX10_here_0 : decode cX10_here 0 = .ok (.aload_n 0, 1) := by decide +kernel
theorem dX10_here_1 : decode cX10_here 1 = .ok (.getfield 82, 3) := by decide +kernel
theorem dX10_here_4 : decode cX10_here 4 = .ok (.aload_n 0, 1) := by decide +kernel
theorem dX10_here_5 : decode cX10_here 5 = .ok (.getfield 76, 3) := by decide +kernel
theorem dX10_here_8 : decode cX10_here 8 = .ok (.if_icmp .ge 19, 3) := by decide +kernel
theorem dX10_here_11 : decode cX10_here 11 = .ok (.aload_n 0, 1) := by decide +kernel
theorem dX10_here_12 : decode cX10_here 12 = .ok (.getfield 7, 3) := by decide +kernel
theorem dX10_here_15 : decode cX10_here 15 = .ok (.aload_n 0, 1) := by decide +kernel
theorem dX10_here_16 : decode cX10_here 16 = .ok (.getfield 82, 3) := by decide +kernel
theorem dX10_here_19 : decode cX10_here 19 = .ok (.baload, 1) := by decide +kernel
theorem dX10_here_20 : decode cX10_here 20 = .ok (.sipush 255, 3) := by decide +kernel
theorem dX10_here_23 : decode cX10_here 23 = .ok (.iand, 1) := by decide +kernel
theorem dX10_here_24 : decode cX10_here 24 = .ok (.goto 4, 3) := by decide +kernel
theorem dX10_here_27 : decode cX10_here 27 = .ok (.iconst (-1), 1) := by decide +kernel
theorem dX10_here_28 : decode cX10_here 28 = .ok (.ireturn, 1) := by decide +kernel
theorem dX10_meaning_0 : decode cX10_meaning 0 = .ok (.iload_n 1, 1) := by decide +kernel
theorem dX10_meaning_1 : decode cX10_meaning 1 = .ok (.ifCond .le 22, 3) := by decide +kernel
theorem dX10_meaning_4 : decode cX10_meaning 4 = .ok (.iload_n 0, 1) := by decide +kernel
theorem dX10_meaning_5 : decode cX10_meaning 5 = .ok (.ldc 85, 2) := by decide +kernel
theorem dX10_meaning_7 : decode cX10_meaning 7 = .ok (.if_icmp .ne 13, 3) := by decide +kernel
theorem dX10_meaning_10 : decode cX10_meaning 10 = .ok (.iload_n 1, 1) := by decide +kernel
theorem dX10_meaning_11 : decode cX10_meaning 11 = .ok (.bipush 12, 2) := by decide +kernel
theorem dX10_meaning_13 : decode cX10_meaning 13 = .ok (.if_icmp .ne 7, 3) := by decide +kernel
theorem dX10_meaning_16 : decode cX10_meaning 16 = .ok (.iconst 2, 1) := by decide +kernel
theorem dX10_meaning_17 : decode cX10_meaning 17 = .ok (.goto 5, 3) := by decide +kernel
theorem dX10_meaning_20 : decode cX10_meaning 20 = .ok (.bipush 7, 2) := by decide +kernel
theorem dX10_meaning_22 : decode cX10_meaning 22 = .ok (.ireturn, 1) := by decide +kernel
theorem dX10_meaning_23 : decode cX10_meaning 23 = .ok (.iload_n 0, 1) := by decide +kernel
theorem dX10_meaning_24 : decode cX10_meaning 24 = .ok (.lookupswitch 42 #[(240023, 36), (406922, 40), (9748424, 38)], 36) := by decide +kernel
theorem dX10_meaning_60 : decode cX10_meaning 60 = .ok (.iconst 0, 1) := by decide +kernel
theorem dX10_meaning_61 : decode cX10_meaning 61 = .ok (.ireturn, 1) := by decide +kernel
theorem dX10_meaning_62 : decode cX10_meaning 62 = .ok (.iconst 1, 1) := by decide +kernel
theorem dX10_meaning_63 : decode cX10_meaning 63 = .ok (.ireturn, 1) := by decide +kernel
theorem dX10_meaning_64 : decode cX10_meaning 64 = .ok (.iconst 3, 1) := by decide +kernel
theorem dX10_meaning_65 : decode cX10_meaning 65 = .ok (.ireturn, 1) := by decide +kernel
theorem dX10_meaning_66 : decode cX10_meaning 66 = .ok (.bipush 7, 2) := by decide +kernel
theorem dX10_meaning_68 : decode cX10_meaning 68 = .ok (.ireturn, 1) := by decide +kernel
set_option maxRecDepth 20000 in
theorem ggX10_next_X10_here : GoodIn wsX10_next wsX10_here := goodIn_r _ [9, 1, 10, 11, 19, 20, 21, 22, 23, 24, 25, 26, 27, 28, 29, 30, 31, 32, 33, 34, 35, 36, 37, 38, 39, 40, 41, 42, 43, 44, 45] (by decide +kernel) (by decide +kernel)
set_option maxRecDepth 20000 in
theorem gX10_next_X10_here : GoodIn wsX10_next (wsV RX10 86 RX10 yX10_here wsX10_here) := goodIn_app (goodIn_of _ (by decide +kernel)) ggX10_next_X10_here
set_option maxRecDepth 20000 in
theorem ggX10_next_X10_in : GoodIn wsX10_next wsX10_in := goodIn_r _ [14] (by decide +kernel) (by decide +kernel)
set_option maxRecDepth 20000 in
theorem gX10_next_X10_in : GoodIn wsX10_next (va_wsS RX10 72 yX10_in wsX10_in) := goodIn_app (goodIn_of _ (by decide +kernel)) ggX10_next_X10_in
set_option maxRecDepth 20000 in
theorem ggX10_next_X10_meaning : GoodIn wsX10_next wsX10_meaning := goodIn_r _ [17, 18] (by decide +kernel) (by decide +kernel)
set_option maxRecDepth 20000 in
theorem gX10_next_X10_meaning : GoodIn wsX10_next (va_wsS RX10 99 yX10_meaning wsX10_meaning) := goodIn_app (goodIn_of _ (by decide +kernel)) ggX10_next_X10_meaning
theorem dX10_next_0 : decode cX10_next 0 = .ok (.aload_n 0, 1) := by decide +kernel
theorem dX10_next_1 : decode cX10_next 1 = .ok (.invokevirtual 86, 3) := by decide +kernel
theorem dX10_next_4 : decode cX10_next 4 = .ok (.bipush 32, 2) := by decide +kernel
theorem dX10_next_6 : decode cX10_next 6 = .ok (.if_icmp .ne 16, 3) := by decide +kernel
theorem dX10_next_9 : decode cX10_next 9 = .ok (.aload_n 0, 1) := by decide +kernel
theorem dX10_next_10 : decode cX10_next 10 = .ok (.dup, 1) := by decide +kernel
theorem dX10_next_11 : decode cX10_next 11 = .ok (.getfield 82, 3) := by decide +kernel
theorem dX10_next_14 : decode cX10_next 14 = .ok (.iconst 1, 1) := by decide +kernel
theorem dX10_next_15 : decode cX10_next 15 = .ok (.iadd, 1) := by decide +kernel
theorem dX10_next_16 : decode cX10_next 16 = .ok (.putfield 82, 3) := by decide +kernel
theorem dX10_next_19 : decode cX10_next 19 = .ok (.goto (-19), 3) := by decide +kernel
theorem dX10_next_22 : decode cX10_next 22 = .ok (.aload_n 0, 1) := by decide +kernel
theorem dX10_next_23 : decode cX10_next 23 = .ok (.aload_n 0, 1) := by decide +kernel
theorem dX10_next_24 : decode cX10_next 24 = .ok (.getfield 82, 3) := by decide +kernel
theorem dX10_next_27 : decode cX10_next 27 = .ok (.putfield 90, 3) := by decide +kernel
theorem dX10_next_30 : decode cX10_next 30 = .ok (.aload_n 0, 1) := by decide +kernel
theorem dX10_next_31 : decode cX10_next 31 = .ok (.iconst 0, 1) := by decide +kernel
theorem dX10_next_32 : decode cX10_next 32 = .ok (.putfield 93, 3) := by decide +kernel
theorem dX10_next_35 : decode cX10_next 35 = .ok (.aload_n 0, 1) := by decide +kernel
theorem dX10_next_36 : decode cX10_next 36 = .ok (.invokevirtual 86, 3) := by decide +kernel
theorem dX10_next_39 : decode cX10_next 39 = .ok (.istore_n 1, 1) := by decide +kernel
theorem dX10_next_40 : decode cX10_next 40 = .ok (.iload_n 1, 1) := by decide +kernel
theorem dX10_next_41 : decode cX10_next 41 = .ok (.ifCond .ge 11, 3) := by decide +kernel
theorem dX10_next_44 : decode cX10_next 44 = .ok (.aload_n 0, 1) := by decide +kernel
theorem dX10_next_45 : decode cX10_next 45 = .ok (.iconst 4, 1) := by decide +kernel
theorem dX10_next_46 : decode cX10_next 46 = .ok (.putfield 96, 3) := by decide +kernel
theorem dX10_next_49 : decode cX10_next 49 = .ok (.goto 264, 3) := by decide +kernel
theorem dX10_next_52 : decode cX10_next 52 = .ok (.iload_n 1, 1) := by decide +kernel
theorem dX10_next_53 : decode cX10_next 53 = .ok (.bipush 97, 2) := by decide +kernel
theorem dX10_next_55 : decode cX10_next 55 = .ok (.bipush 122, 2) := by decide +kernel
theorem dX10_next_57 : decode cX10_next 57 = .ok (.invokestatic 72, 3) := by decide +kernel
theorem dX10_next_60 : decode cX10_next 60 = .ok (.ifCond .eq 112, 3) := by decide +kernel
theorem dX10_next_63 : decode cX10_next 63 = .ok (.iconst 0, 1) := by decide +kernel
theorem dX10_next_64 : decode cX10_next 64 = .ok (.istore_n 2, 1) := by decide +kernel
theorem dX10_next_65 : decode cX10_next 65 = .ok (.iconst 0, 1) := by decide +kernel
theorem dX10_next_66 : decode cX10_next 66 = .ok (.istore_n 3, 1) := by decide +kernel
theorem dX10_next_67 : decode cX10_next 67 = .ok (.aload_n 0, 1) := by decide +kernel
theorem dX10_next_68 : decode cX10_next 68 = .ok (.invokevirtual 86, 3) := by decide +kernel
theorem dX10_next_71 : decode cX10_next 71 = .ok (.bipush 97, 2) := by decide +kernel
theorem dX10_next_73 : decode cX10_next 73 = .ok (.bipush 122, 2) := by decide +kernel
theorem dX10_next_75 : decode cX10_next 75 = .ok (.invokestatic 72, 3) := by decide +kernel
theorem dX10_next_78 : decode cX10_next 78 = .ok (.ifCond .eq 82, 3) := by decide +kernel
theorem dX10_next_81 : decode cX10_next 81 = .ok (.aload_n 0, 1) := by decide +kernel
theorem dX10_next_82 : decode cX10_next 82 = .ok (.getfield 82, 3) := by decide +kernel
theorem dX10_next_85 : decode cX10_next 85 = .ok (.aload_n 0, 1) := by decide +kernel
theorem dX10_next_86 : decode cX10_next 86 = .ok (.getfield 90, 3) := by decide +kernel
theorem dX10_next_89 : decode cX10_next 89 = .ok (.isub, 1) := by decide +kernel
theorem dX10_next_90 : decode cX10_next 90 = .ok (.istore 4, 2) := by decide +kernel
theorem dX10_next_92 : decode cX10_next 92 = .ok (.iload 4, 2) := by decide +kernel
theorem dX10_next_94 : decode cX10_next 94 = .ok (.bipush 6, 2) := by decide +kernel
theorem dX10_next_96 : decode cX10_next 96 = .ok (.if_icmp .ge 18, 3) := by decide +kernel
theorem dX10_next_99 : decode cX10_next 99 = .ok (.bipush 27, 2) := by decide +kernel
theorem dX10_next_101 : decode cX10_next 101 = .ok (.iload_n 2, 1) := by decide +kernel
theorem dX10_next_102 : decode cX10_next 102 = .ok (.imul, 1) := by decide +kernel
theorem dX10_next_103 : decode cX10_next 103 = .ok (.aload_n 0, 1) := by decide +kernel
theorem dX10_next_104 : decode cX10_next 104 = .ok (.invokevirtual 86, 3) := by decide +kernel
theorem dX10_next_107 : decode cX10_next 107 = .ok (.iadd, 1) := by decide +kernel
theorem dX10_next_108 : decode cX10_next 108 = .ok (.bipush 96, 2) := by decide +kernel
theorem dX10_next_110 : decode cX10_next 110 = .ok (.isub, 1) := by decide +kernel
theorem dX10_next_111 : decode cX10_next 111 = .ok (.goto 4, 3) := by decide +kernel
theorem dX10_next_114 : decode cX10_next 114 = .ok (.iload_n 2, 1) := by decide +kernel
theorem dX10_next_115 : decode cX10_next 115 = .ok (.istore_n 2, 1) := by decide +kernel
theorem dX10_next_116 : decode cX10_next 116 = .ok (.iload 4, 2) := by decide +kernel
theorem dX10_next_118 : decode cX10_next 118 = .ok (.bipush 6, 2) := by decide +kernel
theorem dX10_next_120 : decode cX10_next 120 = .ok (.if_icmp .ne 13, 3) := by decide +kernel
theorem dX10_next_123 : decode cX10_next 123 = .ok (.aload_n 0, 1) := by decide +kernel
theorem dX10_next_124 : decode cX10_next 124 = .ok (.invokevirtual 86, 3) := by decide +kernel
theorem dX10_next_127 : decode cX10_next 127 = .ok (.bipush 96, 2) := by decide +kernel
theorem dX10_next_129 : decode cX10_next 129 = .ok (.isub, 1) := by decide +kernel
theorem dX10_next_130 : decode cX10_next 130 = .ok (.goto 16, 3) := by decide +kernel
theorem dX10_next_133 : decode cX10_next 133 = .ok (.iload 4, 2) := by decide +kernel
theorem dX10_next_135 : decode cX10_next 135 = .ok (.bipush 6, 2) := by decide +kernel
theorem dX10_next_137 : decode cX10_next 137 = .ok (.if_icmp .le 8, 3) := by decide +kernel
theorem dX10_next_140 : decode cX10_next 140 = .ok (.bipush 99, 2) := by decide +kernel
theorem dX10_next_142 : decode cX10_next 142 = .ok (.goto 4, 3) := by decide +kernel
theorem dX10_next_145 : decode cX10_next 145 = .ok (.iload_n 3, 1) := by decide +kernel
theorem dX10_next_146 : decode cX10_next 146 = .ok (.istore_n 3, 1) := by decide +kernel
theorem dX10_next_147 : decode cX10_next 147 = .ok (.aload_n 0, 1) := by decide +kernel
theorem dX10_next_148 : decode cX10_next 148 = .ok (.dup, 1) := by decide +kernel
theorem dX10_next_149 : decode cX10_next 149 = .ok (.getfield 82, 3) := by decide +kernel
theorem dX10_next_152 : decode cX10_next 152 = .ok (.iconst 1, 1) := by decide +kernel
theorem dX10_next_153 : decode cX10_next 153 = .ok (.iadd, 1) := by decide +kernel
theorem dX10_next_154 : decode cX10_next 154 = .ok (.putfield 82, 3) := by decide +kernel
theorem dX10_next_157 : decode cX10_next 157 = .ok (.goto (-90), 3) := by decide +kernel
theorem dX10_next_160 : decode cX10_next 160 = .ok (.aload_n 0, 1) := by decide +kernel
theorem dX10_next_161 : decode cX10_next 161 = .ok (.iload_n 2, 1) := by decide +kernel
theorem dX10_next_162 : decode cX10_next 162 = .ok (.iload_n 3, 1) := by decide +kernel
theorem dX10_next_163 : decode cX10_next 163 = .ok (.invokestatic 99, 3) := by decide +kernel
theorem dX10_next_166 : decode cX10_next 166 = .ok (.putfield 96, 3) := by decide +kernel
theorem dX10_next_169 : decode cX10_next 169 = .ok (.goto 144, 3) := by decide +kernel
theorem dX10_next_172 : decode cX10_next 172 = .ok (.iload_n 1, 1) := by decide +kernel
theorem dX10_next_173 : decode cX10_next 173 = .ok (.bipush 48, 2) := by decide +kernel
theorem dX10_next_175 : decode cX10_next 175 = .ok (.bipush 57, 2) := by decide +kernel
theorem dX10_next_177 : decode cX10_next 177 = .ok (.invokestatic 72, 3) := by decide +kernel
theorem dX10_next_180 : decode cX10_next 180 = .ok (.ifCond .eq 106, 3) := by decide +kernel
theorem dX10_next_183 : decode cX10_next 183 = .ok (.aload_n 0, 1) := by decide +kernel
theorem dX10_next_184 : decode cX10_next 184 = .ok (.invokevirtual 86, 3) := by decide +kernel
theorem dX10_next_187 : decode cX10_next 187 = .ok (.bipush 48, 2) := by decide +kernel
theorem dX10_next_189 : decode cX10_next 189 = .ok (.bipush 57, 2) := by decide +kernel
theorem dX10_next_191 : decode cX10_next 191 = .ok (.invokestatic 72, 3) := by decide +kernel
theorem dX10_next_194 : decode cX10_next 194 = .ok (.ifCond .eq 51, 3) := by decide +kernel
theorem dX10_next_197 : decode cX10_next 197 = .ok (.aload_n 0, 1) := by decide +kernel
theorem dX10_next_198 : decode cX10_next 198 = .ok (.aload_n 0, 1) := by decide +kernel
theorem dX10_next_199 : decode cX10_next 199 = .ok (.getfield 93, 3) := by decide +kernel
theorem dX10_next_202 : decode cX10_next 202 = .ok (.bipush 99, 2) := by decide +kernel
theorem dX10_next_204 : decode cX10_next 204 = .ok (.if_icmp .le 10, 3) := by decide +kernel
