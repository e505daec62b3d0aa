theorem dX7_wholeOf_9 : decode cX7_wholeOf 9 = .ok (.iload_n 2, 1) := by decide +kernel
theorem dX7_wholeOf_10 : decode cX7_wholeOf 10 = .ok (.iload_n 3, 1) := by decide +kernel
theorem dX7_wholeOf_11 : decode cX7_wholeOf 11 = .ok (.iconst (-1), 1) := by decide +kernel
theorem dX7_wholeOf_12 : decode cX7_wholeOf 12 = .ok (.ixor, 1) := by decide +kernel
theorem dX7_wholeOf_13 : decode cX7_wholeOf 13 = .ok (.iand, 1) := by decide +kernel
theorem dX7_wholeOf_14 : decode cX7_wholeOf 14 = .ok (.iaload, 1) := by decide +kernel
theorem dX7_wholeOf_15 : decode cX7_wholeOf 15 = .ok (.istore 4, 2) := by decide +kernel
theorem dX7_wholeOf_17 : decode cX7_wholeOf 17 = .ok (.iconst 0, 1) := by decide +kernel
theorem dX7_wholeOf_18 : decode cX7_wholeOf 18 = .ok (.istore 5, 2) := by decide +kernel
theorem dX7_wholeOf_20 : decode cX7_wholeOf 20 = .ok (.iload 5, 2) := by decide +kernel
theorem dX7_wholeOf_22 : decode cX7_wholeOf 22 = .ok (.aload_n 1, 1) := by decide +kernel
theorem dX7_wholeOf_23 : decode cX7_wholeOf 23 = .ok (.getfield 25, 3) := by decide +kernel
theorem dX7_wholeOf_26 : decode cX7_wholeOf 26 = .ok (.if_icmp .ge 60, 3) := by decide +kernel
theorem dX7_wholeOf_29 : decode cX7_wholeOf 29 = .ok (.aload_n 1, 1) := by decide +kernel
theorem dX7_wholeOf_30 : decode cX7_wholeOf 30 = .ok (.getfield 31, 3) := by decide +kernel
theorem dX7_wholeOf_33 : decode cX7_wholeOf 33 = .ok (.iload 5, 2) := by decide +kernel
theorem dX7_wholeOf_35 : decode cX7_wholeOf 35 = .ok (.iaload, 1) := by decide +kernel
theorem dX7_wholeOf_36 : decode cX7_wholeOf 36 = .ok (.istore 6, 2) := by decide +kernel
theorem dX7_wholeOf_38 : decode cX7_wholeOf 38 = .ok (.iload 6, 2) := by decide +kernel
theorem dX7_wholeOf_40 : decode cX7_wholeOf 40 = .ok (.iload_n 3, 1) := by decide +kernel
theorem dX7_wholeOf_41 : decode cX7_wholeOf 41 = .ok (.iand, 1) := by decide +kernel
theorem dX7_wholeOf_42 : decode cX7_wholeOf 42 = .ok (.ifCond .eq 38, 3) := by decide +kernel
theorem dX7_wholeOf_45 : decode cX7_wholeOf 45 = .ok (.iload 6, 2) := by decide +kernel
theorem dX7_wholeOf_47 : decode cX7_wholeOf 47 = .ok (.iload_n 2, 1) := by decide +kernel
theorem dX7_wholeOf_48 : decode cX7_wholeOf 48 = .ok (.iand, 1) := by decide +kernel
theorem dX7_wholeOf_49 : decode cX7_wholeOf 49 = .ok (.iload 6, 2) := by decide +kernel
theorem dX7_wholeOf_51 : decode cX7_wholeOf 51 = .ok (.if_icmp .ne 29, 3) := by decide +kernel
theorem dX7_wholeOf_54 : decode cX7_wholeOf 54 = .ok (.iload 4, 2) := by decide +kernel
theorem dX7_wholeOf_56 : decode cX7_wholeOf 56 = .ok (.aload_n 1, 1) := by decide +kernel
theorem dX7_wholeOf_57 : decode cX7_wholeOf 57 = .ok (.getfield 34, 3) := by decide +kernel
theorem dX7_wholeOf_60 : decode cX7_wholeOf 60 = .ok (.iload 5, 2) := by decide +kernel
theorem dX7_wholeOf_62 : decode cX7_wholeOf 62 = .ok (.iaload, 1) := by decide +kernel
theorem dX7_wholeOf_63 : decode cX7_wholeOf 63 = .ok (.aload_n 0, 1) := by decide +kernel
theorem dX7_wholeOf_64 : decode cX7_wholeOf 64 = .ok (.getfield 9, 3) := by decide +kernel
theorem dX7_wholeOf_67 : decode cX7_wholeOf 67 = .ok (.iload_n 2, 1) := by decide +kernel
theorem dX7_wholeOf_68 : decode cX7_wholeOf 68 = .ok (.iload 6, 2) := by decide +kernel
theorem dX7_wholeOf_70 : decode cX7_wholeOf 70 = .ok (.iconst (-1), 1) := by decide +kernel
theorem dX7_wholeOf_71 : decode cX7_wholeOf 71 = .ok (.ixor, 1) := by decide +kernel
theorem dX7_wholeOf_72 : decode cX7_wholeOf 72 = .ok (.iand, 1) := by decide +kernel
theorem dX7_wholeOf_73 : decode cX7_wholeOf 73 = .ok (.iaload, 1) := by decide +kernel
theorem dX7_wholeOf_74 : decode cX7_wholeOf 74 = .ok (.iadd, 1) := by decide +kernel
theorem dX7_wholeOf_75 : decode cX7_wholeOf 75 = .ok (.invokestatic 37, 3) := by decide +kernel
theorem dX7_wholeOf_78 : decode cX7_wholeOf 78 = .ok (.istore 4, 2) := by decide +kernel
theorem dX7_wholeOf_80 : decode cX7_wholeOf 80 = .ok (.iinc 5 1, 3) := by decide +kernel
theorem dX7_wholeOf_83 : decode cX7_wholeOf 83 = .ok (.goto (-63), 3) := by decide +kernel
theorem dX7_wholeOf_86 : decode cX7_wholeOf 86 = .ok (.iload 4, 2) := by decide +kernel
theorem dX7_wholeOf_88 : decode cX7_wholeOf 88 = .ok (.ireturn, 1) := by decide +kernel
set_option maxRecDepth 20000 in
theorem ggX7_grownOverOrders_J6_bitCount_0f7a4 : GoodIn wsX7_grownOverOrders wsJ6_bitCount_0f7a4 := goodIn_r _ [5, 6, 7, 8] (by decide +kernel) (by decide +kernel)
set_option maxRecDepth 20000 in
theorem gX7_grownOverOrders_J6_bitCount_0f7a4 : GoodIn wsX7_grownOverOrders (va_wsS RX7 43 yJ6_bitCount_0f7a4 wsJ6_bitCount_0f7a4) := goodIn_app (goodIn_of _ (by decide +kernel)) ggX7_grownOverOrders_J6_bitCount_0f7a4
theorem dX7_grownOverOrders_0 : decode cX7_grownOverOrders 0 = .ok (.iconst 0, 1) := by decide +kernel
theorem dX7_grownOverOrders_1 : decode cX7_grownOverOrders 1 = .ok (.istore_n 3, 1) := by decide +kernel
theorem dX7_grownOverOrders_2 : decode cX7_grownOverOrders 2 = .ok (.iconst 1, 1) := by decide +kernel
theorem dX7_grownOverOrders_3 : decode cX7_grownOverOrders 3 = .ok (.iload_n 1, 1) := by decide +kernel
theorem dX7_grownOverOrders_4 : decode cX7_grownOverOrders 4 = .ok (.ishl, 1) := by decide +kernel
theorem dX7_grownOverOrders_5 : decode cX7_grownOverOrders 5 = .ok (.istore 4, 2) := by decide +kernel
theorem dX7_grownOverOrders_7 : decode cX7_grownOverOrders 7 = .ok (.iconst 0, 1) := by decide +kernel
theorem dX7_grownOverOrders_8 : decode cX7_grownOverOrders 8 = .ok (.istore 5, 2) := by decide +kernel
theorem dX7_grownOverOrders_10 : decode cX7_grownOverOrders 10 = .ok (.iload 5, 2) := by decide +kernel
theorem dX7_grownOverOrders_12 : decode cX7_grownOverOrders 12 = .ok (.iconst 1, 1) := by decide +kernel
theorem dX7_grownOverOrders_13 : decode cX7_grownOverOrders 13 = .ok (.iload_n 2, 1) := by decide +kernel
theorem dX7_grownOverOrders_14 : decode cX7_grownOverOrders 14 = .ok (.ishl, 1) := by decide +kernel
theorem dX7_grownOverOrders_15 : decode cX7_grownOverOrders 15 = .ok (.if_icmp .ge 67, 3) := by decide +kernel
theorem dX7_grownOverOrders_18 : decode cX7_grownOverOrders 18 = .ok (.iload 5, 2) := by decide +kernel
theorem dX7_grownOverOrders_20 : decode cX7_grownOverOrders 20 = .ok (.iload 4, 2) := by decide +kernel
theorem dX7_grownOverOrders_22 : decode cX7_grownOverOrders 22 = .ok (.iand, 1) := by decide +kernel
theorem dX7_grownOverOrders_23 : decode cX7_grownOverOrders 23 = .ok (.ifCond .ne 53, 3) := by decide +kernel
theorem dX7_grownOverOrders_26 : decode cX7_grownOverOrders 26 = .ok (.iload 5, 2) := by decide +kernel
theorem dX7_grownOverOrders_28 : decode cX7_grownOverOrders 28 = .ok (.invokestatic 43, 3) := by decide +kernel
theorem dX7_grownOverOrders_31 : decode cX7_grownOverOrders 31 = .ok (.istore 6, 2) := by decide +kernel
theorem dX7_grownOverOrders_33 : decode cX7_grownOverOrders 33 = .ok (.getstatic 49, 3) := by decide +kernel
theorem dX7_grownOverOrders_36 : decode cX7_grownOverOrders 36 = .ok (.iload 6, 2) := by decide +kernel
theorem dX7_grownOverOrders_38 : decode cX7_grownOverOrders 38 = .ok (.iaload, 1) := by decide +kernel
theorem dX7_grownOverOrders_39 : decode cX7_grownOverOrders 39 = .ok (.getstatic 49, 3) := by decide +kernel
theorem dX7_grownOverOrders_42 : decode cX7_grownOverOrders 42 = .ok (.iload_n 2, 1) := by decide +kernel
theorem dX7_grownOverOrders_43 : decode cX7_grownOverOrders 43 = .ok (.iconst 1, 1) := by decide +kernel
theorem dX7_grownOverOrders_44 : decode cX7_grownOverOrders 44 = .ok (.isub, 1) := by decide +kernel
theorem dX7_grownOverOrders_45 : decode cX7_grownOverOrders 45 = .ok (.iload 6, 2) := by decide +kernel
theorem dX7_grownOverOrders_47 : decode cX7_grownOverOrders 47 = .ok (.isub, 1) := by decide +kernel
theorem dX7_grownOverOrders_48 : decode cX7_grownOverOrders 48 = .ok (.iaload, 1) := by decide +kernel
theorem dX7_grownOverOrders_49 : decode cX7_grownOverOrders 49 = .ok (.imul, 1) := by decide +kernel
theorem dX7_grownOverOrders_50 : decode cX7_grownOverOrders 50 = .ok (.istore 7, 2) := by decide +kernel
theorem dX7_grownOverOrders_52 : decode cX7_grownOverOrders 52 = .ok (.iload_n 3, 1) := by decide +kernel
theorem dX7_grownOverOrders_53 : decode cX7_grownOverOrders 53 = .ok (.iload 7, 2) := by decide +kernel
theorem dX7_grownOverOrders_55 : decode cX7_grownOverOrders 55 = .ok (.aload_n 0, 1) := by decide +kernel
theorem dX7_grownOverOrders_56 : decode cX7_grownOverOrders 56 = .ok (.getfield 9, 3) := by decide +kernel
theorem dX7_grownOverOrders_59 : decode cX7_grownOverOrders 59 = .ok (.iload 5, 2) := by decide +kernel
theorem dX7_grownOverOrders_61 : decode cX7_grownOverOrders 61 = .ok (.iload 4, 2) := by decide +kernel
theorem dX7_grownOverOrders_63 : decode cX7_grownOverOrders 63 = .ok (.ior, 1) := by decide +kernel
theorem dX7_grownOverOrders_64 : decode cX7_grownOverOrders 64 = .ok (.iaload, 1) := by decide +kernel
theorem dX7_grownOverOrders_65 : decode cX7_grownOverOrders 65 = .ok (.aload_n 0, 1) := by decide +kernel
theorem dX7_grownOverOrders_66 : decode cX7_grownOverOrders 66 = .ok (.getfield 9, 3) := by decide +kernel
theorem dX7_grownOverOrders_69 : decode cX7_grownOverOrders 69 = .ok (.iload 5, 2) := by decide +kernel
theorem dX7_grownOverOrders_71 : decode cX7_grownOverOrders 71 = .ok (.iaload, 1) := by decide +kernel
theorem dX7_grownOverOrders_72 : decode cX7_grownOverOrders 72 = .ok (.isub, 1) := by decide +kernel
theorem dX7_grownOverOrders_73 : decode cX7_grownOverOrders 73 = .ok (.imul, 1) := by decide +kernel
theorem dX7_grownOverOrders_74 : decode cX7_grownOverOrders 74 = .ok (.iadd, 1) := by decide +kernel
theorem dX7_grownOverOrders_75 : decode cX7_grownOverOrders 75 = .ok (.istore_n 3, 1) := by decide +kernel
theorem dX7_grownOverOrders_76 : decode cX7_grownOverOrders 76 = .ok (.iinc 5 1, 3) := by decide +kernel
theorem dX7_grownOverOrders_79 : decode cX7_grownOverOrders 79 = .ok (.goto (-69), 3) := by decide +kernel
theorem dX7_grownOverOrders_82 : decode cX7_grownOverOrders 82 = .ok (.iload_n 3, 1) := by decide +kernel
theorem dX7_grownOverOrders_83 : decode cX7_grownOverOrders 83 = .ok (.ireturn, 1) := by decide +kernel
theorem dX8_init_0 : decode cX8_init 0 = .ok (.aload_n 0, 1) := by decide +kernel
theorem dX8_init_1 : decode cX8_init 1 = .ok (.invokespecial 3, 3) := by decide +kernel
theorem dX8_init_4 : decode cX8_init 4 = .ok (.aload_n 0, 1) := by decide +kernel
theorem dX8_init_5 : decode cX8_init 5 = .ok (.sipush 300, 3) := by decide +kernel
theorem dX8_init_8 : decode cX8_init 8 = .ok (.newarray .byte, 2) := by decide +kernel
theorem dX8_init_10 : decode cX8_init 10 = .ok (.putfield 9, 3) := by decide +kernel
theorem dX8_init_13 : decode cX8_init 13 = .ok (.aload_n 0, 1) := by decide +kernel
theorem dX8_init_14 : decode cX8_init 14 = .ok (.iconst 0, 1) := by decide +kernel
theorem dX8_init_15 : decode cX8_init 15 = .ok (.putfield 15, 3) := by decide +kernel
theorem dX8_init_18 : decode cX8_init 18 = .ok (.aload_n 0, 1) := by decide +kernel
theorem dX8_init_19 : decode cX8_init 19 = .ok (.sipush 301, 3) := by decide +kernel
theorem dX8_init_22 : decode cX8_init 22 = .ok (.newarray .int, 2) := by decide +kernel
theorem dX8_init_24 : decode cX8_init 24 = .ok (.putfield 19, 3) := by decide +kernel
theorem dX8_init_27 : decode cX8_init 27 = .ok (.aload_n 0, 1) := by decide +kernel
theorem dX8_init_28 : decode cX8_init 28 = .ok (.sipush 301, 3) := by decide +kernel
theorem dX8_init_31 : decode cX8_init 31 = .ok (.newarray .int, 2) := by decide +kernel
theorem dX8_init_33 : decode cX8_init 33 = .ok (.putfield 23, 3) := by decide +kernel
theorem dX8_init_36 : decode cX8_init 36 = .ok (.aload_n 0, 1) := by decide +kernel
theorem dX8_init_37 : decode cX8_init 37 = .ok (.sipush 301, 3) := by decide +kernel
theorem dX8_init_40 : decode cX8_init 40 = .ok (.newarray .int, 2) := by decide +kernel
theorem dX8_init_42 : decode cX8_init 42 = .ok (.putfield 26, 3) := by decide +kernel
theorem dX8_init_45 : decode cX8_init 45 = .ok (.return_, 1) := by decide +kernel
theorem dX8_room_0 : decode cX8_room 0 = .ok (.sipush 300, 3) := by decide +kernel
theorem dX8_room_3 : decode cX8_room 3 = .ok (.aload_n 0, 1) := by decide +kernel
theorem dX8_room_4 : decode cX8_room 4 = .ok (.getfield 15, 3) := by decide +kernel
theorem dX8_room_7 : decode cX8_room 7 = .ok (.isub, 1) := by decide +kernel
theorem dX8_room_8 : decode cX8_room 8 = .ok (.ireturn, 1) := by decide +kernel
theorem dX8_add_0 : decode cX8_add 0 = .ok (.aload_n 0, 1) := by decide +kernel
theorem dX8_add_1 : decode cX8_add 1 = .ok (.getfield 15, 3) := by decide +kernel
theorem dX8_add_4 : decode cX8_add 4 = .ok (.sipush 300, 3) := by decide +kernel
theorem dX8_add_7 : decode cX8_add 7 = .ok (.if_icmp .ge 23, 3) := by decide +kernel
theorem dX8_add_10 : decode cX8_add 10 = .ok (.aload_n 0, 1) := by decide +kernel
theorem dX8_add_11 : decode cX8_add 11 = .ok (.getfield 9, 3) := by decide +kernel
theorem dX8_add_14 : decode cX8_add 14 = .ok (.aload_n 0, 1) := by decide +kernel
theorem dX8_add_15 : decode cX8_add 15 = .ok (.getfield 15, 3) := by decide +kernel
theorem dX8_add_18 : decode cX8_add 18 = .ok (.iload_n 1, 1) := by decide +kernel
theorem dX8_add_19 : decode cX8_add 19 = .ok (.bastore, 1) := by decide +kernel
theorem dX8_add_20 : decode cX8_add 20 = .ok (.aload_n 0, 1) := by decide +kernel
theorem dX8_add_21 : decode cX8_add 21 = .ok (.dup, 1) := by decide +kernel
theorem dX8_add_22 : decode cX8_add 22 = .ok (.getfield 15, 3) := by decide +kernel
theorem dX8_add_25 : decode cX8_add 25 = .ok (.iconst 1, 1) := by decide +kernel
theorem dX8_add_26 : decode cX8_add 26 = .ok (.iadd, 1) := by decide +kernel
theorem dX8_add_27 : decode cX8_add 27 = .ok (.putfield 15, 3) := by decide +kernel
theorem dX8_add_30 : decode cX8_add 30 = .ok (.return_, 1) := by decide +kernel
theorem dX8_at_0 : decode cX8_at 0 = .ok (.iload_n 1, 1) := by decide +kernel
theorem dX8_at_1 : decode cX8_at 1 = .ok (.ifCond .lt 24, 3) := by decide +kernel
theorem dX8_at_4 : decode cX8_at 4 = .ok (.iload_n 1, 1) := by decide +kernel
theorem dX8_at_5 : decode cX8_at 5 = .ok (.aload_n 0, 1) := by decide +kernel
theorem dX8_at_6 : decode cX8_at 6 = .ok (.getfield 15, 3) := by decide +kernel
theorem dX8_at_9 : decode cX8_at 9 = .ok (.if_icmp .ge 16, 3) := by decide +kernel
theorem dX8_at_12 : decode cX8_at 12 = .ok (.aload_n 0, 1) := by decide +kernel
theorem dX8_at_13 : decode cX8_at 13 = .ok (.getfield 9, 3) := by decide +kernel
theorem dX8_at_16 : decode cX8_at 16 = .ok (.iload_n 1, 1) := by decide +kernel
theorem dX8_at_17 : decode cX8_at 17 = .ok (.baload, 1) := by decide +kernel
theorem dX8_at_18 : decode cX8_at 18 = .ok (.sipush 255, 3) := by decide +kernel
theorem dX8_at_21 : decode cX8_at 21 = .ok (.iand, 1) := by decide +kernel
theorem dX8_at_22 : decode cX8_at 22 = .ok (.goto 4, 3) := by decide +kernel
theorem dX8_at_25 : decode cX8_at 25 = .ok (.iconst (-1), 1) := by decide +kernel
theorem dX8_at_26 : decode cX8_at 26 = .ok (.ireturn, 1) := by decide +kernel
set_option maxRecDepth 20000 in
theorem ggX8_cutIntoTokens_X8_at : GoodIn wsX8_cutIntoTokens wsX8_at := goodIn_r _ [13, 1, 14, 86, 87, 88, 89, 90] (by decide +kernel) (by decide +kernel)
set_option maxRecDepth 20000 in
theorem gX8_cutIntoTokens_X8_at : GoodIn wsX8_cutIntoTokens (wsV RX8 29 RX8 yX8_at wsX8_at) := goodIn_app (goodIn_of _ (by decide +kernel)) ggX8_cutIntoTokens_X8_at
set_option maxRecDepth 20000 in
theorem ggX8_cutIntoTokens_X8_endOfToken : GoodIn wsX8_cutIntoTokens wsX8_endOfToken := goodIn_r _ [18, 1, 9, 10, 11, 12, 13, 14, 19, 20, 21, 22, 23, 24, 86, 87, 88, 89, 90] (by decide +kernel) (by decide +kernel)
set_option maxRecDepth 20000 in
theorem gX8_cutIntoTokens_X8_endOfToken : GoodIn wsX8_cutIntoTokens (wsV RX8 33 RX8 yX8_endOfToken wsX8_endOfToken) := goodIn_app (goodIn_of _ (by decide +kernel)) ggX8_cutIntoTokens_X8_endOfToken
set_option maxRecDepth 20000 in
theorem ggX8_cutIntoTokens_X8_tokenOf : GoodIn wsX8_cutIntoTokens wsX8_tokenOf := goodIn_r _ [28, 9, 10, 11, 12, 13, 1, 14, 22, 23, 24, 29, 30, 31, 32, 33, 34, 35, 36, 37, 38, 39, 40, 41, 42, 43, 44, 45, 46, 47, 48, 49, 50, 51, 52, 53, 54, 55, 56, 57, 58, 59, 60, 61, 62, 63, 64, 65, 66, 67, 68, 69, 70, 71, 72, 73, 74, 75, 76, 77, 78, 79, 80, 81, 86, 87, 88, 89, 90] (by decide +kernel) (by decide +kernel)
set_option maxRecDepth 20000 in
theorem gX8_cutIntoTokens_X8_tokenOf : GoodIn wsX8_cutIntoTokens (wsV RX8 36 RX8 yX8_tokenOf wsX8_tokenOf) := goodIn_app (goodIn_of _ (by decide +kernel)) ggX8_cutIntoTokens_X8_tokenOf
set_option maxRecDepth 20000 in
theorem ggX8_cutIntoTokens_X8_numberAt : GoodIn wsX8_cutIntoTokens wsX8_numberAt := goodIn_r _ [85, 9, 10, 11, 12, 13, 1, 14, 86, 87, 88, 89, 90] (by decide +kernel) (by decide +kernel)
set_option maxRecDepth 20000 in
theorem gX8_cutIntoTokens_X8_numberAt : GoodIn wsX8_cutIntoTokens (wsV RX8 40 RX8 yX8_numberAt wsX8_numberAt) := goodIn_app (goodIn_of _ (by decide +kernel)) ggX8_cutIntoTokens_X8_numberAt
theorem dX8_cutIntoTokens_0 : decode cX8_cutIntoTokens 0 = .ok (.iconst 0, 1) := by decide +kernel
theorem dX8_cutIntoTokens_1 : decode cX8_cutIntoTokens 1 = .ok (.istore_n 1, 1) := by decide +kernel
theorem dX8_cutIntoTokens_2 : decode cX8_cutIntoTokens 2 = .ok (.iconst 0, 1) := by decide +kernel
theorem dX8_cutIntoTokens_3 : decode cX8_cutIntoTokens 3 = .ok (.istore_n 2, 1) := by decide +kernel
theorem dX8_cutIntoTokens_4 : decode cX8_cutIntoTokens 4 = .ok (.iload_n 2, 1) := by decide +kernel
theorem dX8_cutIntoTokens_5 : decode cX8_cutIntoTokens 5 = .ok (.aload_n 0, 1) := by decide +kernel
theorem dX8_cutIntoTokens_6 : decode cX8_cutIntoTokens 6 = .ok (.getfield 15, 3) := by decide +kernel
theorem dX8_cutIntoTokens_9 : decode cX8_cutIntoTokens 9 = .ok (.if_icmp .ge 91, 3) := by decide +kernel
theorem dX8_cutIntoTokens_12 : decode cX8_cutIntoTokens 12 = .ok (.iload_n 1, 1) := by decide +kernel
theorem dX8_cutIntoTokens_13 : decode cX8_cutIntoTokens 13 = .ok (.sipush 300, 3) := by decide +kernel
theorem dX8_cutIntoTokens_16 : decode cX8_cutIntoTokens 16 = .ok (.if_icmp .ge 84, 3) := by decide +kernel
theorem dX8_cutIntoTokens_19 : decode cX8_cutIntoTokens 19 = .ok (.aload_n 0, 1) := by decide +kernel
theorem dX8_cutIntoTokens_20 : decode cX8_cutIntoTokens 20 = .ok (.iload_n 2, 1) := by decide +kernel
theorem dX8_cutIntoTokens_21 : decode cX8_cutIntoTokens 21 = .ok (.invokevirtual 29, 3) := by decide +kernel
theorem dX8_cutIntoTokens_24 : decode cX8_cutIntoTokens 24 = .ok (.bipush 32, 2) := by decide +kernel
theorem dX8_cutIntoTokens_26 : decode cX8_cutIntoTokens 26 = .ok (.if_icmp .ne 9, 3) := by decide +kernel
theorem dX8_cutIntoTokens_29 : decode cX8_cutIntoTokens 29 = .ok (.iinc 2 1, 3) := by decide +kernel
theorem dX8_cutIntoTokens_32 : decode cX8_cutIntoTokens 32 = .ok (.goto (-28), 3) := by decide +kernel
theorem dX8_cutIntoTokens_35 : decode cX8_cutIntoTokens 35 = .ok (.aload_n 0, 1) := by decide +kernel
theorem dX8_cutIntoTokens_36 : decode cX8_cutIntoTokens 36 = .ok (.iload_n 2, 1) := by decide +kernel
theorem dX8_cutIntoTokens_37 : decode cX8_cutIntoTokens 37 = .ok (.invokevirtual 33, 3) := by decide +kernel
theorem dX8_cutIntoTokens_40 : decode cX8_cutIntoTokens 40 = .ok (.istore_n 3, 1) := by decide +kernel
theorem dX8_cutIntoTokens_41 : decode cX8_cutIntoTokens 41 = .ok (.aload_n 0, 1) := by decide +kernel
theorem dX8_cutIntoTokens_42 : decode cX8_cutIntoTokens 42 = .ok (.getfield 23, 3) := by decide +kernel
theorem dX8_cutIntoTokens_45 : decode cX8_cutIntoTokens 45 = .ok (.iload_n 1, 1) := by decide +kernel
theorem dX8_cutIntoTokens_46 : decode cX8_cutIntoTokens 46 = .ok (.iload_n 2, 1) := by decide +kernel
theorem dX8_cutIntoTokens_47 : decode cX8_cutIntoTokens 47 = .ok (.iastore, 1) := by decide +kernel
theorem dX8_cutIntoTokens_48 : decode cX8_cutIntoTokens 48 = .ok (.aload_n 0, 1) := by decide +kernel
theorem dX8_cutIntoTokens_49 : decode cX8_cutIntoTokens 49 = .ok (.getfield 19, 3) := by decide +kernel
theorem dX8_cutIntoTokens_52 : decode cX8_cutIntoTokens 52 = .ok (.iload_n 1, 1) := by decide +kernel
theorem dX8_cutIntoTokens_53 : decode cX8_cutIntoTokens 53 = .ok (.aload_n 0, 1) := by decide +kernel
theorem dX8_cutIntoTokens_54 : decode cX8_cutIntoTokens 54 = .ok (.iload_n 2, 1) := by decide +kernel
theorem dX8_cutIntoTokens_55 : decode cX8_cutIntoTokens 55 = .ok (.iload_n 3, 1) := by decide +kernel
theorem dX8_cutIntoTokens_56 : decode cX8_cutIntoTokens 56 = .ok (.invokevirtual 36, 3) := by decide +kernel
theorem dX8_cutIntoTokens_59 : decode cX8_cutIntoTokens 59 = .ok (.iastore, 1) := by decide +kernel
theorem dX8_cutIntoTokens_60 : decode cX8_cutIntoTokens 60 = .ok (.aload_n 0, 1) := by decide +kernel
theorem dX8_cutIntoTokens_61 : decode cX8_cutIntoTokens 61 = .ok (.getfield 26, 3) := by decide +kernel
theorem dX8_cutIntoTokens_64 : decode cX8_cutIntoTokens 64 = .ok (.iload_n 1, 1) := by decide +kernel
theorem dX8_cutIntoTokens_65 : decode cX8_cutIntoTokens 65 = .ok (.aload_n 0, 1) := by decide +kernel
theorem dX8_cutIntoTokens_66 : decode cX8_cutIntoTokens 66 = .ok (.getfield 19, 3) := by decide +kernel
theorem dX8_cutIntoTokens_69 : decode cX8_cutIntoTokens 69 = .ok (.iload_n 1, 1) := by decide +kernel
theorem dX8_cutIntoTokens_70 : decode cX8_cutIntoTokens 70 = .ok (.iaload, 1) := by decide +kernel
theorem dX8_cutIntoTokens_71 : decode cX8_cutIntoTokens 71 = .ok (.iconst 4, 1) := by decide +kernel
theorem dX8_cutIntoTokens_72 : decode cX8_cutIntoTokens 72 = .ok (.if_icmp .ne 12, 3) := by decide +kernel
theorem dX8_cutIntoTokens_75 : decode cX8_cutIntoTokens 75 = .ok (.aload_n 0, 1) := by decide +kernel
theorem dX8_cutIntoTokens_76 : decode cX8_cutIntoTokens 76 = .ok (.iload_n 2, 1) := by decide +kernel
theorem dX8_cutIntoTokens_77 : decode cX8_cutIntoTokens 77 = .ok (.iload_n 3, 1) := by decide +kernel
theorem dX8_cutIntoTokens_78 : decode cX8_cutIntoTokens 78 = .ok (.invokevirtual 40, 3) := by decide +kernel
theorem dX8_cutIntoTokens_81 : decode cX8_cutIntoTokens 81 = .ok (.goto 4, 3) := by decide +kernel
theorem dX8_cutIntoTokens_84 : decode cX8_cutIntoTokens 84 = .ok (.iconst 0, 1) := by decide +kernel
theorem dX8_cutIntoTokens_85 : decode cX8_cutIntoTokens 85 = .ok (.iastore, 1) := by decide +kernel
theorem dX8_cutIntoTokens_86 : decode cX8_cutIntoTokens 86 = .ok (.iinc 1 1, 3) := by decide +kernel
theorem dX8_cutIntoTokens_89 : decode cX8_cutIntoTokens 89 = .ok (.iload_n 3, 1) := by decide +kernel
theorem dX8_cutIntoTokens_90 : decode cX8_cutIntoTokens 90 = .ok (.iload_n 2, 1) := by decide +kernel
theorem dX8_cutIntoTokens_91 : decode cX8_cutIntoTokens 91 = .ok (.iconst 1, 1) := by decide +kernel
theorem dX8_cutIntoTokens_92 : decode cX8_cutIntoTokens 92 = .ok (.iadd, 1) := by decide +kernel
theorem dX8_cutIntoTokens_93 : decode cX8_cutIntoTokens 93 = .ok (.invokestatic 43, 3) := by decide +kernel
theorem dX8_cutIntoTokens_96 : decode cX8_cutIntoTokens 96 = .ok (.istore_n 2, 1) := by decide +kernel
theorem dX8_cutIntoTokens_97 : decode cX8_cutIntoTokens 97 = .ok (.goto (-93), 3) := by decide +kernel
theorem dX8_cutIntoTokens_100 : decode cX8_cutIntoTokens 100 = .ok (.aload_n 0, 1) := by decide +kernel
theorem dX8_cutIntoTokens_101 : decode cX8_cutIntoTokens 101 = .ok (.getfield 19, 3) := by decide +kernel
theorem dX8_cutIntoTokens_104 : decode cX8_cutIntoTokens 104 = .ok (.iload_n 1, 1) := by decide +kernel
theorem dX8_cutIntoTokens_105 : decode cX8_cutIntoTokens 105 = .ok (.bipush 6, 2) := by decide +kernel
theorem dX8_cutIntoTokens_107 : decode cX8_cutIntoTokens 107 = .ok (.iastore, 1) := by decide +kernel
theorem dX8_cutIntoTokens_108 : decode cX8_cutIntoTokens 108 = .ok (.aload_n 0, 1) := by decide +kernel
theorem dX8_cutIntoTokens_109 : decode cX8_cutIntoTokens 109 = .ok (.getfield 23, 3) := by decide +kernel
theorem dX8_cutIntoTokens_112 : decode cX8_cutIntoTokens 112 = .ok (.iload_n 1, 1) := by decide +kernel
theorem dX8_cutIntoTokens_113 : decode cX8_cutIntoTokens 113 = .ok (.aload_n 0, 1) := by decide +kernel
theorem dX8_cutIntoTokens_114 : decode cX8_cutIntoTokens 114 = .ok (.getfield 15, 3) := by decide +kernel
theorem dX8_cutIntoTokens_117 : decode cX8_cutIntoTokens 117 = .ok (.iastore, 1) := by decide +kernel
theorem dX8_cutIntoTokens_118 : decode cX8_cutIntoTokens 118 = .ok (.return_, 1) := by decide +kernel
set_option maxRecDepth 20000 in
theorem ggX8_endOfToken_X8_at : GoodIn wsX8_endOfToken wsX8_at := goodIn_r _ [6, 1, 7, 14, 15, 16, 17, 18] (by decide +kernel) (by decide +kernel)
set_option maxRecDepth 20000 in
theorem gX8_endOfToken_X8_at : GoodIn wsX8_endOfToken (wsV RX8 29 RX8 yX8_at wsX8_at) := goodIn_app (goodIn_of _ (by decide +kernel)) ggX8_endOfToken_X8_at
set_option maxRecDepth 20000 in
theorem ggX8_endOfToken_X8_isLetter : GoodIn wsX8_endOfToken wsX8_isLetter := goodIn_r _ [10] (by decide +kernel) (by decide +kernel)
set_option maxRecDepth 20000 in
theorem gX8_endOfToken_X8_isLetter : GoodIn wsX8_endOfToken (va_wsS RX8 48 yX8_isLetter wsX8_isLetter) := goodIn_app (goodIn_of _ (by decide +kernel)) ggX8_endOfToken_X8_isLetter
set_option maxRecDepth 20000 in
theorem ggX8_endOfToken_X8_isDigit : GoodIn wsX8_endOfToken wsX8_isDigit := goodIn_r _ [13] (by decide +kernel) (by decide +kernel)
set_option maxRecDepth 20000 in
theorem gX8_endOfToken_X8_isDigit : GoodIn wsX8_endOfToken (va_wsS RX8 52 yX8_isDigit wsX8_isDigit) := goodIn_app (goodIn_of _ (by decide +kernel)) ggX8_endOfToken_X8_isDigit
theorem dX8_endOfToken_0 : decode cX8_endOfToken 0 = .ok (.iload_n 1, 1) := by decide +kernel
theorem dX8_endOfToken_1 : decode cX8_endOfToken 1 = .ok (.iconst 1, 1) := by decide +kernel
theorem dX8_endOfToken_2 : decode cX8_endOfToken 2 = .ok (.iadd, 1) := by decide +kernel
theorem dX8_endOfToken_3 : decode cX8_endOfToken 3 = .ok (.istore_n 2, 1) := by decide +kernel
theorem dX8_endOfToken_4 : decode cX8_endOfToken 4 = .ok (.aload_n 0, 1) := by decide +kernel
theorem dX8_endOfToken_5 : decode cX8_endOfToken 5 = .ok (.iload_n 1, 1) := by decide +kernel
theorem dX8_endOfToken_6 : decode cX8_endOfToken 6 = .ok (.invokevirtual 29, 3) := by decide +kernel
theorem dX8_endOfToken_9 : decode cX8_endOfToken 9 = .ok (.invokestatic 48, 3) := by decide +kernel
theorem dX8_endOfToken_12 : decode cX8_endOfToken 12 = .ok (.ifCond .eq 28, 3) := by decide +kernel
theorem dX8_endOfToken_15 : decode cX8_endOfToken 15 = .ok (.iload_n 2, 1) := by decide +kernel
theorem dX8_endOfToken_16 : decode cX8_endOfToken 16 = .ok (.aload_n 0, 1) := by decide +kernel
theorem dX8_endOfToken_17 : decode cX8_endOfToken 17 = .ok (.getfield 15, 3) := by decide +kernel
theorem dX8_endOfToken_20 : decode cX8_endOfToken 20 = .ok (.if_icmp .ge 56, 3) := by decide +kernel
theorem dX8_endOfToken_23 : decode cX8_endOfToken 23 = .ok (.aload_n 0, 1) := by decide +kernel
theorem dX8_endOfToken_24 : decode cX8_endOfToken 24 = .ok (.iload_n 2, 1) := by decide +kernel
theorem dX8_endOfToken_25 : decode cX8_endOfToken 25 = .ok (.invokevirtual 29, 3) := by decide +kernel
theorem dX8_endOfToken_28 : decode cX8_endOfToken 28 = .ok (.invokestatic 48, 3) := by decide +kernel
theorem dX8_endOfToken_31 : decode cX8_endOfToken 31 = .ok (.ifCond .eq 45, 3) := by decide +kernel
theorem dX8_endOfToken_34 : decode cX8_endOfToken 34 = .ok (.iinc 2 1, 3) := by decide +kernel
theorem dX8_endOfToken_37 : decode cX8_endOfToken 37 = .ok (.goto (-22), 3) := by decide +kernel
theorem dX8_endOfToken_40 : decode cX8_endOfToken 40 = .ok (.aload_n 0, 1) := by decide +kernel
theorem dX8_endOfToken_41 : decode cX8_endOfToken 41 = .ok (.iload_n 1, 1) := by decide +kernel
theorem dX8_endOfToken_42 : decode cX8_endOfToken 42 = .ok (.invokevirtual 29, 3) := by decide +kernel
theorem dX8_endOfToken_45 : decode cX8_endOfToken 45 = .ok (.invokestatic 52, 3) := by decide +kernel
theorem dX8_endOfToken_48 : decode cX8_endOfToken 48 = .ok (.ifCond .eq 28, 3) := by decide +kernel
theorem dX8_endOfToken_51 : decode cX8_endOfToken 51 = .ok (.iload_n 2, 1) := by decide +kernel
theorem dX8_endOfToken_52 : decode cX8_endOfToken 52 = .ok (.aload_n 0, 1) := by decide +kernel
theorem dX8_endOfToken_53 : decode cX8_endOfToken 53 = .ok (.getfield 15, 3) := by decide +kernel
theorem dX8_endOfToken_56 : decode cX8_endOfToken 56 = .ok (.if_icmp .ge 20, 3) := by decide +kernel
theorem dX8_endOfToken_59 : decode cX8_endOfToken 59 = .ok (.aload_n 0, 1) := by decide +kernel
theorem dX8_endOfToken_60 : decode cX8_endOfToken 60 = .ok (.iload_n 2, 1) := by decide +kernel
theorem dX8_endOfToken_61 : decode cX8_endOfToken 61 = .ok (.invokevirtual 29, 3) := by decide +kernel
theorem dX8_endOfToken_64 : decode cX8_endOfToken 64 = .ok (.invokestatic 52, 3) := by decide +kernel
theorem dX8_endOfToken_67 : decode cX8_endOfToken 67 = .ok (.ifCond .eq 9, 3) := by decide +kernel
theorem dX8_endOfToken_70 : decode cX8_endOfToken 70 = .ok (.iinc 2 1, 3) := by decide +kernel
theorem dX8_endOfToken_73 : decode cX8_endOfToken 73 = .ok (.goto (-22), 3) := by decide +kernel
theorem dX8_endOfToken_76 : decode cX8_endOfToken 76 = .ok (.iload_n 2, 1) := by decide +kernel
theorem dX8_endOfToken_77 : decode cX8_endOfToken 77 = .ok (.ireturn, 1) := by decide +kernel
set_option maxRecDepth 20000 in
theorem ggX8_tokenOf_X8_at : GoodIn wsX8_tokenOf wsX8_at := goodIn_r _ [5, 6, 7, 64, 65, 66, 67, 68] (by decide +kernel) (by decide +kernel)
set_option maxRecDepth 20000 in
theorem gX8_tokenOf_X8_at : GoodIn wsX8_tokenOf (wsV RX8 29 RX8 yX8_at wsX8_at) := goodIn_app (goodIn_of _ (by decide +kernel)) ggX8_tokenOf_X8_at
set_option maxRecDepth 20000 in
theorem ggX8_tokenOf_X8_isDigit : GoodIn wsX8_tokenOf wsX8_isDigit := goodIn_r _ [10] (by decide +kernel) (by decide +kernel)
set_option maxRecDepth 20000 in
theorem gX8_tokenOf_X8_isDigit : GoodIn wsX8_tokenOf (va_wsS RX8 52 yX8_isDigit wsX8_isDigit) := goodIn_app (goodIn_of _ (by decide +kernel)) ggX8_tokenOf_X8_isDigit
set_option maxRecDepth 20000 in
theorem ggX8_tokenOf_X8_spells : GoodIn wsX8_tokenOf wsX8_spells := goodIn_r _ [14, 15, 16, 17, 18, 19, 20, 21, 22, 23, 24, 25, 26, 1, 2, 3, 4, 5, 6, 7, 27, 28, 29, 30, 31, 32, 33, 34, 35, 36, 37, 38, 39, 40, 41, 42, 43, 44, 45, 46, 47, 48, 49, 50, 51, 52, 53, 54, 55, 56, 57, 58, 59, 60, 61, 62, 63, 64, 65, 66, 67, 68] (by decide +kernel) (by decide +kernel)
set_option maxRecDepth 20000 in
theorem gX8_tokenOf_X8_spells : GoodIn wsX8_tokenOf (wsV RX8 57 RX8 yX8_spells wsX8_spells) := goodIn_app (goodIn_of _ (by decide +kernel)) ggX8_tokenOf_X8_spells
theorem dX8_tokenOf_0 : decode cX8_tokenOf 0 = .ok (.aload_n 0, 1) := by decide +kernel
theorem dX8_tokenOf_1 : decode cX8_tokenOf 1 = .ok (.iload_n 1, 1) := by decide +kernel
theorem dX8_tokenOf_2 : decode cX8_tokenOf 2 = .ok (.invokevirtual 29, 3) := by decide +kernel
theorem dX8_tokenOf_5 : decode cX8_tokenOf 5 = .ok (.istore_n 3, 1) := by decide +kernel
theorem dX8_tokenOf_6 : decode cX8_tokenOf 6 = .ok (.iload_n 3, 1) := by decide +kernel
theorem dX8_tokenOf_7 : decode cX8_tokenOf 7 = .ok (.invokestatic 52, 3) := by decide +kernel
theorem dX8_tokenOf_10 : decode cX8_tokenOf 10 = .ok (.ifCond .eq 42, 3) := by decide +kernel
theorem dX8_tokenOf_13 : decode cX8_tokenOf 13 = .ok (.iload_n 2, 1) := by decide +kernel
theorem dX8_tokenOf_14 : decode cX8_tokenOf 14 = .ok (.iload_n 1, 1) := by decide +kernel
theorem dX8_tokenOf_15 : decode cX8_tokenOf 15 = .ok (.isub, 1) := by decide +kernel
theorem dX8_tokenOf_16 : decode cX8_tokenOf 16 = .ok (.iconst 1, 1) := by decide +kernel
theorem dX8_tokenOf_17 : decode cX8_tokenOf 17 = .ok (.if_icmp .eq 16, 3) := by decide +kernel
theorem dX8_tokenOf_20 : decode cX8_tokenOf 20 = .ok (.iload_n 2, 1) := by decide +kernel
theorem dX8_tokenOf_21 : decode cX8_tokenOf 21 = .ok (.iload_n 1, 1) := by decide +kernel
theorem dX8_tokenOf_22 : decode cX8_tokenOf 22 = .ok (.isub, 1) := by decide +kernel
theorem dX8_tokenOf_23 : decode cX8_tokenOf 23 = .ok (.iconst 2, 1) := by decide +kernel
theorem dX8_tokenOf_24 : decode cX8_tokenOf 24 = .ok (.if_icmp .ne 13, 3) := by decide +kernel
theorem dX8_tokenOf_27 : decode cX8_tokenOf 27 = .ok (.iload_n 3, 1) := by decide +kernel
theorem dX8_tokenOf_28 : decode cX8_tokenOf 28 = .ok (.bipush 48, 2) := by decide +kernel
theorem dX8_tokenOf_30 : decode cX8_tokenOf 30 = .ok (.if_icmp .eq 7, 3) := by decide +kernel
theorem dX8_tokenOf_33 : decode cX8_tokenOf 33 = .ok (.iconst 1, 1) := by decide +kernel
theorem dX8_tokenOf_34 : decode cX8_tokenOf 34 = .ok (.goto 4, 3) := by decide +kernel
theorem dX8_tokenOf_37 : decode cX8_tokenOf 37 = .ok (.iconst 0, 1) := by decide +kernel
theorem dX8_tokenOf_38 : decode cX8_tokenOf 38 = .ok (.istore 4, 2) := by decide +kernel
theorem dX8_tokenOf_40 : decode cX8_tokenOf 40 = .ok (.iload 4, 2) := by decide +kernel
theorem dX8_tokenOf_42 : decode cX8_tokenOf 42 = .ok (.ifCond .eq 7, 3) := by decide +kernel
theorem dX8_tokenOf_45 : decode cX8_tokenOf 45 = .ok (.iconst 4, 1) := by decide +kernel
theorem dX8_tokenOf_46 : decode cX8_tokenOf 46 = .ok (.goto 5, 3) := by decide +kernel
theorem dX8_tokenOf_49 : decode cX8_tokenOf 49 = .ok (.bipush 7, 2) := by decide +kernel
theorem dX8_tokenOf_51 : decode cX8_tokenOf 51 = .ok (.ireturn, 1) := by decide +kernel
theorem dX8_tokenOf_52 : decode cX8_tokenOf 52 = .ok (.iload_n 3, 1) := by decide +kernel
theorem dX8_tokenOf_53 : decode cX8_tokenOf 53 = .ok (.bipush 59, 2) := by decide +kernel
theorem dX8_tokenOf_55 : decode cX8_tokenOf 55 = .ok (.if_icmp .ne 5, 3) := by decide +kernel
theorem dX8_tokenOf_58 : decode cX8_tokenOf 58 = .ok (.iconst 5, 1) := by decide +kernel
theorem dX8_tokenOf_59 : decode cX8_tokenOf 59 = .ok (.ireturn, 1) := by decide +kernel
theorem dX8_tokenOf_60 : decode cX8_tokenOf 60 = .ok (.aload_n 0, 1) := by decide +kernel
theorem dX8_tokenOf_61 : decode cX8_tokenOf 61 = .ok (.ldc 55, 2) := by decide +kernel
theorem dX8_tokenOf_63 : decode cX8_tokenOf 63 = .ok (.iload_n 1, 1) := by decide +kernel
theorem dX8_tokenOf_64 : decode cX8_tokenOf 64 = .ok (.iload_n 2, 1) := by decide +kernel
theorem dX8_tokenOf_65 : decode cX8_tokenOf 65 = .ok (.invokevirtual 57, 3) := by decide +kernel
theorem dX8_tokenOf_68 : decode cX8_tokenOf 68 = .ok (.ifCond .eq 5, 3) := by decide +kernel
theorem dX8_tokenOf_71 : decode cX8_tokenOf 71 = .ok (.iconst 0, 1) := by decide +kernel
theorem dX8_tokenOf_72 : decode cX8_tokenOf 72 = .ok (.ireturn, 1) := by decide +kernel
theorem dX8_tokenOf_73 : decode cX8_tokenOf 73 = .ok (.aload_n 0, 1) := by decide +kernel
theorem dX8_tokenOf_74 : decode cX8_tokenOf 74 = .ok (.ldc 61, 2) := by decide +kernel
theorem dX8_tokenOf_76 : decode cX8_tokenOf 76 = .ok (.iload_n 1, 1) := by decide +kernel
theorem dX8_tokenOf_77 : decode cX8_tokenOf 77 = .ok (.iload_n 2, 1) := by decide +kernel
theorem dX8_tokenOf_78 : decode cX8_tokenOf 78 = .ok (.invokevirtual 57, 3) := by decide +kernel
theorem dX8_tokenOf_81 : decode cX8_tokenOf 81 = .ok (.ifCond .eq 5, 3) := by decide +kernel
theorem dX8_tokenOf_84 : decode cX8_tokenOf 84 = .ok (.iconst 1, 1) := by decide +kernel
theorem dX8_tokenOf_85 : decode cX8_tokenOf 85 = .ok (.ireturn, 1) := by decide +kernel
theorem dX8_tokenOf_86 : decode cX8_tokenOf 86 = .ok (.aload_n 0, 1) := by decide +kernel
theorem dX8_tokenOf_87 : decode cX8_tokenOf 87 = .ok (.ldc 63, 2) := by decide +kernel
theorem dX8_tokenOf_89 : decode cX8_tokenOf 89 = .ok (.iload_n 1, 1) := by decide +kernel
theorem dX8_tokenOf_90 : decode cX8_tokenOf 90 = .ok (.iload_n 2, 1) := by decide +kernel
theorem dX8_tokenOf_91 : decode cX8_tokenOf 91 = .ok (.invokevirtual 57, 3) := by decide +kernel
theorem dX8_tokenOf_94 : decode cX8_tokenOf 94 = .ok (.ifCond .eq 5, 3) := by decide +kernel
theorem dX8_tokenOf_97 : decode cX8_tokenOf 97 = .ok (.iconst 2, 1) := by decide +kernel
theorem dX8_tokenOf_98 : decode cX8_tokenOf 98 = .ok (.ireturn, 1) := by decide +kernel
theorem dX8_tokenOf_99 : decode cX8_tokenOf 99 = .ok (.aload_n 0, 1) := by decide +kernel
theorem dX8_tokenOf_100 : decode cX8_tokenOf 100 = .ok (.ldc 65, 2) := by decide +kernel
theorem dX8_tokenOf_102 : decode cX8_tokenOf 102 = .ok (.iload_n 1, 1) := by decide +kernel
theorem dX8_tokenOf_103 : decode cX8_tokenOf 103 = .ok (.iload_n 2, 1) := by decide +kernel
theorem dX8_tokenOf_104 : decode cX8_tokenOf 104 = .ok (.invokevirtual 57, 3) := by decide +kernel
theorem dX8_tokenOf_107 : decode cX8_tokenOf 107 = .ok (.ifCond .eq 7, 3) := by decide +kernel
theorem dX8_tokenOf_110 : decode cX8_tokenOf 110 = .ok (.iconst 3, 1) := by decide +kernel
theorem dX8_tokenOf_111 : decode cX8_tokenOf 111 = .ok (.goto 5, 3) := by decide +kernel
theorem dX8_tokenOf_114 : decode cX8_tokenOf 114 = .ok (.bipush 7, 2) := by decide +kernel
theorem dX8_tokenOf_116 : decode cX8_tokenOf 116 = .ok (.ireturn, 1) := by decide +kernel
set_option maxRecDepth 20000 in
theorem ggX8_spells_J0_length_8abf5 : GoodIn wsX8_spells wsJ0_length_8abf5 := goodIn_r _ [5, 6, 7, 8, 9, 4, 10, 11, 12] (by decide +kernel) (by decide +kernel)
set_option maxRecDepth 20000 in
theorem gX8_spells_J0_length_8abf5 : GoodIn wsX8_spells (wsV RX8 67 RJ0 yJ0_length_8abf5 wsJ0_length_8abf5) := goodIn_app (goodIn_of _ (by decide +kernel)) ggX8_spells_J0_length_8abf5
set_option maxRecDepth 20000 in
theorem ggX8_spells_X8_at : GoodIn wsX8_spells wsX8_at := goodIn_r _ [17, 18, 19, 57, 58, 59, 60, 61] (by decide +kernel) (by decide +kernel)
set_option maxRecDepth 20000 in
theorem gX8_spells_X8_at : GoodIn wsX8_spells (wsV RX8 29 RX8 yX8_at wsX8_at) := goodIn_app (goodIn_of _ (by decide +kernel)) ggX8_spells_X8_at
set_option maxRecDepth 20000 in
theorem ggX8_spells_J0_charAt_5068e : GoodIn wsX8_spells wsJ0_charAt_5068e := goodIn_r _ [23, 6, 24, 25, 26, 4, 27, 11, 12, 28, 29, 30, 31, 32, 33, 34, 35, 36, 37, 38, 39, 40, 41, 42, 43, 44, 45, 46, 47, 48, 49, 50, 51, 52, 53, 54, 55, 56] (by decide +kernel) (by decide +kernel)
set_option maxRecDepth 20000 in
theorem gX8_spells_J0_charAt_5068e : GoodIn wsX8_spells (wsV RX8 72 RJ0 yJ0_charAt_5068e wsJ0_charAt_5068e) := goodIn_app (goodIn_of _ (by decide +kernel)) ggX8_spells_J0_charAt_5068e
theorem dX8_spells_0 : decode cX8_spells 0 = .ok (.iload_n 3, 1) := by decide +kernel
theorem dX8_spells_1 : decode cX8_spells 1 = .ok (.iload_n 2, 1) := by decide +kernel
theorem dX8_spells_2 : decode cX8_spells 2 = .ok (.isub, 1) := by decide +kernel
theorem dX8_spells_3 : decode cX8_spells 3 = .ok (.aload_n 1, 1) := by decide +kernel
theorem dX8_spells_4 : decode cX8_spells 4 = .ok (.invokevirtual 67, 3) := by decide +kernel
theorem dX8_spells_7 : decode cX8_spells 7 = .ok (.if_icmp .eq 5, 3) := by decide +kernel
theorem dX8_spells_10 : decode cX8_spells 10 = .ok (.iconst 0, 1) := by decide +kernel
theorem dX8_spells_11 : decode cX8_spells 11 = .ok (.ireturn, 1) := by decide +kernel
theorem dX8_spells_12 : decode cX8_spells 12 = .ok (.iconst 0, 1) := by decide +kernel
theorem dX8_spells_13 : decode cX8_spells 13 = .ok (.istore 4, 2) := by decide +kernel
theorem dX8_spells_15 : decode cX8_spells 15 = .ok (.iload 4, 2) := by decide +kernel
theorem dX8_spells_17 : decode cX8_spells 17 = .ok (.aload_n 1, 1) := by decide +kernel
theorem dX8_spells_18 : decode cX8_spells 18 = .ok (.invokevirtual 67, 3) := by decide +kernel
theorem dX8_spells_21 : decode cX8_spells 21 = .ok (.if_icmp .ge 28, 3) := by decide +kernel
theorem dX8_spells_24 : decode cX8_spells 24 = .ok (.aload_n 0, 1) := by decide +kernel
theorem dX8_spells_25 : decode cX8_spells 25 = .ok (.iload_n 2, 1) := by decide +kernel
theorem dX8_spells_26 : decode cX8_spells 26 = .ok (.iload 4, 2) := by decide +kernel
theorem dX8_spells_28 : decode cX8_spells 28 = .ok (.iadd, 1) := by decide +kernel
theorem dX8_spells_29 : decode cX8_spells 29 = .ok (.invokevirtual 29, 3) := by decide +kernel
theorem dX8_spells_32 : decode cX8_spells 32 = .ok (.aload_n 1, 1) := by decide +kernel
theorem dX8_spells_33 : decode cX8_spells 33 = .ok (.iload 4, 2) := by decide +kernel
theorem dX8_spells_35 : decode cX8_spells 35 = .ok (.invokevirtual 72, 3) := by decide +kernel
theorem dX8_spells_38 : decode cX8_spells 38 = .ok (.if_icmp .eq 5, 3) := by decide +kernel
theorem dX8_spells_41 : decode cX8_spells 41 = .ok (.iconst 0, 1) := by decide +kernel
theorem dX8_spells_42 : decode cX8_spells 42 = .ok (.ireturn, 1) := by decide +kernel
theorem dX8_spells_43 : decode cX8_spells 43 = .ok (.iinc 4 1, 3) := by decide +kernel
theorem dX8_spells_46 : decode cX8_spells 46 = .ok (.goto (-31), 3) := by decide +kernel
theorem dX8_spells_49 : decode cX8_spells 49 = .ok (.iconst 1, 1) := by decide +kernel
theorem dX8_spells_50 : decode cX8_spells 50 = .ok (.ireturn, 1) := by decide +kernel
set_option maxRecDepth 20000 in
theorem ggX8_numberAt_X8_at : GoodIn wsX8_numberAt wsX8_at := goodIn_r _ [5, 6, 7, 8, 9, 10, 11, 12] (by decide +kernel) (by decide +kernel)
set_option maxRecDepth 20000 in
theorem gX8_numberAt_X8_at : GoodIn wsX8_numberAt (wsV RX8 29 RX8 yX8_at wsX8_at) := goodIn_app (goodIn_of _ (by decide +kernel)) ggX8_numberAt_X8_at
theorem dX8_numberAt_0 : decode cX8_numberAt 0 = .ok (.iconst 0, 1) := by decide +kernel
theorem dX8_numberAt_1 : decode cX8_numberAt 1 = .ok (.istore_n 3, 1) := by decide +kernel
theorem dX8_numberAt_2 : decode cX8_numberAt 2 = .ok (.iload_n 1, 1) := by decide +kernel
theorem dX8_numberAt_3 : decode cX8_numberAt 3 = .ok (.istore 4, 2) := by decide +kernel
theorem dX8_numberAt_5 : decode cX8_numberAt 5 = .ok (.iload 4, 2) := by decide +kernel
theorem dX8_numberAt_7 : decode cX8_numberAt 7 = .ok (.iload_n 2, 1) := by decide +kernel
theorem dX8_numberAt_8 : decode cX8_numberAt 8 = .ok (.if_icmp .ge 24, 3) := by decide +kernel
theorem dX8_numberAt_11 : decode cX8_numberAt 11 = .ok (.iload_n 3, 1) := by decide +kernel
theorem dX8_numberAt_12 : decode cX8_numberAt 12 = .ok (.bipush 10, 2) := by decide +kernel
theorem dX8_numberAt_14 : decode cX8_numberAt 14 = .ok (.imul, 1) := by decide +kernel
theorem dX8_numberAt_15 : decode cX8_numberAt 15 = .ok (.aload_n 0, 1) := by decide +kernel
theorem dX8_numberAt_16 : decode cX8_numberAt 16 = .ok (.iload 4, 2) := by decide +kernel
theorem dX8_numberAt_18 : decode cX8_numberAt 18 = .ok (.invokevirtual 29, 3) := by decide +kernel
theorem dX8_numberAt_21 : decode cX8_numberAt 21 = .ok (.iadd, 1) := by decide +kernel
theorem dX8_numberAt_22 : decode cX8_numberAt 22 = .ok (.bipush 48, 2) := by decide +kernel
theorem dX8_numberAt_24 : decode cX8_numberAt 24 = .ok (.isub, 1) := by decide +kernel
theorem dX8_numberAt_25 : decode cX8_numberAt 25 = .ok (.istore_n 3, 1) := by decide +kernel
theorem dX8_numberAt_26 : decode cX8_numberAt 26 = .ok (.iinc 4 1, 3) := by decide +kernel
theorem dX8_numberAt_29 : decode cX8_numberAt 29 = .ok (.goto (-24), 3) := by decide +kernel
theorem dX8_numberAt_32 : decode cX8_numberAt 32 = .ok (.iload_n 3, 1) := by decide +kernel
theorem dX8_numberAt_33 : decode cX8_numberAt 33 = .ok (.ireturn, 1) := by decide +kernel
theorem dX8_isLetter_0 : decode cX8_isLetter 0 = .ok (.iload_n 0, 1) := by decide +kernel
theorem dX8_isLetter_1 : decode cX8_isLetter 1 = .ok (.bipush 97, 2) := by decide +kernel
theorem dX8_isLetter_3 : decode cX8_isLetter 3 = .ok (.if_icmp .lt 13, 3) := by decide +kernel
theorem dX8_isLetter_6 : decode cX8_isLetter 6 = .ok (.iload_n 0, 1) := by decide +kernel
theorem dX8_isLetter_7 : decode cX8_isLetter 7 = .ok (.bipush 122, 2) := by decide +kernel
theorem dX8_isLetter_9 : decode cX8_isLetter 9 = .ok (.if_icmp .gt 7, 3) := by decide +kernel
theorem dX8_isLetter_12 : decode cX8_isLetter 12 = .ok (.iconst 1, 1) := by decide +kernel
theorem dX8_isLetter_13 : decode cX8_isLetter 13 = .ok (.goto 4, 3) := by decide +kernel
theorem dX8_isLetter_16 : decode cX8_isLetter 16 = .ok (.iconst 0, 1) := by decide +kernel
theorem dX8_isLetter_17 : decode cX8_isLetter 17 = .ok (.ireturn, 1) := by decide +kernel
theorem dX8_isDigit_0 : decode cX8_isDigit 0 = .ok (.iload_n 0, 1) := by decide +kernel
theorem dX8_isDigit_1 : decode cX8_isDigit 1 = .ok (.bipush 48, 2) := by decide +kernel
theorem dX8_isDigit_3 : decode cX8_isDigit 3 = .ok (.if_icmp .lt 13, 3) := by decide +kernel
theorem dX8_isDigit_6 : decode cX8_isDigit 6 = .ok (.iload_n 0, 1) := by decide +kernel
theorem dX8_isDigit_7 : decode cX8_isDigit 7 = .ok (.bipush 57, 2) := by decide +kernel
theorem dX8_isDigit_9 : decode cX8_isDigit 9 = .ok (.if_icmp .gt 7, 3) := by decide +kernel
theorem dX8_isDigit_12 : decode cX8_isDigit 12 = .ok (.iconst 1, 1) := by decide +kernel
theorem dX8_isDigit_13 : decode cX8_isDigit 13 = .ok (.goto 4, 3) := by decide +kernel
theorem dX8_isDigit_16 : decode cX8_isDigit 16 = .ok (.iconst 0, 1) := by decide +kernel
theorem dX8_isDigit_17 : decode cX8_isDigit 17 = .ok (.ireturn, 1) := by decide +kernel
set_option maxRecDepth 20000 in
theorem ggX9_init_X8_init : GoodIn wsX9_init wsX8_init := goodIn_r _ [48, 49, 2, 3, 50, 51, 52, 53, 54, 55, 56, 254, 255, 256, 257, 258] (by decide +kernel) (by decide +kernel)
set_option maxRecDepth 20000 in
theorem gX9_init_X8_init_n11 : GoodIn wsX9_init (wsX8_init) := ggX9_init_X8_init
set_option maxRecDepth 20000 in
theorem ggX9_init_X6_init : GoodIn wsX9_init wsX6_init := goodIn_r _ [59, 60, 2, 3, 61, 62, 63, 64, 273, 274, 275, 276] (by decide +kernel) (by decide +kernel)
set_option maxRecDepth 20000 in
theorem gX9_init_X6_init : GoodIn wsX9_init (wsX6_init) := ggX9_init_X6_init
set_option maxRecDepth 20000 in
theorem ggX9_init_X3_init : GoodIn wsX9_init wsX3_init := goodIn_r _ [66, 67, 2, 3, 68, 69, 53, 70, 71, 72, 73, 74, 75, 76, 77, 277, 278, 279, 280, 281, 282, 283, 284, 285, 286] (by decide +kernel) (by decide +kernel)
set_option maxRecDepth 20000 in
theorem gX9_init_X3_init_n27 : GoodIn wsX9_init (wsX3_init) := ggX9_init_X3_init
set_option maxRecDepth 20000 in
theorem ggX9_init_X4_init : GoodIn wsX9_init wsX4_init := goodIn_r _ [79, 80, 2, 3, 81, 82, 53, 83, 84, 85, 86, 87, 88, 287, 288, 289, 290, 291, 292, 293, 294] (by decide +kernel) (by decide +kernel)
set_option maxRecDepth 20000 in
theorem gX9_init_X4_init_n37 : GoodIn wsX9_init (wsX4_init) := ggX9_init_X4_init
set_option maxRecDepth 20000 in
theorem ggX9_init_X7_init : GoodIn wsX9_init wsX7_init := goodIn_r _ [90, 91, 2, 3, 53, 92, 295] (by decide +kernel) (by decide +kernel)
set_option maxRecDepth 20000 in
theorem gX9_init_X7_init_n44 : GoodIn wsX9_init (wsX7_init) := ggX9_init_X7_init
set_option maxRecDepth 20000 in
theorem ggX9_init_X0_init : GoodIn wsX9_init wsX0_init := goodIn_r _ [94, 95, 2, 3, 53, 96, 97, 296, 297] (by decide +kernel) (by decide +kernel)
set_option maxRecDepth 20000 in
theorem gX9_init_X0_init_n51 : GoodIn wsX9_init (wsX0_init) := ggX9_init_X0_init
set_option maxRecDepth 20000 in
theorem ggX9_init_X1_init : GoodIn wsX9_init wsX1_init := goodIn_r _ [99, 100, 2, 3, 101, 53, 102, 103, 104, 105, 106, 298, 299, 300, 301, 302] (by decide +kernel) (by decide +kernel)
set_option maxRecDepth 20000 in
theorem gX9_init_X1_init_n58 : GoodIn wsX9_init (wsX1_init) := ggX9_init_X1_init
set_option maxRecDepth 20000 in
theorem ggX9_init_X5_init : GoodIn wsX9_init wsX5_init := goodIn_r _ [108, 109, 2, 3, 53, 110, 111, 112, 113, 303, 304, 305] (by decide +kernel) (by decide +kernel)
set_option maxRecDepth 20000 in
theorem gX9_init_X5_init_n65 : GoodIn wsX9_init (wsX5_init) := ggX9_init_X5_init
set_option maxRecDepth 20000 in
theorem ggX9_init_X2_init : GoodIn wsX9_init wsX2_init := goodIn_r _ [115, 116, 2, 3, 117, 118, 119, 120, 121, 122, 53, 123, 306, 307, 308, 309, 310, 311, 312] (by decide +kernel) (by decide +kernel)
set_option maxRecDepth 20000 in
theorem gX9_init_X2_init_n72 : GoodIn wsX9_init (wsX2_init) := ggX9_init_X2_init
set_option maxRecDepth 20000 in
theorem ggX9_init_X9_startAnew : GoodIn wsX9_init wsX9_startAnew := goodIn_r _ [128, 20, 15, 24, 28, 32, 40, 44, 129, 130, 131, 19, 132, 81, 82, 133, 134, 135, 136, 137, 138, 83, 84, 85, 86, 139, 87, 140, 141, 142, 143, 144, 88, 145, 146, 147, 148, 14, 149, 71, 150, 151, 152, 153, 70, 74, 154, 155, 156, 157, 68, 158, 159, 160, 23, 161, 92, 162, 163, 164, 165, 166, 167, 168, 169, 170, 171, 172, 173, 174, 175, 176, 177, 178, 27, 179, 96, 97, 180, 181, 182, 183, 184, 185, 186, 187, 188, 189, 190, 191, 192, 193, 194, 195, 196, 197, 198, 199, 200, 201, 202, 203, 204, 205, 206, 207, 208, 209, 210, 211, 212, 31, 213, 102, 214, 215, 216, 217, 218, 104, 103, 106, 219, 220, 221, 222, 223, 105, 224, 225, 226, 227, 228, 229, 230, 231, 232, 233, 127, 234, 235, 236, 237, 238, 239, 240, 241, 242, 243, 244, 245, 246, 39, 247, 117, 118, 119, 120, 121, 248, 249, 250, 251, 252, 123, 253, 259, 260, 261, 262, 263, 264, 265, 266, 267, 268, 269, 270, 271, 272, 287, 288, 289, 290, 291, 292, 293, 294, 277, 278, 279, 280, 281, 282, 283, 284, 285, 286, 295, 296, 297, 298, 299, 300, 301, 302, 306, 307, 308, 309, 310, 311, 312] (by decide +kernel) (by decide +kernel)
set_option maxRecDepth 20000 in
theorem gX9_init_X9_startAnew : GoodIn wsX9_init (wsV RX9 96 RX9 yX9_startAnew wsX9_startAnew) := goodIn_app (goodIn_of _ (by decide +kernel)) ggX9_init_X9_startAnew
theorem dX9_init_0 : decode cX9_init 0 = .ok (.aload_n 0, 1) := by decide +kernel
theorem dX9_init_1 : decode cX9_init 1 = .ok (.invokespecial 3, 3) := by decide +kernel
theorem dX9_init_4 : decode cX9_init 4 = .ok (.aload_n 0, 1) := by decide +kernel
theorem dX9_init_5 : decode cX9_init 5 = .ok (.new 9, 3) := by decide +kernel
theorem dX9_init_8 : decode cX9_init 8 = .ok (.dup, 1) := by decide +kernel
theorem dX9_init_9 : decode cX9_init 9 = .ok (.invokespecial 11, 3) := by decide +kernel
theorem dX9_init_12 : decode cX9_init 12 = .ok (.putfield 12, 3) := by decide +kernel
theorem dX9_init_15 : decode cX9_init 15 = .ok (.aload_n 0, 1) := by decide +kernel
theorem dX9_init_16 : decode cX9_init 16 = .ok (.new 16, 3) := by decide +kernel
theorem dX9_init_19 : decode cX9_init 19 = .ok (.dup, 1) := by decide +kernel
theorem dX9_init_20 : decode cX9_init 20 = .ok (.aload_n 0, 1) := by decide +kernel
theorem dX9_init_21 : decode cX9_init 21 = .ok (.getfield 12, 3) := by decide +kernel
theorem dX9_init_24 : decode cX9_init 24 = .ok (.invokespecial 18, 3) := by decide +kernel
theorem dX9_init_27 : decode cX9_init 27 = .ok (.putfield 21, 3) := by decide +kernel
theorem dX9_init_30 : decode cX9_init 30 = .ok (.aload_n 0, 1) := by decide +kernel
theorem dX9_init_31 : decode cX9_init 31 = .ok (.new 25, 3) := by decide +kernel
theorem dX9_init_34 : decode cX9_init 34 = .ok (.dup, 1) := by decide +kernel
theorem dX9_init_35 : decode cX9_init 35 = .ok (.invokespecial 27, 3) := by decide +kernel
theorem dX9_init_38 : decode cX9_init 38 = .ok (.putfield 28, 3) := by decide +kernel
theorem dX9_init_41 : decode cX9_init 41 = .ok (.aload_n 0, 1) := by decide +kernel
theorem dX9_init_42 : decode cX9_init 42 = .ok (.new 25, 3) := by decide +kernel
theorem dX9_init_45 : decode cX9_init 45 = .ok (.dup, 1) := by decide +kernel
theorem dX9_init_46 : decode cX9_init 46 = .ok (.invokespecial 27, 3) := by decide +kernel
theorem dX9_init_49 : decode cX9_init 49 = .ok (.putfield 32, 3) := by decide +kernel
theorem dX9_init_52 : decode cX9_init 52 = .ok (.aload_n 0, 1) := by decide +kernel
theorem dX9_init_53 : decode cX9_init 53 = .ok (.new 35, 3) := by decide +kernel
theorem dX9_init_56 : decode cX9_init 56 = .ok (.dup, 1) := by decide +kernel
theorem dX9_init_57 : decode cX9_init 57 = .ok (.invokespecial 37, 3) := by decide +kernel
theorem dX9_init_60 : decode cX9_init 60 = .ok (.putfield 38, 3) := by decide +kernel
theorem dX9_init_63 : decode cX9_init 63 = .ok (.aload_n 0, 1) := by decide +kernel
theorem dX9_init_64 : decode cX9_init 64 = .ok (.new 42, 3) := by decide +kernel
theorem dX9_init_67 : decode cX9_init 67 = .ok (.dup, 1) := by decide +kernel
theorem dX9_init_68 : decode cX9_init 68 = .ok (.invokespecial 44, 3) := by decide +kernel
theorem dX9_init_71 : decode cX9_init 71 = .ok (.putfield 45, 3) := by decide +kernel
theorem dX9_init_74 : decode cX9_init 74 = .ok (.aload_n 0, 1) := by decide +kernel
theorem dX9_init_75 : decode cX9_init 75 = .ok (.new 49, 3) := by decide +kernel
theorem dX9_init_78 : decode cX9_init 78 = .ok (.dup, 1) := by decide +kernel
theorem dX9_init_79 : decode cX9_init 79 = .ok (.invokespecial 51, 3) := by decide +kernel
theorem dX9_init_82 : decode cX9_init 82 = .ok (.putfield 52, 3) := by decide +kernel
theorem dX9_init_85 : decode cX9_init 85 = .ok (.aload_n 0, 1) := by decide +kernel
theorem dX9_init_86 : decode cX9_init 86 = .ok (.new 56, 3) := by decide +kernel
theorem dX9_init_89 : decode cX9_init 89 = .ok (.dup, 1) := by decide +kernel
theorem dX9_init_90 : decode cX9_init 90 = .ok (.invokespecial 58, 3) := by decide +kernel
theorem dX9_init_93 : decode cX9_init 93 = .ok (.putfield 59, 3) := by decide +kernel
theorem dX9_init_96 : decode cX9_init 96 = .ok (.aload_n 0, 1) := by decide +kernel
theorem dX9_init_97 : decode cX9_init 97 = .ok (.new 63, 3) := by decide +kernel
theorem dX9_init_100 : decode cX9_init 100 = .ok (.dup, 1) := by decide +kernel
theorem dX9_init_101 : decode cX9_init 101 = .ok (.invokespecial 65, 3) := by decide +kernel
theorem dX9_init_104 : decode cX9_init 104 = .ok (.putfield 66, 3) := by decide +kernel
theorem dX9_init_107 : decode cX9_init 107 = .ok (.aload_n 0, 1) := by decide +kernel
theorem dX9_init_108 : decode cX9_init 108 = .ok (.new 70, 3) := by decide +kernel
theorem dX9_init_111 : decode cX9_init 111 = .ok (.dup, 1) := by decide +kernel
theorem dX9_init_112 : decode cX9_init 112 = .ok (.invokespecial 72, 3) := by decide +kernel
theorem dX9_init_115 : decode cX9_init 115 = .ok (.putfield 73, 3) := by decide +kernel
theorem dX9_init_118 : decode cX9_init 118 = .ok (.aload_n 0, 1) := by decide +kernel
theorem dX9_init_119 : decode cX9_init 119 = .ok (.new 70, 3) := by decide +kernel
theorem dX9_init_122 : decode cX9_init 122 = .ok (.dup, 1) := by decide +kernel
theorem dX9_init_123 : decode cX9_init 123 = .ok (.invokespecial 72, 3) := by decide +kernel
theorem dX9_init_126 : decode cX9_init 126 = .ok (.putfield 77, 3) := by decide +kernel
theorem dX9_init_129 : decode cX9_init 129 = .ok (.aload_n 0, 1) := by decide +kernel
theorem dX9_init_130 : decode cX9_init 130 = .ok (.iconst 2, 1) := by decide +kernel
theorem dX9_init_131 : decode cX9_init 131 = .ok (.anewarray 70, 3) := by decide +kernel
theorem dX9_init_134 : decode cX9_init 134 = .ok (.putfield 80, 3) := by decide +kernel
theorem dX9_init_137 : decode cX9_init 137 = .ok (.aload_n 0, 1) := by decide +kernel
theorem dX9_init_138 : decode cX9_init 138 = .ok (.iconst 2, 1) := by decide +kernel
theorem dX9_init_139 : decode cX9_init 139 = .ok (.newarray .boolean, 2) := by decide +kernel
theorem dX9_init_141 : decode cX9_init 141 = .ok (.putfield 84, 3) := by decide +kernel
theorem dX9_init_144 : decode cX9_init 144 = .ok (.aload_n 0, 1) := by decide +kernel
theorem dX9_init_145 : decode cX9_init 145 = .ok (.lconst 0, 1) := by decide +kernel
theorem dX9_init_146 : decode cX9_init 146 = .ok (.putfield 88, 3) := by decide +kernel
theorem dX9_init_149 : decode cX9_init 149 = .ok (.iconst 0, 1) := by decide +kernel
theorem dX9_init_150 : decode cX9_init 150 = .ok (.istore_n 1, 1) := by decide +kernel
theorem dX9_init_151 : decode cX9_init 151 = .ok (.iload_n 1, 1) := by decide +kernel
theorem dX9_init_152 : decode cX9_init 152 = .ok (.iconst 2, 1) := by decide +kernel
theorem dX9_init_153 : decode cX9_init 153 = .ok (.if_icmp .ge 22, 3) := by decide +kernel
theorem dX9_init_156 : decode cX9_init 156 = .ok (.aload_n 0, 1) := by decide +kernel
theorem dX9_init_157 : decode cX9_init 157 = .ok (.getfield 80, 3) := by decide +kernel
theorem dX9_init_160 : decode cX9_init 160 = .ok (.iload_n 1, 1) := by decide +kernel
theorem dX9_init_161 : decode cX9_init 161 = .ok (.new 70, 3) := by decide +kernel
theorem dX9_init_164 : decode cX9_init 164 = .ok (.dup, 1) := by decide +kernel
theorem dX9_init_165 : decode cX9_init 165 = .ok (.invokespecial 72, 3) := by decide +kernel
theorem dX9_init_168 : decode cX9_init 168 = .ok (.aastore, 1) := by decide +kernel
theorem dX9_init_169 : decode cX9_init 169 = .ok (.iinc 1 1, 3) := by decide +kernel
theorem dX9_init_172 : decode cX9_init 172 = .ok (.goto (-21), 3) := by decide +kernel
theorem dX9_init_175 : decode cX9_init 175 = .ok (.aload_n 0, 1) := by decide +kernel
theorem dX9_init_176 : decode cX9_init 176 = .ok (.getfield 73, 3) := by decide +kernel
theorem dX9_init_179 : decode cX9_init 179 = .ok (.iconst 1, 1) := by decide +kernel
theorem dX9_init_180 : decode cX9_init 180 = .ok (.putfield 92, 3) := by decide +kernel
theorem dX9_init_183 : decode cX9_init 183 = .ok (.aload_n 0, 1) := by decide +kernel
theorem dX9_init_184 : decode cX9_init 184 = .ok (.invokevirtual 96, 3) := by decide +kernel
theorem dX9_init_187 : decode cX9_init 187 = .ok (.return_, 1) := by decide +kernel
set_option maxRecDepth 20000 in
theorem ggX9_type_X8_room : GoodIn wsX9_type wsX8_room := goodIn_r _ [7, 8, 28, 29, 30, 31, 32] (by decide +kernel) (by decide +kernel)
set_option maxRecDepth 20000 in
theorem gX9_type_X8_room : GoodIn wsX9_type (wsV RX9 99 RX8 yX8_room wsX8_room) := goodIn_app (goodIn_of _ (by decide +kernel)) ggX9_type_X8_room
set_option maxRecDepth 20000 in
theorem ggX9_type_X8_add : GoodIn wsX9_type wsX8_add := goodIn_r _ [12, 8, 13, 28, 29, 30, 31, 32] (by decide +kernel) (by decide +kernel)
set_option maxRecDepth 20000 in
theorem gX9_type_X8_add : GoodIn wsX9_type (wsV RX9 103 RX8 yX8_add wsX8_add) := goodIn_app (goodIn_of _ (by decide +kernel)) ggX9_type_X8_add
theorem dX9_type_0 : decode cX9_type 0 = .ok (.iload_n 3, 1) := by decide +kernel
theorem dX9_type_1 : decode cX9_type 1 = .ok (.iconst 1, 1) := by decide +kernel
theorem dX9_type_2 : decode cX9_type 2 = .ok (.if_icmp .lt 9, 3) := by decide +kernel
theorem dX9_type_5 : decode cX9_type 5 = .ok (.iload_n 3, 1) := by decide +kernel
theorem dX9_type_6 : decode cX9_type 6 = .ok (.bipush 8, 2) := by decide +kernel
theorem dX9_type_8 : decode cX9_type 8 = .ok (.if_icmp .le 5, 3) := by decide +kernel
theorem dX9_type_11 : decode cX9_type 11 = .ok (.iconst (-1), 1) := by decide +kernel
theorem dX9_type_12 : decode cX9_type 12 = .ok (.ireturn, 1) := by decide +kernel
theorem dX9_type_13 : decode cX9_type 13 = .ok (.iload_n 3, 1) := by decide +kernel
theorem dX9_type_14 : decode cX9_type 14 = .ok (.aload_n 0, 1) := by decide +kernel
theorem dX9_type_15 : decode cX9_type 15 = .ok (.getfield 12, 3) := by decide +kernel
theorem dX9_type_18 : decode cX9_type 18 = .ok (.invokevirtual 99, 3) := by decide +kernel
theorem dX9_type_21 : decode cX9_type 21 = .ok (.if_icmp .le 6, 3) := by decide +kernel
theorem dX9_type_24 : decode cX9_type 24 = .ok (.bipush (-3), 2) := by decide +kernel
theorem dX9_type_26 : decode cX9_type 26 = .ok (.ireturn, 1) := by decide +kernel
theorem dX9_type_27 : decode cX9_type 27 = .ok (.iload_n 3, 1) := by decide +kernel
theorem dX9_type_28 : decode cX9_type 28 = .ok (.iconst 1, 1) := by decide +kernel
theorem dX9_type_29 : decode cX9_type 29 = .ok (.isub, 1) := by decide +kernel
theorem dX9_type_30 : decode cX9_type 30 = .ok (.istore 4, 2) := by decide +kernel
theorem dX9_type_32 : decode cX9_type 32 = .ok (.iload 4, 2) := by decide +kernel
theorem dX9_type_34 : decode cX9_type 34 = .ok (.ifCond .lt 25, 3) := by decide +kernel
theorem dX9_type_37 : decode cX9_type 37 = .ok (.aload_n 0, 1) := by decide +kernel
theorem dX9_type_38 : decode cX9_type 38 = .ok (.getfield 12, 3) := by decide +kernel
theorem dX9_type_41 : decode cX9_type 41 = .ok (.lload_n 1, 1) := by decide +kernel
theorem dX9_type_42 : decode cX9_type 42 = .ok (.bipush 8, 2) := by decide +kernel
theorem dX9_type_44 : decode cX9_type 44 = .ok (.iload 4, 2) := by decide +kernel
theorem dX9_type_46 : decode cX9_type 46 = .ok (.imul, 1) := by decide +kernel
theorem dX9_type_47 : decode cX9_type 47 = .ok (.lushr, 1) := by decide +kernel
theorem dX9_type_48 : decode cX9_type 48 = .ok (.l2i, 1) := by decide +kernel
theorem dX9_type_49 : decode cX9_type 49 = .ok (.i2b, 1) := by decide +kernel
theorem dX9_type_50 : decode cX9_type 50 = .ok (.invokevirtual 103, 3) := by decide +kernel
theorem dX9_type_53 : decode cX9_type 53 = .ok (.iinc 4 (-1), 3) := by decide +kernel
theorem dX9_type_56 : decode cX9_type 56 = .ok (.goto (-24), 3) := by decide +kernel
theorem dX9_type_59 : decode cX9_type 59 = .ok (.aload_n 0, 1) := by decide +kernel
theorem dX9_type_60 : decode cX9_type 60 = .ok (.getfield 12, 3) := by decide +kernel
theorem dX9_type_63 : decode cX9_type 63 = .ok (.getfield 107, 3) := by decide +kernel
theorem dX9_type_66 : decode cX9_type 66 = .ok (.ireturn, 1) := by decide +kernel
theorem dX9_clear_0 : decode cX9_clear 0 = .ok (.aload_n 0, 1) := by decide +kernel
theorem dX9_clear_1 : decode cX9_clear 1 = .ok (.getfield 12, 3) := by decide +kernel
theorem dX9_clear_4 : decode cX9_clear 4 = .ok (.getfield 107, 3) := by decide +kernel
theorem dX9_clear_7 : decode cX9_clear 7 = .ok (.istore_n 1, 1) := by decide +kernel
theorem dX9_clear_8 : decode cX9_clear 8 = .ok (.aload_n 0, 1) := by decide +kernel
