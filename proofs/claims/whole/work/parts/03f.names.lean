theorem dX5_isSigned_50 : decode cX5_isSigned 50 = .ok (.iconst 1, 1) := by decide +kernel
theorem dX5_isSigned_51 : decode cX5_isSigned 51 = .ok (.iadd, 1) := by decide +kernel
theorem dX5_isSigned_52 : decode cX5_isSigned 52 = .ok (.goto 5, 3) := by decide +kernel
theorem dX5_isSigned_55 : decode cX5_isSigned 55 = .ok (.iload 4, 2) := by decide +kernel
theorem dX5_isSigned_57 : decode cX5_isSigned 57 = .ok (.istore 4, 2) := by decide +kernel
theorem dX5_isSigned_59 : decode cX5_isSigned 59 = .ok (.iinc 5 1, 3) := by decide +kernel
theorem dX5_isSigned_62 : decode cX5_isSigned 62 = .ok (.goto (-50), 3) := by decide +kernel
theorem dX5_isSigned_65 : decode cX5_isSigned 65 = .ok (.iload_n 3, 1) := by decide +kernel
theorem dX5_isSigned_66 : decode cX5_isSigned 66 = .ok (.ifCond .eq 18, 3) := by decide +kernel
theorem dX5_isSigned_69 : decode cX5_isSigned 69 = .ok (.iload 4, 2) := by decide +kernel
theorem dX5_isSigned_71 : decode cX5_isSigned 71 = .ok (.aload_n 0, 1) := by decide +kernel
theorem dX5_isSigned_72 : decode cX5_isSigned 72 = .ok (.getfield 7, 3) := by decide +kernel
theorem dX5_isSigned_75 : decode cX5_isSigned 75 = .ok (.iload_n 2, 1) := by decide +kernel
theorem dX5_isSigned_76 : decode cX5_isSigned 76 = .ok (.iaload, 1) := by decide +kernel
theorem dX5_isSigned_77 : decode cX5_isSigned 77 = .ok (.if_icmp .lt 7, 3) := by decide +kernel
theorem dX5_isSigned_80 : decode cX5_isSigned 80 = .ok (.iconst 1, 1) := by decide +kernel
theorem dX5_isSigned_81 : decode cX5_isSigned 81 = .ok (.goto 4, 3) := by decide +kernel
theorem dX5_isSigned_84 : decode cX5_isSigned 84 = .ok (.iconst 0, 1) := by decide +kernel
theorem dX5_isSigned_85 : decode cX5_isSigned 85 = .ok (.ireturn, 1) := by decide +kernel
theorem dX5_keysOf_0 : decode cX5_keysOf 0 = .ok (.bipush 120, 2) := by decide +kernel
theorem dX5_keysOf_2 : decode cX5_keysOf 2 = .ok (.iload_n 1, 1) := by decide +kernel
theorem dX5_keysOf_3 : decode cX5_keysOf 3 = .ok (.imul, 1) := by decide +kernel
theorem dX5_keysOf_4 : decode cX5_keysOf 4 = .ok (.iconst 4, 1) := by decide +kernel
theorem dX5_keysOf_5 : decode cX5_keysOf 5 = .ok (.iadd, 1) := by decide +kernel
theorem dX5_keysOf_6 : decode cX5_keysOf 6 = .ok (.istore_n 3, 1) := by decide +kernel
theorem dX5_keysOf_7 : decode cX5_keysOf 7 = .ok (.iconst 0, 1) := by decide +kernel
theorem dX5_keysOf_8 : decode cX5_keysOf 8 = .ok (.istore 4, 2) := by decide +kernel
theorem dX5_keysOf_10 : decode cX5_keysOf 10 = .ok (.iload 4, 2) := by decide +kernel
theorem dX5_keysOf_12 : decode cX5_keysOf 12 = .ok (.iload_n 2, 1) := by decide +kernel
theorem dX5_keysOf_13 : decode cX5_keysOf 13 = .ok (.if_icmp .ge 22, 3) := by decide +kernel
theorem dX5_keysOf_16 : decode cX5_keysOf 16 = .ok (.iload_n 3, 1) := by decide +kernel
theorem dX5_keysOf_17 : decode cX5_keysOf 17 = .ok (.iconst 2, 1) := by decide +kernel
theorem dX5_keysOf_18 : decode cX5_keysOf 18 = .ok (.iadd, 1) := by decide +kernel
theorem dX5_keysOf_19 : decode cX5_keysOf 19 = .ok (.aload_n 0, 1) := by decide +kernel
theorem dX5_keysOf_20 : decode cX5_keysOf 20 = .ok (.getfield 7, 3) := by decide +kernel
theorem dX5_keysOf_23 : decode cX5_keysOf 23 = .ok (.iload_n 3, 1) := by decide +kernel
theorem dX5_keysOf_24 : decode cX5_keysOf 24 = .ok (.iconst 1, 1) := by decide +kernel
theorem dX5_keysOf_25 : decode cX5_keysOf 25 = .ok (.iadd, 1) := by decide +kernel
theorem dX5_keysOf_26 : decode cX5_keysOf 26 = .ok (.iaload, 1) := by decide +kernel
theorem dX5_keysOf_27 : decode cX5_keysOf 27 = .ok (.iadd, 1) := by decide +kernel
theorem dX5_keysOf_28 : decode cX5_keysOf 28 = .ok (.istore_n 3, 1) := by decide +kernel
theorem dX5_keysOf_29 : decode cX5_keysOf 29 = .ok (.iinc 4 1, 3) := by decide +kernel
theorem dX5_keysOf_32 : decode cX5_keysOf 32 = .ok (.goto (-22), 3) := by decide +kernel
theorem dX5_keysOf_35 : decode cX5_keysOf 35 = .ok (.iload_n 3, 1) := by decide +kernel
theorem dX5_keysOf_36 : decode cX5_keysOf 36 = .ok (.ireturn, 1) := by decide +kernel
theorem dX5_versionOf_0 : decode cX5_versionOf 0 = .ok (.aload_n 0, 1) := by decide +kernel
theorem dX5_versionOf_1 : decode cX5_versionOf 1 = .ok (.getfield 7, 3) := by decide +kernel
theorem dX5_versionOf_4 : decode cX5_versionOf 4 = .ok (.bipush 120, 2) := by decide +kernel
theorem dX5_versionOf_6 : decode cX5_versionOf 6 = .ok (.iload_n 1, 1) := by decide +kernel
theorem dX5_versionOf_7 : decode cX5_versionOf 7 = .ok (.imul, 1) := by decide +kernel
theorem dX5_versionOf_8 : decode cX5_versionOf 8 = .ok (.iconst 1, 1) := by decide +kernel
theorem dX5_versionOf_9 : decode cX5_versionOf 9 = .ok (.iadd, 1) := by decide +kernel
theorem dX5_versionOf_10 : decode cX5_versionOf 10 = .ok (.iaload, 1) := by decide +kernel
theorem dX5_versionOf_11 : decode cX5_versionOf 11 = .ok (.ireturn, 1) := by decide +kernel
theorem dX5_endOf_0 : decode cX5_endOf 0 = .ok (.sipush 256, 3) := by decide +kernel
theorem dX5_endOf_3 : decode cX5_endOf 3 = .ok (.aload_n 0, 1) := by decide +kernel
theorem dX5_endOf_4 : decode cX5_endOf 4 = .ok (.getfield 7, 3) := by decide +kernel
theorem dX5_endOf_7 : decode cX5_endOf 7 = .ok (.bipush 120, 2) := by decide +kernel
theorem dX5_endOf_9 : decode cX5_endOf 9 = .ok (.iload_n 1, 1) := by decide +kernel
theorem dX5_endOf_10 : decode cX5_endOf 10 = .ok (.imul, 1) := by decide +kernel
theorem dX5_endOf_11 : decode cX5_endOf 11 = .ok (.iconst 2, 1) := by decide +kernel
theorem dX5_endOf_12 : decode cX5_endOf 12 = .ok (.iadd, 1) := by decide +kernel
theorem dX5_endOf_13 : decode cX5_endOf 13 = .ok (.iaload, 1) := by decide +kernel
theorem dX5_endOf_14 : decode cX5_endOf 14 = .ok (.imul, 1) := by decide +kernel
theorem dX5_endOf_15 : decode cX5_endOf 15 = .ok (.aload_n 0, 1) := by decide +kernel
theorem dX5_endOf_16 : decode cX5_endOf 16 = .ok (.getfield 7, 3) := by decide +kernel
theorem dX5_endOf_19 : decode cX5_endOf 19 = .ok (.bipush 120, 2) := by decide +kernel
theorem dX5_endOf_21 : decode cX5_endOf 21 = .ok (.iload_n 1, 1) := by decide +kernel
theorem dX5_endOf_22 : decode cX5_endOf 22 = .ok (.imul, 1) := by decide +kernel
theorem dX5_endOf_23 : decode cX5_endOf 23 = .ok (.iconst 3, 1) := by decide +kernel
theorem dX5_endOf_24 : decode cX5_endOf 24 = .ok (.iadd, 1) := by decide +kernel
theorem dX5_endOf_25 : decode cX5_endOf 25 = .ok (.iaload, 1) := by decide +kernel
theorem dX5_endOf_26 : decode cX5_endOf 26 = .ok (.iadd, 1) := by decide +kernel
theorem dX5_endOf_27 : decode cX5_endOf 27 = .ok (.ireturn, 1) := by decide +kernel
set_option maxRecDepth 20000 in
theorem ggX5_isOver_X5_endOf : GoodIn wsX5_isOver wsX5_endOf := goodIn_r _ [6, 7, 8, 9, 10, 11, 12, 13, 14, 15, 16, 17, 18, 19, 20, 21, 22, 23, 24, 25] (by decide +kernel) (by decide +kernel)
set_option maxRecDepth 20000 in
theorem gX5_isOver_X5_endOf : GoodIn wsX5_isOver (wsV RX5 103 RX5 yX5_endOf wsX5_endOf) := goodIn_app (goodIn_of _ (by decide +kernel)) ggX5_isOver_X5_endOf
theorem dX5_isOver_0 : decode cX5_isOver 0 = .ok (.aload_n 0, 1) := by decide +kernel
theorem dX5_isOver_1 : decode cX5_isOver 1 = .ok (.iload_n 1, 1) := by decide +kernel
theorem dX5_isOver_2 : decode cX5_isOver 2 = .ok (.invokevirtual 103, 3) := by decide +kernel
theorem dX5_isOver_5 : decode cX5_isOver 5 = .ok (.aload_n 0, 1) := by decide +kernel
theorem dX5_isOver_6 : decode cX5_isOver 6 = .ok (.getfield 106, 3) := by decide +kernel
theorem dX5_isOver_9 : decode cX5_isOver 9 = .ok (.if_icmp .gt 7, 3) := by decide +kernel
theorem dX5_isOver_12 : decode cX5_isOver 12 = .ok (.iconst 1, 1) := by decide +kernel
theorem dX5_isOver_13 : decode cX5_isOver 13 = .ok (.goto 4, 3) := by decide +kernel
theorem dX5_isOver_16 : decode cX5_isOver 16 = .ok (.iconst 0, 1) := by decide +kernel
theorem dX5_isOver_17 : decode cX5_isOver 17 = .ok (.ireturn, 1) := by decide +kernel
set_option maxRecDepth 20000 in
theorem ggX5_stands_X5_isOver : GoodIn wsX5_stands wsX5_isOver := goodIn_r _ [6, 7, 8, 9, 10, 5, 11, 12, 13, 14, 15, 16, 17, 18, 19, 20, 21, 22, 23, 24, 25, 26, 27, 28, 29, 30] (by decide +kernel) (by decide +kernel)
set_option maxRecDepth 20000 in
theorem gX5_stands_X5_isOver : GoodIn wsX5_stands (wsV RX5 109 RX5 yX5_isOver wsX5_isOver) := goodIn_app (goodIn_of _ (by decide +kernel)) ggX5_stands_X5_isOver
theorem dX5_stands_0 : decode cX5_stands 0 = .ok (.aload_n 0, 1) := by decide +kernel
theorem dX5_stands_1 : decode cX5_stands 1 = .ok (.getfield 16, 3) := by decide +kernel
theorem dX5_stands_4 : decode cX5_stands 4 = .ok (.iload_n 1, 1) := by decide +kernel
theorem dX5_stands_5 : decode cX5_stands 5 = .ok (.baload, 1) := by decide +kernel
theorem dX5_stands_6 : decode cX5_stands 6 = .ok (.ifCond .eq 15, 3) := by decide +kernel
theorem dX5_stands_9 : decode cX5_stands 9 = .ok (.aload_n 0, 1) := by decide +kernel
theorem dX5_stands_10 : decode cX5_stands 10 = .ok (.iload_n 1, 1) := by decide +kernel
theorem dX5_stands_11 : decode cX5_stands 11 = .ok (.invokevirtual 109, 3) := by decide +kernel
theorem dX5_stands_14 : decode cX5_stands 14 = .ok (.ifCond .ne 7, 3) := by decide +kernel
theorem dX5_stands_17 : decode cX5_stands 17 = .ok (.iconst 1, 1) := by decide +kernel
theorem dX5_stands_18 : decode cX5_stands 18 = .ok (.goto 4, 3) := by decide +kernel
theorem dX5_stands_21 : decode cX5_stands 21 = .ok (.iconst 0, 1) := by decide +kernel
theorem dX5_stands_22 : decode cX5_stands 22 = .ok (.ireturn, 1) := by decide +kernel
theorem dX5_said_0 : decode cX5_said 0 = .ok (.iconst 0, 1) := by decide +kernel
theorem dX5_said_1 : decode cX5_said 1 = .ok (.istore_n 3, 1) := by decide +kernel
theorem dX5_said_2 : decode cX5_said 2 = .ok (.iconst 0, 1) := by decide +kernel
theorem dX5_said_3 : decode cX5_said 3 = .ok (.istore 4, 2) := by decide +kernel
theorem dX5_said_5 : decode cX5_said 5 = .ok (.iload 4, 2) := by decide +kernel
theorem dX5_said_7 : decode cX5_said 7 = .ok (.aload_n 0, 1) := by decide +kernel
theorem dX5_said_8 : decode cX5_said 8 = .ok (.getfield 7, 3) := by decide +kernel
theorem dX5_said_11 : decode cX5_said 11 = .ok (.bipush 120, 2) := by decide +kernel
theorem dX5_said_13 : decode cX5_said 13 = .ok (.iload_n 1, 1) := by decide +kernel
theorem dX5_said_14 : decode cX5_said 14 = .ok (.imul, 1) := by decide +kernel
theorem dX5_said_15 : decode cX5_said 15 = .ok (.iconst 4, 1) := by decide +kernel
theorem dX5_said_16 : decode cX5_said 16 = .ok (.iadd, 1) := by decide +kernel
theorem dX5_said_17 : decode cX5_said 17 = .ok (.iaload, 1) := by decide +kernel
theorem dX5_said_18 : decode cX5_said 18 = .ok (.if_icmp .ge 47, 3) := by decide +kernel
theorem dX5_said_21 : decode cX5_said 21 = .ok (.bipush 120, 2) := by decide +kernel
theorem dX5_said_23 : decode cX5_said 23 = .ok (.iload_n 1, 1) := by decide +kernel
theorem dX5_said_24 : decode cX5_said 24 = .ok (.imul, 1) := by decide +kernel
theorem dX5_said_25 : decode cX5_said 25 = .ok (.iconst 5, 1) := by decide +kernel
theorem dX5_said_26 : decode cX5_said 26 = .ok (.iadd, 1) := by decide +kernel
theorem dX5_said_27 : decode cX5_said 27 = .ok (.iconst 2, 1) := by decide +kernel
theorem dX5_said_28 : decode cX5_said 28 = .ok (.iload 4, 2) := by decide +kernel
theorem dX5_said_30 : decode cX5_said 30 = .ok (.imul, 1) := by decide +kernel
theorem dX5_said_31 : decode cX5_said 31 = .ok (.iadd, 1) := by decide +kernel
theorem dX5_said_32 : decode cX5_said 32 = .ok (.istore 5, 2) := by decide +kernel
theorem dX5_said_34 : decode cX5_said 34 = .ok (.aload_n 0, 1) := by decide +kernel
theorem dX5_said_35 : decode cX5_said 35 = .ok (.getfield 7, 3) := by decide +kernel
theorem dX5_said_38 : decode cX5_said 38 = .ok (.iload 5, 2) := by decide +kernel
theorem dX5_said_40 : decode cX5_said 40 = .ok (.iaload, 1) := by decide +kernel
theorem dX5_said_41 : decode cX5_said 41 = .ok (.iload_n 2, 1) := by decide +kernel
theorem dX5_said_42 : decode cX5_said 42 = .ok (.if_icmp .ne 15, 3) := by decide +kernel
theorem dX5_said_45 : decode cX5_said 45 = .ok (.aload_n 0, 1) := by decide +kernel
theorem dX5_said_46 : decode cX5_said 46 = .ok (.getfield 7, 3) := by decide +kernel
theorem dX5_said_49 : decode cX5_said 49 = .ok (.iload 5, 2) := by decide +kernel
theorem dX5_said_51 : decode cX5_said 51 = .ok (.iconst 1, 1) := by decide +kernel
theorem dX5_said_52 : decode cX5_said 52 = .ok (.iadd, 1) := by decide +kernel
theorem dX5_said_53 : decode cX5_said 53 = .ok (.iaload, 1) := by decide +kernel
theorem dX5_said_54 : decode cX5_said 54 = .ok (.goto 4, 3) := by decide +kernel
theorem dX5_said_57 : decode cX5_said 57 = .ok (.iload_n 3, 1) := by decide +kernel
theorem dX5_said_58 : decode cX5_said 58 = .ok (.istore_n 3, 1) := by decide +kernel
theorem dX5_said_59 : decode cX5_said 59 = .ok (.iinc 4 1, 3) := by decide +kernel
theorem dX5_said_62 : decode cX5_said 62 = .ok (.goto (-57), 3) := by decide +kernel
theorem dX5_said_65 : decode cX5_said 65 = .ok (.iload_n 3, 1) := by decide +kernel
theorem dX5_said_66 : decode cX5_said 66 = .ok (.ireturn, 1) := by decide +kernel
set_option maxRecDepth 20000 in
theorem ggX5_sign_X5_isDocument : GoodIn wsX5_sign wsX5_isDocument := goodIn_r _ [11, 12, 2, 3, 13, 14, 15, 10, 16, 6, 5, 17, 18, 19, 20, 21, 22, 23, 24, 4, 25, 26, 27, 28, 29, 30, 31, 32, 33, 34, 35, 36, 37, 38, 39, 40, 41, 42, 43, 44, 45, 46, 47, 48, 49, 68, 69, 70, 71, 72, 73, 74, 75, 76, 77, 78, 79, 80, 81, 82, 83, 84, 85] (by decide +kernel) (by decide +kernel)
set_option maxRecDepth 20000 in
theorem gX5_sign_X5_isDocument : GoodIn wsX5_sign (wsV RX5 97 RX5 yX5_isDocument wsX5_isDocument) := goodIn_app (goodIn_of _ (by decide +kernel)) ggX5_sign_X5_isDocument
set_option maxRecDepth 20000 in
theorem ggX5_sign_X5_passSigned : GoodIn wsX5_sign wsX5_passSigned := goodIn_r _ [16, 2, 6, 3, 12, 5, 17, 18, 19, 10, 20, 21, 22, 23, 24, 4, 25, 26, 27, 28, 29, 30, 31, 32, 33, 34, 35, 36, 37, 38, 39, 40, 41, 42, 43, 44, 45, 46, 47, 48, 49, 68, 69, 70, 71, 72, 73, 74, 75, 76, 77, 78, 79, 80, 81, 82, 83, 84, 85] (by decide +kernel) (by decide +kernel)
set_option maxRecDepth 20000 in
theorem gX5_sign_X5_passSigned : GoodIn wsX5_sign (wsV RX5 89 RX5 yX5_passSigned wsX5_passSigned) := goodIn_app (goodIn_of _ (by decide +kernel)) ggX5_sign_X5_passSigned
set_option maxRecDepth 20000 in
theorem ggX5_sign_X5_fail : GoodIn wsX5_sign wsX5_fail := goodIn_r _ [53, 1, 68, 69, 70, 71, 72, 73, 74, 75, 76, 77, 78, 79, 80, 81, 82, 83, 84, 85] (by decide +kernel) (by decide +kernel)
set_option maxRecDepth 20000 in
theorem gX5_sign_X5_fail : GoodIn wsX5_sign (wsV RX5 112 RX5 yX5_fail wsX5_fail) := goodIn_app (goodIn_of _ (by decide +kernel)) ggX5_sign_X5_fail
set_option maxRecDepth 20000 in
theorem ggX5_sign_X5_mixOf : GoodIn wsX5_sign wsX5_mixOf := goodIn_r _ [57, 58, 4, 59, 68, 69, 70, 71, 72, 73, 74, 75, 76, 77, 78, 79, 80, 81, 82, 83, 84, 85] (by decide +kernel) (by decide +kernel)
set_option maxRecDepth 20000 in
theorem gX5_sign_X5_mixOf : GoodIn wsX5_sign (wsV RX5 38 RX5 yX5_mixOf wsX5_mixOf) := goodIn_app (goodIn_of _ (by decide +kernel)) ggX5_sign_X5_mixOf
set_option maxRecDepth 20000 in
theorem ggX5_sign_X5_add : GoodIn wsX5_sign wsX5_add := goodIn_r _ [63, 4, 6, 68, 69, 70, 71, 72, 73, 74, 75, 76, 77, 78, 79, 80, 81, 82, 83, 84, 85] (by decide +kernel) (by decide +kernel)
set_option maxRecDepth 20000 in
theorem gX5_sign_X5_add : GoodIn wsX5_sign (wsV RX5 32 RX5 yX5_add wsX5_add) := goodIn_app (goodIn_of _ (by decide +kernel)) ggX5_sign_X5_add
set_option maxRecDepth 20000 in
theorem ggX5_sign_X5_addFour : GoodIn wsX5_sign wsX5_addFour := goodIn_r _ [67, 60, 61, 62, 10, 63, 4, 6, 68, 69, 70, 71, 72, 73, 74, 75, 76, 77, 78, 79, 80, 81, 82, 83, 84, 85] (by decide +kernel) (by decide +kernel)
set_option maxRecDepth 20000 in
theorem gX5_sign_X5_addFour : GoodIn wsX5_sign (wsV RX5 42 RX5 yX5_addFour wsX5_addFour) := goodIn_app (goodIn_of _ (by decide +kernel)) ggX5_sign_X5_addFour
theorem dX5_sign_0 : decode cX5_sign 0 = .ok (.aload_n 0, 1) := by decide +kernel
theorem dX5_sign_1 : decode cX5_sign 1 = .ok (.iload_n 1, 1) := by decide +kernel
theorem dX5_sign_2 : decode cX5_sign 2 = .ok (.ifCond .lt 9, 3) := by decide +kernel
theorem dX5_sign_5 : decode cX5_sign 5 = .ok (.iload_n 1, 1) := by decide +kernel
theorem dX5_sign_6 : decode cX5_sign 6 = .ok (.bipush 9, 2) := by decide +kernel
theorem dX5_sign_8 : decode cX5_sign 8 = .ok (.if_icmp .le 7, 3) := by decide +kernel
theorem dX5_sign_11 : decode cX5_sign 11 = .ok (.iconst 1, 1) := by decide +kernel
theorem dX5_sign_12 : decode cX5_sign 12 = .ok (.goto 4, 3) := by decide +kernel
theorem dX5_sign_15 : decode cX5_sign 15 = .ok (.iconst 0, 1) := by decide +kernel
theorem dX5_sign_16 : decode cX5_sign 16 = .ok (.putfield 26, 3) := by decide +kernel
theorem dX5_sign_19 : decode cX5_sign 19 = .ok (.aload_n 0, 1) := by decide +kernel
theorem dX5_sign_20 : decode cX5_sign 20 = .ok (.getfield 26, 3) := by decide +kernel
theorem dX5_sign_23 : decode cX5_sign 23 = .ok (.ifCond .le 5, 3) := by decide +kernel
theorem dX5_sign_26 : decode cX5_sign 26 = .ok (.iconst 0, 1) := by decide +kernel
theorem dX5_sign_27 : decode cX5_sign 27 = .ok (.ireturn, 1) := by decide +kernel
theorem dX5_sign_28 : decode cX5_sign 28 = .ok (.aload_n 0, 1) := by decide +kernel
theorem dX5_sign_29 : decode cX5_sign 29 = .ok (.bipush 7, 2) := by decide +kernel
theorem dX5_sign_31 : decode cX5_sign 31 = .ok (.invokevirtual 97, 3) := by decide +kernel
theorem dX5_sign_34 : decode cX5_sign 34 = .ok (.istore_n 2, 1) := by decide +kernel
theorem dX5_sign_35 : decode cX5_sign 35 = .ok (.aload_n 0, 1) := by decide +kernel
theorem dX5_sign_36 : decode cX5_sign 36 = .ok (.bipush 7, 2) := by decide +kernel
theorem dX5_sign_38 : decode cX5_sign 38 = .ok (.invokevirtual 89, 3) := by decide +kernel
theorem dX5_sign_41 : decode cX5_sign 41 = .ok (.ifCond .eq 18, 3) := by decide +kernel
theorem dX5_sign_44 : decode cX5_sign 44 = .ok (.aload_n 0, 1) := by decide +kernel
theorem dX5_sign_45 : decode cX5_sign 45 = .ok (.getfield 49, 3) := by decide +kernel
theorem dX5_sign_48 : decode cX5_sign 48 = .ok (.aload_n 0, 1) := by decide +kernel
theorem dX5_sign_49 : decode cX5_sign 49 = .ok (.getfield 52, 3) := by decide +kernel
theorem dX5_sign_52 : decode cX5_sign 52 = .ok (.if_icmp .ne 7, 3) := by decide +kernel
theorem dX5_sign_55 : decode cX5_sign 55 = .ok (.iconst 1, 1) := by decide +kernel
theorem dX5_sign_56 : decode cX5_sign 56 = .ok (.goto 4, 3) := by decide +kernel
theorem dX5_sign_59 : decode cX5_sign 59 = .ok (.iconst 0, 1) := by decide +kernel
theorem dX5_sign_60 : decode cX5_sign 60 = .ok (.istore_n 3, 1) := by decide +kernel
theorem dX5_sign_61 : decode cX5_sign 61 = .ok (.iload_n 2, 1) := by decide +kernel
theorem dX5_sign_62 : decode cX5_sign 62 = .ok (.ifCond .ne 13, 3) := by decide +kernel
theorem dX5_sign_65 : decode cX5_sign 65 = .ok (.iload_n 3, 1) := by decide +kernel
theorem dX5_sign_66 : decode cX5_sign 66 = .ok (.ifCond .ne 9, 3) := by decide +kernel
theorem dX5_sign_69 : decode cX5_sign 69 = .ok (.aload_n 0, 1) := by decide +kernel
theorem dX5_sign_70 : decode cX5_sign 70 = .ok (.iconst 2, 1) := by decide +kernel
theorem dX5_sign_71 : decode cX5_sign 71 = .ok (.invokevirtual 112, 3) := by decide +kernel
theorem dX5_sign_74 : decode cX5_sign 74 = .ok (.ireturn, 1) := by decide +kernel
theorem dX5_sign_75 : decode cX5_sign 75 = .ok (.iload_n 3, 1) := by decide +kernel
theorem dX5_sign_76 : decode cX5_sign 76 = .ok (.ifCond .eq 7, 3) := by decide +kernel
theorem dX5_sign_79 : decode cX5_sign 79 = .ok (.iconst 0, 1) := by decide +kernel
theorem dX5_sign_80 : decode cX5_sign 80 = .ok (.goto 12, 3) := by decide +kernel
theorem dX5_sign_83 : decode cX5_sign 83 = .ok (.aload_n 0, 1) := by decide +kernel
theorem dX5_sign_84 : decode cX5_sign 84 = .ok (.getfield 7, 3) := by decide +kernel
theorem dX5_sign_87 : decode cX5_sign 87 = .ok (.aload_n 0, 1) := by decide +kernel
theorem dX5_sign_88 : decode cX5_sign 88 = .ok (.getfield 86, 3) := by decide +kernel
theorem dX5_sign_91 : decode cX5_sign 91 = .ok (.iaload, 1) := by decide +kernel
theorem dX5_sign_92 : decode cX5_sign 92 = .ok (.istore 4, 2) := by decide +kernel
theorem dX5_sign_94 : decode cX5_sign 94 = .ok (.iload 4, 2) := by decide +kernel
theorem dX5_sign_96 : decode cX5_sign 96 = .ok (.bipush 6, 2) := by decide +kernel
theorem dX5_sign_98 : decode cX5_sign 98 = .ok (.if_icmp .eq 26, 3) := by decide +kernel
theorem dX5_sign_101 : decode cX5_sign 101 = .ok (.aload_n 0, 1) := by decide +kernel
theorem dX5_sign_102 : decode cX5_sign 102 = .ok (.getfield 13, 3) := by decide +kernel
theorem dX5_sign_105 : decode cX5_sign 105 = .ok (.bipush 7, 2) := by decide +kernel
theorem dX5_sign_107 : decode cX5_sign 107 = .ok (.iaload, 1) := by decide +kernel
theorem dX5_sign_108 : decode cX5_sign 108 = .ok (.iload_n 3, 1) := by decide +kernel
theorem dX5_sign_109 : decode cX5_sign 109 = .ok (.ifCond .eq 8, 3) := by decide +kernel
theorem dX5_sign_112 : decode cX5_sign 112 = .ok (.bipush 6, 2) := by decide +kernel
theorem dX5_sign_114 : decode cX5_sign 114 = .ok (.goto 4, 3) := by decide +kernel
theorem dX5_sign_117 : decode cX5_sign 117 = .ok (.iconst 5, 1) := by decide +kernel
theorem dX5_sign_118 : decode cX5_sign 118 = .ok (.iadd, 1) := by decide +kernel
theorem dX5_sign_119 : decode cX5_sign 119 = .ok (.bipush 120, 2) := by decide +kernel
theorem dX5_sign_121 : decode cX5_sign 121 = .ok (.if_icmp .le 9, 3) := by decide +kernel
theorem dX5_sign_124 : decode cX5_sign 124 = .ok (.aload_n 0, 1) := by decide +kernel
theorem dX5_sign_125 : decode cX5_sign 125 = .ok (.iconst 3, 1) := by decide +kernel
theorem dX5_sign_126 : decode cX5_sign 126 = .ok (.invokevirtual 112, 3) := by decide +kernel
theorem dX5_sign_129 : decode cX5_sign 129 = .ok (.ireturn, 1) := by decide +kernel
theorem dX5_sign_130 : decode cX5_sign 130 = .ok (.aload_n 0, 1) := by decide +kernel
theorem dX5_sign_131 : decode cX5_sign 131 = .ok (.sipush 840, 3) := by decide +kernel
theorem dX5_sign_134 : decode cX5_sign 134 = .ok (.aload_n 0, 1) := by decide +kernel
theorem dX5_sign_135 : decode cX5_sign 135 = .ok (.getfield 86, 3) := by decide +kernel
theorem dX5_sign_138 : decode cX5_sign 138 = .ok (.sipush 840, 3) := by decide +kernel
theorem dX5_sign_141 : decode cX5_sign 141 = .ok (.isub, 1) := by decide +kernel
theorem dX5_sign_142 : decode cX5_sign 142 = .ok (.iload_n 1, 1) := by decide +kernel
theorem dX5_sign_143 : decode cX5_sign 143 = .ok (.iconst 1, 1) := by decide +kernel
theorem dX5_sign_144 : decode cX5_sign 144 = .ok (.iadd, 1) := by decide +kernel
theorem dX5_sign_145 : decode cX5_sign 145 = .ok (.invokevirtual 38, 3) := by decide +kernel
theorem dX5_sign_148 : decode cX5_sign 148 = .ok (.istore 5, 2) := by decide +kernel
theorem dX5_sign_150 : decode cX5_sign 150 = .ok (.iload_n 3, 1) := by decide +kernel
theorem dX5_sign_151 : decode cX5_sign 151 = .ok (.ifCond .eq 8, 3) := by decide +kernel
theorem dX5_sign_154 : decode cX5_sign 154 = .ok (.aload_n 0, 1) := by decide +kernel
theorem dX5_sign_155 : decode cX5_sign 155 = .ok (.iconst 0, 1) := by decide +kernel
theorem dX5_sign_156 : decode cX5_sign 156 = .ok (.invokevirtual 32, 3) := by decide +kernel
theorem dX5_sign_159 : decode cX5_sign 159 = .ok (.aload_n 0, 1) := by decide +kernel
theorem dX5_sign_160 : decode cX5_sign 160 = .ok (.getfield 7, 3) := by decide +kernel
theorem dX5_sign_163 : decode cX5_sign 163 = .ok (.aload_n 0, 1) := by decide +kernel
theorem dX5_sign_164 : decode cX5_sign 164 = .ok (.getfield 86, 3) := by decide +kernel
theorem dX5_sign_167 : decode cX5_sign 167 = .ok (.iload 4, 2) := by decide +kernel
theorem dX5_sign_169 : decode cX5_sign 169 = .ok (.iconst 1, 1) := by decide +kernel
theorem dX5_sign_170 : decode cX5_sign 170 = .ok (.iadd, 1) := by decide +kernel
theorem dX5_sign_171 : decode cX5_sign 171 = .ok (.iastore, 1) := by decide +kernel
theorem dX5_sign_172 : decode cX5_sign 172 = .ok (.aload_n 0, 1) := by decide +kernel
theorem dX5_sign_173 : decode cX5_sign 173 = .ok (.iload_n 1, 1) := by decide +kernel
theorem dX5_sign_174 : decode cX5_sign 174 = .ok (.invokevirtual 32, 3) := by decide +kernel
theorem dX5_sign_177 : decode cX5_sign 177 = .ok (.aload_n 0, 1) := by decide +kernel
theorem dX5_sign_178 : decode cX5_sign 178 = .ok (.iload 5, 2) := by decide +kernel
theorem dX5_sign_180 : decode cX5_sign 180 = .ok (.invokevirtual 42, 3) := by decide +kernel
theorem dX5_sign_183 : decode cX5_sign 183 = .ok (.iload 4, 2) := by decide +kernel
theorem dX5_sign_185 : decode cX5_sign 185 = .ok (.iconst 1, 1) := by decide +kernel
theorem dX5_sign_186 : decode cX5_sign 186 = .ok (.iadd, 1) := by decide +kernel
theorem dX5_sign_187 : decode cX5_sign 187 = .ok (.ireturn, 1) := by decide +kernel
theorem dX5_copy_0 : decode cX5_copy 0 = .ok (.aload_n 0, 1) := by decide +kernel
theorem dX5_copy_1 : decode cX5_copy 1 = .ok (.getfield 13, 3) := by decide +kernel
theorem dX5_copy_4 : decode cX5_copy 4 = .ok (.iload_n 2, 1) := by decide +kernel
theorem dX5_copy_5 : decode cX5_copy 5 = .ok (.aload_n 0, 1) := by decide +kernel
theorem dX5_copy_6 : decode cX5_copy 6 = .ok (.getfield 13, 3) := by decide +kernel
theorem dX5_copy_9 : decode cX5_copy 9 = .ok (.iload_n 1, 1) := by decide +kernel
theorem dX5_copy_10 : decode cX5_copy 10 = .ok (.iaload, 1) := by decide +kernel
theorem dX5_copy_11 : decode cX5_copy 11 = .ok (.iastore, 1) := by decide +kernel
theorem dX5_copy_12 : decode cX5_copy 12 = .ok (.iconst 0, 1) := by decide +kernel
theorem dX5_copy_13 : decode cX5_copy 13 = .ok (.istore_n 3, 1) := by decide +kernel
theorem dX5_copy_14 : decode cX5_copy 14 = .ok (.iload_n 3, 1) := by decide +kernel
theorem dX5_copy_15 : decode cX5_copy 15 = .ok (.aload_n 0, 1) := by decide +kernel
theorem dX5_copy_16 : decode cX5_copy 16 = .ok (.getfield 13, 3) := by decide +kernel
theorem dX5_copy_19 : decode cX5_copy 19 = .ok (.iload_n 1, 1) := by decide +kernel
theorem dX5_copy_20 : decode cX5_copy 20 = .ok (.iaload, 1) := by decide +kernel
theorem dX5_copy_21 : decode cX5_copy 21 = .ok (.if_icmp .ge 31, 3) := by decide +kernel
theorem dX5_copy_24 : decode cX5_copy 24 = .ok (.aload_n 0, 1) := by decide +kernel
theorem dX5_copy_25 : decode cX5_copy 25 = .ok (.getfield 7, 3) := by decide +kernel
theorem dX5_copy_28 : decode cX5_copy 28 = .ok (.bipush 120, 2) := by decide +kernel
theorem dX5_copy_30 : decode cX5_copy 30 = .ok (.iload_n 2, 1) := by decide +kernel
theorem dX5_copy_31 : decode cX5_copy 31 = .ok (.imul, 1) := by decide +kernel
theorem dX5_copy_32 : decode cX5_copy 32 = .ok (.iload_n 3, 1) := by decide +kernel
theorem dX5_copy_33 : decode cX5_copy 33 = .ok (.iadd, 1) := by decide +kernel
theorem dX5_copy_34 : decode cX5_copy 34 = .ok (.aload_n 0, 1) := by decide +kernel
theorem dX5_copy_35 : decode cX5_copy 35 = .ok (.getfield 7, 3) := by decide +kernel
theorem dX5_copy_38 : decode cX5_copy 38 = .ok (.bipush 120, 2) := by decide +kernel
theorem dX5_copy_40 : decode cX5_copy 40 = .ok (.iload_n 1, 1) := by decide +kernel
theorem dX5_copy_41 : decode cX5_copy 41 = .ok (.imul, 1) := by decide +kernel
theorem dX5_copy_42 : decode cX5_copy 42 = .ok (.iload_n 3, 1) := by decide +kernel
theorem dX5_copy_43 : decode cX5_copy 43 = .ok (.iadd, 1) := by decide +kernel
theorem dX5_copy_44 : decode cX5_copy 44 = .ok (.iaload, 1) := by decide +kernel
theorem dX5_copy_45 : decode cX5_copy 45 = .ok (.iastore, 1) := by decide +kernel
theorem dX5_copy_46 : decode cX5_copy 46 = .ok (.iinc 3 1, 3) := by decide +kernel
theorem dX5_copy_49 : decode cX5_copy 49 = .ok (.goto (-35), 3) := by decide +kernel
theorem dX5_copy_52 : decode cX5_copy 52 = .ok (.return_, 1) := by decide +kernel
set_option maxRecDepth 20000 in
theorem ggX5_content_X5_copy : GoodIn wsX5_content wsX5_copy := goodIn_r _ [7, 2, 8, 9, 10, 11, 12, 13, 14, 15, 16, 17, 18, 19, 20, 21, 22, 23, 24, 25, 26] (by decide +kernel) (by decide +kernel)
set_option maxRecDepth 20000 in
theorem gX5_content_X5_copy : GoodIn wsX5_content (wsV RX5 115 RX5 yX5_copy wsX5_copy) := goodIn_app (goodIn_of _ (by decide +kernel)) ggX5_content_X5_copy
theorem dX5_content_0 : decode cX5_content 0 = .ok (.aload_n 0, 1) := by decide +kernel
theorem dX5_content_1 : decode cX5_content 1 = .ok (.iconst 0, 1) := by decide +kernel
theorem dX5_content_2 : decode cX5_content 2 = .ok (.putfield 26, 3) := by decide +kernel
theorem dX5_content_5 : decode cX5_content 5 = .ok (.aload_n 0, 1) := by decide +kernel
theorem dX5_content_6 : decode cX5_content 6 = .ok (.bipush 7, 2) := by decide +kernel
theorem dX5_content_8 : decode cX5_content 8 = .ok (.bipush 8, 2) := by decide +kernel
theorem dX5_content_10 : decode cX5_content 10 = .ok (.invokevirtual 115, 3) := by decide +kernel
theorem dX5_content_13 : decode cX5_content 13 = .ok (.aload_n 0, 1) := by decide +kernel
theorem dX5_content_14 : decode cX5_content 14 = .ok (.getfield 13, 3) := by decide +kernel
theorem dX5_content_17 : decode cX5_content 17 = .ok (.bipush 8, 2) := by decide +kernel
theorem dX5_content_19 : decode cX5_content 19 = .ok (.iaload, 1) := by decide +kernel
theorem dX5_content_20 : decode cX5_content 20 = .ok (.ireturn, 1) := by decide +kernel
theorem dX5_tick_0 : decode cX5_tick 0 = .ok (.aload_n 0, 1) := by decide +kernel
theorem dX5_tick_1 : decode cX5_tick 1 = .ok (.iload_n 1, 1) := by decide +kernel
theorem dX5_tick_2 : decode cX5_tick 2 = .ok (.ifCond .lt 10, 3) := by decide +kernel
theorem dX5_tick_5 : decode cX5_tick 5 = .ok (.iload_n 1, 1) := by decide +kernel
theorem dX5_tick_6 : decode cX5_tick 6 = .ok (.sipush 10000, 3) := by decide +kernel
theorem dX5_tick_9 : decode cX5_tick 9 = .ok (.if_icmp .le 7, 3) := by decide +kernel
theorem dX5_tick_12 : decode cX5_tick 12 = .ok (.iconst 1, 1) := by decide +kernel
theorem dX5_tick_13 : decode cX5_tick 13 = .ok (.goto 4, 3) := by decide +kernel
theorem dX5_tick_16 : decode cX5_tick 16 = .ok (.iconst 0, 1) := by decide +kernel
theorem dX5_tick_17 : decode cX5_tick 17 = .ok (.putfield 26, 3) := by decide +kernel
theorem dX5_tick_20 : decode cX5_tick 20 = .ok (.aload_n 0, 1) := by decide +kernel
theorem dX5_tick_21 : decode cX5_tick 21 = .ok (.aload_n 0, 1) := by decide +kernel
theorem dX5_tick_22 : decode cX5_tick 22 = .ok (.getfield 26, 3) := by decide +kernel
theorem dX5_tick_25 : decode cX5_tick 25 = .ok (.ifCond .le 10, 3) := by decide +kernel
theorem dX5_tick_28 : decode cX5_tick 28 = .ok (.aload_n 0, 1) := by decide +kernel
theorem dX5_tick_29 : decode cX5_tick 29 = .ok (.getfield 106, 3) := by decide +kernel
theorem dX5_tick_32 : decode cX5_tick 32 = .ok (.goto 9, 3) := by decide +kernel
theorem dX5_tick_35 : decode cX5_tick 35 = .ok (.aload_n 0, 1) := by decide +kernel
theorem dX5_tick_36 : decode cX5_tick 36 = .ok (.getfield 106, 3) := by decide +kernel
theorem dX5_tick_39 : decode cX5_tick 39 = .ok (.iload_n 1, 1) := by decide +kernel
theorem dX5_tick_40 : decode cX5_tick 40 = .ok (.iadd, 1) := by decide +kernel
theorem dX5_tick_41 : decode cX5_tick 41 = .ok (.putfield 106, 3) := by decide +kernel
theorem dX5_tick_44 : decode cX5_tick 44 = .ok (.aload_n 0, 1) := by decide +kernel
theorem dX5_tick_45 : decode cX5_tick 45 = .ok (.getfield 26, 3) := by decide +kernel
theorem dX5_tick_48 : decode cX5_tick 48 = .ok (.ifCond .le 7, 3) := by decide +kernel
theorem dX5_tick_51 : decode cX5_tick 51 = .ok (.iconst 0, 1) := by decide +kernel
theorem dX5_tick_52 : decode cX5_tick 52 = .ok (.goto 7, 3) := by decide +kernel
theorem dX5_tick_55 : decode cX5_tick 55 = .ok (.aload_n 0, 1) := by decide +kernel
theorem dX5_tick_56 : decode cX5_tick 56 = .ok (.getfield 106, 3) := by decide +kernel
theorem dX5_tick_59 : decode cX5_tick 59 = .ok (.ireturn, 1) := by decide +kernel
theorem dX5_roleOfDraft_0 : decode cX5_roleOfDraft 0 = .ok (.aload_n 0, 1) := by decide +kernel
theorem dX5_roleOfDraft_1 : decode cX5_roleOfDraft 1 = .ok (.getfield 7, 3) := by decide +kernel
theorem dX5_roleOfDraft_4 : decode cX5_roleOfDraft 4 = .ok (.sipush 840, 3) := by decide +kernel
theorem dX5_roleOfDraft_7 : decode cX5_roleOfDraft 7 = .ok (.iaload, 1) := by decide +kernel
theorem dX5_roleOfDraft_8 : decode cX5_roleOfDraft 8 = .ok (.ireturn, 1) := by decide +kernel
set_option maxRecDepth 20000 in
theorem ggX5_trust_X5_copy : GoodIn wsX5_trust wsX5_copy := goodIn_r _ [6, 7, 8, 9, 10, 11, 12, 13, 14, 15, 16, 17, 18, 19, 20, 21, 22, 23, 24, 25, 26] (by decide +kernel) (by decide +kernel)
set_option maxRecDepth 20000 in
theorem gX5_trust_X5_copy : GoodIn wsX5_trust (wsV RX5 115 RX5 yX5_copy wsX5_copy) := goodIn_app (goodIn_of _ (by decide +kernel)) ggX5_trust_X5_copy
theorem dX5_trust_0 : decode cX5_trust 0 = .ok (.aload_n 0, 1) := by decide +kernel
theorem dX5_trust_1 : decode cX5_trust 1 = .ok (.bipush 7, 2) := by decide +kernel
theorem dX5_trust_3 : decode cX5_trust 3 = .ok (.iload_n 1, 1) := by decide +kernel
theorem dX5_trust_4 : decode cX5_trust 4 = .ok (.invokevirtual 115, 3) := by decide +kernel
theorem dX5_trust_7 : decode cX5_trust 7 = .ok (.aload_n 0, 1) := by decide +kernel
theorem dX5_trust_8 : decode cX5_trust 8 = .ok (.getfield 16, 3) := by decide +kernel
theorem dX5_trust_11 : decode cX5_trust 11 = .ok (.iload_n 1, 1) := by decide +kernel
theorem dX5_trust_12 : decode cX5_trust 12 = .ok (.iconst 1, 1) := by decide +kernel
theorem dX5_trust_13 : decode cX5_trust 13 = .ok (.bastore, 1) := by decide +kernel
theorem dX5_trust_14 : decode cX5_trust 14 = .ok (.return_, 1) := by decide +kernel
set_option maxRecDepth 20000 in
theorem ggX5_begin_X5_isDocument : GoodIn wsX5_begin wsX5_isDocument := goodIn_r _ [7, 8, 9, 10, 11, 12, 13, 6, 14, 15, 16, 17, 18, 19, 20, 21, 22, 23, 24, 25, 26, 27, 28, 29, 30, 31, 32, 33, 34, 35, 36, 37, 38, 39, 40, 41, 42, 43, 44, 45, 46, 47, 48, 49, 50, 63, 64, 65, 66, 67, 68, 69, 70, 71, 72, 73, 74, 75, 76, 77, 78, 79, 80] (by decide +kernel) (by decide +kernel)
set_option maxRecDepth 20000 in
theorem gX5_begin_X5_isDocument : GoodIn wsX5_begin (wsV RX5 97 RX5 yX5_isDocument wsX5_isDocument) := goodIn_app (goodIn_of _ (by decide +kernel)) ggX5_begin_X5_isDocument
set_option maxRecDepth 20000 in
theorem ggX5_begin_X5_roleOfDraft : GoodIn wsX5_begin wsX5_roleOfDraft := goodIn_r _ [54, 25, 63, 64, 65, 66, 67, 68, 69, 70, 71, 72, 73, 74, 75, 76, 77, 78, 79, 80] (by decide +kernel) (by decide +kernel)
set_option maxRecDepth 20000 in
theorem gX5_begin_X5_roleOfDraft : GoodIn wsX5_begin (wsV RX5 118 RX5 yX5_roleOfDraft wsX5_roleOfDraft) := goodIn_app (goodIn_of _ (by decide +kernel)) ggX5_begin_X5_roleOfDraft
set_option maxRecDepth 20000 in
theorem ggX5_begin_X5_trust : GoodIn wsX5_begin wsX5_trust := goodIn_r _ [58, 2, 59, 60, 61, 6, 62, 15, 25, 63, 64, 65, 66, 67, 68, 69, 70, 71, 72, 73, 74, 75, 76, 77, 78, 79, 80] (by decide +kernel) (by decide +kernel)
set_option maxRecDepth 20000 in
theorem gX5_begin_X5_trust : GoodIn wsX5_begin (wsV RX5 121 RX5 yX5_trust wsX5_trust) := goodIn_app (goodIn_of _ (by decide +kernel)) ggX5_begin_X5_trust
theorem dX5_begin_0 : decode cX5_begin 0 = .ok (.aload_n 0, 1) := by decide +kernel
theorem dX5_begin_1 : decode cX5_begin 1 = .ok (.aload_n 0, 1) := by decide +kernel
theorem dX5_begin_2 : decode cX5_begin 2 = .ok (.bipush 7, 2) := by decide +kernel
theorem dX5_begin_4 : decode cX5_begin 4 = .ok (.invokevirtual 97, 3) := by decide +kernel
theorem dX5_begin_7 : decode cX5_begin 7 = .ok (.ifCond .eq 14, 3) := by decide +kernel
theorem dX5_begin_10 : decode cX5_begin 10 = .ok (.aload_n 0, 1) := by decide +kernel
theorem dX5_begin_11 : decode cX5_begin 11 = .ok (.invokevirtual 118, 3) := by decide +kernel
theorem dX5_begin_14 : decode cX5_begin 14 = .ok (.ifCond .ne 7, 3) := by decide +kernel
theorem dX5_begin_17 : decode cX5_begin 17 = .ok (.iconst 0, 1) := by decide +kernel
theorem dX5_begin_18 : decode cX5_begin 18 = .ok (.goto 4, 3) := by decide +kernel
theorem dX5_begin_21 : decode cX5_begin 21 = .ok (.iconst 1, 1) := by decide +kernel
theorem dX5_begin_22 : decode cX5_begin 22 = .ok (.putfield 26, 3) := by decide +kernel
theorem dX5_begin_25 : decode cX5_begin 25 = .ok (.aload_n 0, 1) := by decide +kernel
theorem dX5_begin_26 : decode cX5_begin 26 = .ok (.getfield 26, 3) := by decide +kernel
theorem dX5_begin_29 : decode cX5_begin 29 = .ok (.ifCond .le 4, 3) := by decide +kernel
theorem dX5_begin_32 : decode cX5_begin 32 = .ok (.return_, 1) := by decide +kernel
theorem dX5_begin_33 : decode cX5_begin 33 = .ok (.iconst 0, 1) := by decide +kernel
theorem dX5_begin_34 : decode cX5_begin 34 = .ok (.istore_n 1, 1) := by decide +kernel
theorem dX5_begin_35 : decode cX5_begin 35 = .ok (.iload_n 1, 1) := by decide +kernel
theorem dX5_begin_36 : decode cX5_begin 36 = .ok (.bipush 7, 2) := by decide +kernel
theorem dX5_begin_38 : decode cX5_begin 38 = .ok (.if_icmp .ge 16, 3) := by decide +kernel
theorem dX5_begin_41 : decode cX5_begin 41 = .ok (.aload_n 0, 1) := by decide +kernel
theorem dX5_begin_42 : decode cX5_begin 42 = .ok (.getfield 16, 3) := by decide +kernel
theorem dX5_begin_45 : decode cX5_begin 45 = .ok (.iload_n 1, 1) := by decide +kernel
theorem dX5_begin_46 : decode cX5_begin 46 = .ok (.iconst 0, 1) := by decide +kernel
theorem dX5_begin_47 : decode cX5_begin 47 = .ok (.bastore, 1) := by decide +kernel
theorem dX5_begin_48 : decode cX5_begin 48 = .ok (.iinc 1 1, 3) := by decide +kernel
theorem dX5_begin_51 : decode cX5_begin 51 = .ok (.goto (-16), 3) := by decide +kernel
theorem dX5_begin_54 : decode cX5_begin 54 = .ok (.aload_n 0, 1) := by decide +kernel
theorem dX5_begin_55 : decode cX5_begin 55 = .ok (.iconst 0, 1) := by decide +kernel
theorem dX5_begin_56 : decode cX5_begin 56 = .ok (.invokevirtual 121, 3) := by decide +kernel
theorem dX5_begin_59 : decode cX5_begin 59 = .ok (.return_, 1) := by decide +kernel
set_option maxRecDepth 20000 in
theorem ggX5_areSameKeys_X5_keysOf : GoodIn wsX5_areSameKeys wsX5_keysOf := goodIn_r _ [6, 1, 7, 8, 9, 10, 11, 12, 13, 14, 15, 16, 17, 18, 19, 20, 21, 22, 23, 24] (by decide +kernel) (by decide +kernel)
set_option maxRecDepth 20000 in
theorem gX5_areSameKeys_X5_keysOf : GoodIn wsX5_areSameKeys (wsV RX5 124 RX5 yX5_keysOf wsX5_keysOf) := goodIn_app (goodIn_of _ (by decide +kernel)) ggX5_areSameKeys_X5_keysOf
theorem dX5_areSameKeys_0 : decode cX5_areSameKeys 0 = .ok (.aload_n 0, 1) := by decide +kernel
theorem dX5_areSameKeys_1 : decode cX5_areSameKeys 1 = .ok (.iconst 0, 1) := by decide +kernel
theorem dX5_areSameKeys_2 : decode cX5_areSameKeys 2 = .ok (.iload_n 1, 1) := by decide +kernel
theorem dX5_areSameKeys_3 : decode cX5_areSameKeys 3 = .ok (.invokevirtual 124, 3) := by decide +kernel
theorem dX5_areSameKeys_6 : decode cX5_areSameKeys 6 = .ok (.istore_n 2, 1) := by decide +kernel
theorem dX5_areSameKeys_7 : decode cX5_areSameKeys 7 = .ok (.aload_n 0, 1) := by decide +kernel
theorem dX5_areSameKeys_8 : decode cX5_areSameKeys 8 = .ok (.bipush 7, 2) := by decide +kernel
theorem dX5_areSameKeys_10 : decode cX5_areSameKeys 10 = .ok (.iload_n 1, 1) := by decide +kernel
theorem dX5_areSameKeys_11 : decode cX5_areSameKeys 11 = .ok (.invokevirtual 124, 3) := by decide +kernel
theorem dX5_areSameKeys_14 : decode cX5_areSameKeys 14 = .ok (.istore_n 3, 1) := by decide +kernel
theorem dX5_areSameKeys_15 : decode cX5_areSameKeys 15 = .ok (.iconst 1, 1) := by decide +kernel
theorem dX5_areSameKeys_16 : decode cX5_areSameKeys 16 = .ok (.istore 4, 2) := by decide +kernel
theorem dX5_areSameKeys_18 : decode cX5_areSameKeys 18 = .ok (.iconst 0, 1) := by decide +kernel
theorem dX5_areSameKeys_19 : decode cX5_areSameKeys 19 = .ok (.istore 5, 2) := by decide +kernel
theorem dX5_areSameKeys_21 : decode cX5_areSameKeys 21 = .ok (.iload 5, 2) := by decide +kernel
theorem dX5_areSameKeys_23 : decode cX5_areSameKeys 23 = .ok (.iconst 2, 1) := by decide +kernel
theorem dX5_areSameKeys_24 : decode cX5_areSameKeys 24 = .ok (.aload_n 0, 1) := by decide +kernel
theorem dX5_areSameKeys_25 : decode cX5_areSameKeys 25 = .ok (.getfield 7, 3) := by decide +kernel
theorem dX5_areSameKeys_28 : decode cX5_areSameKeys 28 = .ok (.iload_n 2, 1) := by decide +kernel
theorem dX5_areSameKeys_29 : decode cX5_areSameKeys 29 = .ok (.iconst 1, 1) := by decide +kernel
theorem dX5_areSameKeys_30 : decode cX5_areSameKeys 30 = .ok (.iadd, 1) := by decide +kernel
theorem dX5_areSameKeys_31 : decode cX5_areSameKeys 31 = .ok (.iaload, 1) := by decide +kernel
theorem dX5_areSameKeys_32 : decode cX5_areSameKeys 32 = .ok (.iadd, 1) := by decide +kernel
theorem dX5_areSameKeys_33 : decode cX5_areSameKeys 33 = .ok (.if_icmp .ge 42, 3) := by decide +kernel
theorem dX5_areSameKeys_36 : decode cX5_areSameKeys 36 = .ok (.iload 4, 2) := by decide +kernel
theorem dX5_areSameKeys_38 : decode cX5_areSameKeys 38 = .ok (.ifCond .eq 28, 3) := by decide +kernel
theorem dX5_areSameKeys_41 : decode cX5_areSameKeys 41 = .ok (.aload_n 0, 1) := by decide +kernel
theorem dX5_areSameKeys_42 : decode cX5_areSameKeys 42 = .ok (.getfield 7, 3) := by decide +kernel
theorem dX5_areSameKeys_45 : decode cX5_areSameKeys 45 = .ok (.iload_n 2, 1) := by decide +kernel
theorem dX5_areSameKeys_46 : decode cX5_areSameKeys 46 = .ok (.iload 5, 2) := by decide +kernel
theorem dX5_areSameKeys_48 : decode cX5_areSameKeys 48 = .ok (.iadd, 1) := by decide +kernel
theorem dX5_areSameKeys_49 : decode cX5_areSameKeys 49 = .ok (.iaload, 1) := by decide +kernel
theorem dX5_areSameKeys_50 : decode cX5_areSameKeys 50 = .ok (.aload_n 0, 1) := by decide +kernel
theorem dX5_areSameKeys_51 : decode cX5_areSameKeys 51 = .ok (.getfield 7, 3) := by decide +kernel
theorem dX5_areSameKeys_54 : decode cX5_areSameKeys 54 = .ok (.iload_n 3, 1) := by decide +kernel
theorem dX5_areSameKeys_55 : decode cX5_areSameKeys 55 = .ok (.iload 5, 2) := by decide +kernel
theorem dX5_areSameKeys_57 : decode cX5_areSameKeys 57 = .ok (.iadd, 1) := by decide +kernel
theorem dX5_areSameKeys_58 : decode cX5_areSameKeys 58 = .ok (.iaload, 1) := by decide +kernel
theorem dX5_areSameKeys_59 : decode cX5_areSameKeys 59 = .ok (.if_icmp .ne 7, 3) := by decide +kernel
theorem dX5_areSameKeys_62 : decode cX5_areSameKeys 62 = .ok (.iconst 1, 1) := by decide +kernel
theorem dX5_areSameKeys_63 : decode cX5_areSameKeys 63 = .ok (.goto 4, 3) := by decide +kernel
theorem dX5_areSameKeys_66 : decode cX5_areSameKeys 66 = .ok (.iconst 0, 1) := by decide +kernel
theorem dX5_areSameKeys_67 : decode cX5_areSameKeys 67 = .ok (.istore 4, 2) := by decide +kernel
theorem dX5_areSameKeys_69 : decode cX5_areSameKeys 69 = .ok (.iinc 5 1, 3) := by decide +kernel
theorem dX5_areSameKeys_72 : decode cX5_areSameKeys 72 = .ok (.goto (-51), 3) := by decide +kernel
theorem dX5_areSameKeys_75 : decode cX5_areSameKeys 75 = .ok (.iload 4, 2) := by decide +kernel
theorem dX5_areSameKeys_77 : decode cX5_areSameKeys 77 = .ok (.ireturn, 1) := by decide +kernel
set_option maxRecDepth 20000 in
theorem ggX5_offerRoot_X5_keysOf : GoodIn wsX5_offerRoot wsX5_keysOf := goodIn_r _ [6, 7, 80, 81, 82, 83, 84, 85, 86, 87, 88, 89, 90, 91, 92, 93, 94, 95, 96, 97] (by decide +kernel) (by decide +kernel)
set_option maxRecDepth 20000 in
theorem gX5_offerRoot_X5_keysOf : GoodIn wsX5_offerRoot (wsV RX5 124 RX5 yX5_keysOf wsX5_keysOf) := goodIn_app (goodIn_of _ (by decide +kernel)) ggX5_offerRoot_X5_keysOf
set_option maxRecDepth 20000 in
theorem ggX5_offerRoot_X5_isSigned : GoodIn wsX5_offerRoot wsX5_isSigned := goodIn_r _ [11, 7, 12, 13, 14, 5, 15, 16, 17, 18, 19, 20, 21, 22, 23, 24, 25, 26, 27, 28, 29, 30, 31, 32, 33, 34, 35, 36, 37, 38, 39, 40, 41, 42, 43, 44, 45, 46, 47, 48, 49, 50, 51, 52, 53, 54, 55, 56, 57, 58, 59, 60, 61, 62, 63, 64, 65, 66, 67, 68, 69, 70, 71, 80, 81, 82, 83, 84, 85, 86, 87, 88, 89, 90, 91, 92, 93, 94, 95, 96, 97] (by decide +kernel) (by decide +kernel)
set_option maxRecDepth 20000 in
theorem gX5_offerRoot_X5_isSigned : GoodIn wsX5_offerRoot (wsV RX5 127 RX5 yX5_isSigned wsX5_isSigned) := goodIn_app (goodIn_of _ (by decide +kernel)) ggX5_offerRoot_X5_isSigned
set_option maxRecDepth 20000 in
theorem ggX5_offerRoot_X5_versionOf : GoodIn wsX5_offerRoot wsX5_versionOf := goodIn_r _ [75, 7, 80, 81, 82, 83, 84, 85, 86, 87, 88, 89, 90, 91, 92, 93, 94, 95, 96, 97] (by decide +kernel) (by decide +kernel)
set_option maxRecDepth 20000 in
theorem gX5_offerRoot_X5_versionOf : GoodIn wsX5_offerRoot (wsV RX5 130 RX5 yX5_versionOf wsX5_versionOf) := goodIn_app (goodIn_of _ (by decide +kernel)) ggX5_offerRoot_X5_versionOf
set_option maxRecDepth 20000 in
theorem ggX5_offerRoot_X5_areSameKeys : GoodIn wsX5_offerRoot wsX5_areSameKeys := goodIn_r _ [79, 7, 2, 3, 4, 5, 6, 80, 81, 82, 83, 84, 85, 86, 87, 88, 89, 90, 91, 92, 93, 94, 95, 96, 97] (by decide +kernel) (by decide +kernel)
set_option maxRecDepth 20000 in
theorem gX5_offerRoot_X5_areSameKeys : GoodIn wsX5_offerRoot (wsV RX5 133 RX5 yX5_areSameKeys wsX5_areSameKeys) := goodIn_app (goodIn_of _ (by decide +kernel)) ggX5_offerRoot_X5_areSameKeys
theorem dX5_offerRoot_0 : decode cX5_offerRoot 0 = .ok (.aload_n 0, 1) := by decide +kernel
theorem dX5_offerRoot_1 : decode cX5_offerRoot 1 = .ok (.getfield 16, 3) := by decide +kernel
theorem dX5_offerRoot_4 : decode cX5_offerRoot 4 = .ok (.iconst 0, 1) := by decide +kernel
theorem dX5_offerRoot_5 : decode cX5_offerRoot 5 = .ok (.baload, 1) := by decide +kernel
theorem dX5_offerRoot_6 : decode cX5_offerRoot 6 = .ok (.ifCond .ne 5, 3) := by decide +kernel
theorem dX5_offerRoot_9 : decode cX5_offerRoot 9 = .ok (.iconst 2, 1) := by decide +kernel
theorem dX5_offerRoot_10 : decode cX5_offerRoot 10 = .ok (.ireturn, 1) := by decide +kernel
theorem dX5_offerRoot_11 : decode cX5_offerRoot 11 = .ok (.aload_n 0, 1) := by decide +kernel
theorem dX5_offerRoot_12 : decode cX5_offerRoot 12 = .ok (.bipush 7, 2) := by decide +kernel
theorem dX5_offerRoot_14 : decode cX5_offerRoot 14 = .ok (.aload_n 0, 1) := by decide +kernel
theorem dX5_offerRoot_15 : decode cX5_offerRoot 15 = .ok (.iconst 0, 1) := by decide +kernel
theorem dX5_offerRoot_16 : decode cX5_offerRoot 16 = .ok (.iconst 0, 1) := by decide +kernel
theorem dX5_offerRoot_17 : decode cX5_offerRoot 17 = .ok (.invokevirtual 124, 3) := by decide +kernel
theorem dX5_offerRoot_20 : decode cX5_offerRoot 20 = .ok (.invokevirtual 127, 3) := by decide +kernel
theorem dX5_offerRoot_23 : decode cX5_offerRoot 23 = .ok (.ifCond .eq 19, 3) := by decide +kernel
theorem dX5_offerRoot_26 : decode cX5_offerRoot 26 = .ok (.aload_n 0, 1) := by decide +kernel
theorem dX5_offerRoot_27 : decode cX5_offerRoot 27 = .ok (.bipush 7, 2) := by decide +kernel
theorem dX5_offerRoot_29 : decode cX5_offerRoot 29 = .ok (.aload_n 0, 1) := by decide +kernel
theorem dX5_offerRoot_30 : decode cX5_offerRoot 30 = .ok (.bipush 7, 2) := by decide +kernel
theorem dX5_offerRoot_32 : decode cX5_offerRoot 32 = .ok (.iconst 0, 1) := by decide +kernel
theorem dX5_offerRoot_33 : decode cX5_offerRoot 33 = .ok (.invokevirtual 124, 3) := by decide +kernel
theorem dX5_offerRoot_36 : decode cX5_offerRoot 36 = .ok (.invokevirtual 127, 3) := by decide +kernel
theorem dX5_offerRoot_39 : decode cX5_offerRoot 39 = .ok (.ifCond .ne 5, 3) := by decide +kernel
theorem dX5_offerRoot_42 : decode cX5_offerRoot 42 = .ok (.iconst 3, 1) := by decide +kernel
theorem dX5_offerRoot_43 : decode cX5_offerRoot 43 = .ok (.ireturn, 1) := by decide +kernel
theorem dX5_offerRoot_44 : decode cX5_offerRoot 44 = .ok (.aload_n 0, 1) := by decide +kernel
theorem dX5_offerRoot_45 : decode cX5_offerRoot 45 = .ok (.bipush 7, 2) := by decide +kernel
theorem dX5_offerRoot_47 : decode cX5_offerRoot 47 = .ok (.invokevirtual 130, 3) := by decide +kernel
theorem dX5_offerRoot_50 : decode cX5_offerRoot 50 = .ok (.aload_n 0, 1) := by decide +kernel
theorem dX5_offerRoot_51 : decode cX5_offerRoot 51 = .ok (.iconst 0, 1) := by decide +kernel
theorem dX5_offerRoot_52 : decode cX5_offerRoot 52 = .ok (.invokevirtual 130, 3) := by decide +kernel
theorem dX5_offerRoot_55 : decode cX5_offerRoot 55 = .ok (.iconst 1, 1) := by decide +kernel
theorem dX5_offerRoot_56 : decode cX5_offerRoot 56 = .ok (.iadd, 1) := by decide +kernel
theorem dX5_offerRoot_57 : decode cX5_offerRoot 57 = .ok (.if_icmp .eq 5, 3) := by decide +kernel
theorem dX5_offerRoot_60 : decode cX5_offerRoot 60 = .ok (.iconst 4, 1) := by decide +kernel
theorem dX5_offerRoot_61 : decode cX5_offerRoot 61 = .ok (.ireturn, 1) := by decide +kernel
theorem dX5_offerRoot_62 : decode cX5_offerRoot 62 = .ok (.aload_n 0, 1) := by decide +kernel
theorem dX5_offerRoot_63 : decode cX5_offerRoot 63 = .ok (.iconst 1, 1) := by decide +kernel
theorem dX5_offerRoot_64 : decode cX5_offerRoot 64 = .ok (.invokevirtual 133, 3) := by decide +kernel
theorem dX5_offerRoot_67 : decode cX5_offerRoot 67 = .ok (.ifCond .eq 11, 3) := by decide +kernel
theorem dX5_offerRoot_70 : decode cX5_offerRoot 70 = .ok (.aload_n 0, 1) := by decide +kernel
theorem dX5_offerRoot_71 : decode cX5_offerRoot 71 = .ok (.iconst 2, 1) := by decide +kernel
theorem dX5_offerRoot_72 : decode cX5_offerRoot 72 = .ok (.invokevirtual 133, 3) := by decide +kernel
theorem dX5_offerRoot_75 : decode cX5_offerRoot 75 = .ok (.ifCond .ne 17, 3) := by decide +kernel
theorem dX5_offerRoot_78 : decode cX5_offerRoot 78 = .ok (.aload_n 0, 1) := by decide +kernel
theorem dX5_offerRoot_79 : decode cX5_offerRoot 79 = .ok (.getfield 16, 3) := by decide +kernel
theorem dX5_offerRoot_82 : decode cX5_offerRoot 82 = .ok (.iconst 1, 1) := by decide +kernel
theorem dX5_offerRoot_83 : decode cX5_offerRoot 83 = .ok (.iconst 0, 1) := by decide +kernel
theorem dX5_offerRoot_84 : decode cX5_offerRoot 84 = .ok (.bastore, 1) := by decide +kernel
theorem dX5_offerRoot_85 : decode cX5_offerRoot 85 = .ok (.aload_n 0, 1) := by decide +kernel
theorem dX5_offerRoot_86 : decode cX5_offerRoot 86 = .ok (.getfield 16, 3) := by decide +kernel
theorem dX5_offerRoot_89 : decode cX5_offerRoot 89 = .ok (.iconst 2, 1) := by decide +kernel
theorem dX5_offerRoot_90 : decode cX5_offerRoot 90 = .ok (.iconst 0, 1) := by decide +kernel
theorem dX5_offerRoot_91 : decode cX5_offerRoot 91 = .ok (.bastore, 1) := by decide +kernel
theorem dX5_offerRoot_92 : decode cX5_offerRoot 92 = .ok (.iconst 0, 1) := by decide +kernel
theorem dX5_offerRoot_93 : decode cX5_offerRoot 93 = .ok (.ireturn, 1) := by decide +kernel
set_option maxRecDepth 20000 in
theorem ggX5_offerStamp_X5_stands : GoodIn wsX5_offerStamp wsX5_stands := goodIn_r _ [7, 1, 8, 9, 10, 6, 11, 12, 13, 14, 15, 16, 2, 89, 90, 91, 92, 93, 94, 95, 96, 97, 98, 99, 100, 101, 102, 103, 104, 105, 106] (by decide +kernel) (by decide +kernel)
set_option maxRecDepth 20000 in
theorem gX5_offerStamp_X5_stands : GoodIn wsX5_offerStamp (wsV RX5 136 RX5 yX5_stands wsX5_stands) := goodIn_app (goodIn_of _ (by decide +kernel)) ggX5_offerStamp_X5_stands
set_option maxRecDepth 20000 in
theorem ggX5_offerStamp_X5_keysOf : GoodIn wsX5_offerStamp wsX5_keysOf := goodIn_r _ [20, 2, 89, 90, 91, 92, 93, 94, 95, 96, 97, 98, 99, 100, 101, 102, 103, 104, 105, 106] (by decide +kernel) (by decide +kernel)
set_option maxRecDepth 20000 in
theorem gX5_offerStamp_X5_keysOf : GoodIn wsX5_offerStamp (wsV RX5 124 RX5 yX5_keysOf wsX5_keysOf) := goodIn_app (goodIn_of _ (by decide +kernel)) ggX5_offerStamp_X5_keysOf
set_option maxRecDepth 20000 in
theorem ggX5_offerStamp_X5_isSigned : GoodIn wsX5_offerStamp wsX5_isSigned := goodIn_r _ [24, 2, 25, 26, 27, 6, 28, 29, 30, 31, 32, 33, 34, 35, 36, 37, 38, 39, 40, 41, 42, 43, 44, 45, 46, 47, 48, 49, 50, 51, 52, 53, 54, 55, 56, 57, 58, 59, 60, 61, 62, 63, 64, 65, 66, 67, 68, 69, 70, 71, 72, 73, 74, 75, 76, 77, 78, 79, 80, 81, 82, 83, 84, 89, 90, 91, 92, 93, 94, 95, 96, 97, 98, 99, 100, 101, 102, 103, 104, 105, 106] (by decide +kernel) (by decide +kernel)
set_option maxRecDepth 20000 in
theorem gX5_offerStamp_X5_isSigned : GoodIn wsX5_offerStamp (wsV RX5 127 RX5 yX5_isSigned wsX5_isSigned) := goodIn_app (goodIn_of _ (by decide +kernel)) ggX5_offerStamp_X5_isSigned
set_option maxRecDepth 20000 in
theorem ggX5_offerStamp_X5_versionOf : GoodIn wsX5_offerStamp wsX5_versionOf := goodIn_r _ [88, 2, 89, 90, 91, 92, 93, 94, 95, 96, 97, 98, 99, 100, 101, 102, 103, 104, 105, 106] (by decide +kernel) (by decide +kernel)
set_option maxRecDepth 20000 in
theorem gX5_offerStamp_X5_versionOf : GoodIn wsX5_offerStamp (wsV RX5 130 RX5 yX5_versionOf wsX5_versionOf) := goodIn_app (goodIn_of _ (by decide +kernel)) ggX5_offerStamp_X5_versionOf
set_option maxRecDepth 20000 in
theorem ggX5_offerStamp_X5_isOver : GoodIn wsX5_offerStamp wsX5_isOver := goodIn_r _ [11, 12, 13, 14, 15, 6, 16, 2, 89, 90, 91, 92, 93, 94, 95, 96, 97, 98, 99, 100, 101, 102, 103, 104, 105, 106] (by decide +kernel) (by decide +kernel)
set_option maxRecDepth 20000 in
theorem gX5_offerStamp_X5_isOver : GoodIn wsX5_offerStamp (wsV RX5 109 RX5 yX5_isOver wsX5_isOver) := goodIn_app (goodIn_of _ (by decide +kernel)) ggX5_offerStamp_X5_isOver
theorem dX5_offerStamp_0 : decode cX5_offerStamp 0 = .ok (.aload_n 0, 1) := by decide +kernel
theorem dX5_offerStamp_1 : decode cX5_offerStamp 1 = .ok (.iconst 0, 1) := by decide +kernel
theorem dX5_offerStamp_2 : decode cX5_offerStamp 2 = .ok (.invokevirtual 136, 3) := by decide +kernel
theorem dX5_offerStamp_5 : decode cX5_offerStamp 5 = .ok (.ifCond .ne 5, 3) := by decide +kernel
theorem dX5_offerStamp_8 : decode cX5_offerStamp 8 = .ok (.iconst 2, 1) := by decide +kernel
theorem dX5_offerStamp_9 : decode cX5_offerStamp 9 = .ok (.ireturn, 1) := by decide +kernel
theorem dX5_offerStamp_10 : decode cX5_offerStamp 10 = .ok (.aload_n 0, 1) := by decide +kernel
theorem dX5_offerStamp_11 : decode cX5_offerStamp 11 = .ok (.bipush 7, 2) := by decide +kernel
theorem dX5_offerStamp_13 : decode cX5_offerStamp 13 = .ok (.aload_n 0, 1) := by decide +kernel
theorem dX5_offerStamp_14 : decode cX5_offerStamp 14 = .ok (.iconst 0, 1) := by decide +kernel
theorem dX5_offerStamp_15 : decode cX5_offerStamp 15 = .ok (.iconst 1, 1) := by decide +kernel
theorem dX5_offerStamp_16 : decode cX5_offerStamp 16 = .ok (.invokevirtual 124, 3) := by decide +kernel
theorem dX5_offerStamp_19 : decode cX5_offerStamp 19 = .ok (.invokevirtual 127, 3) := by decide +kernel
theorem dX5_offerStamp_22 : decode cX5_offerStamp 22 = .ok (.ifCond .ne 5, 3) := by decide +kernel
theorem dX5_offerStamp_25 : decode cX5_offerStamp 25 = .ok (.iconst 3, 1) := by decide +kernel
theorem dX5_offerStamp_26 : decode cX5_offerStamp 26 = .ok (.ireturn, 1) := by decide +kernel
theorem dX5_offerStamp_27 : decode cX5_offerStamp 27 = .ok (.aload_n 0, 1) := by decide +kernel
theorem dX5_offerStamp_28 : decode cX5_offerStamp 28 = .ok (.getfield 16, 3) := by decide +kernel
theorem dX5_offerStamp_31 : decode cX5_offerStamp 31 = .ok (.iconst 1, 1) := by decide +kernel
theorem dX5_offerStamp_32 : decode cX5_offerStamp 32 = .ok (.baload, 1) := by decide +kernel
theorem dX5_offerStamp_33 : decode cX5_offerStamp 33 = .ok (.ifCond .eq 39, 3) := by decide +kernel
theorem dX5_offerStamp_36 : decode cX5_offerStamp 36 = .ok (.aload_n 0, 1) := by decide +kernel
theorem dX5_offerStamp_37 : decode cX5_offerStamp 37 = .ok (.bipush 7, 2) := by decide +kernel
theorem dX5_offerStamp_39 : decode cX5_offerStamp 39 = .ok (.invokevirtual 130, 3) := by decide +kernel
theorem dX5_offerStamp_42 : decode cX5_offerStamp 42 = .ok (.aload_n 0, 1) := by decide +kernel
theorem dX5_offerStamp_43 : decode cX5_offerStamp 43 = .ok (.iconst 1, 1) := by decide +kernel
theorem dX5_offerStamp_44 : decode cX5_offerStamp 44 = .ok (.invokevirtual 130, 3) := by decide +kernel
theorem dX5_offerStamp_47 : decode cX5_offerStamp 47 = .ok (.if_icmp .lt 21, 3) := by decide +kernel
theorem dX5_offerStamp_50 : decode cX5_offerStamp 50 = .ok (.aload_n 0, 1) := by decide +kernel
theorem dX5_offerStamp_51 : decode cX5_offerStamp 51 = .ok (.getfield 7, 3) := by decide +kernel
theorem dX5_offerStamp_54 : decode cX5_offerStamp 54 = .ok (.sipush 844, 3) := by decide +kernel
theorem dX5_offerStamp_57 : decode cX5_offerStamp 57 = .ok (.iaload, 1) := by decide +kernel
theorem dX5_offerStamp_58 : decode cX5_offerStamp 58 = .ok (.aload_n 0, 1) := by decide +kernel
theorem dX5_offerStamp_59 : decode cX5_offerStamp 59 = .ok (.getfield 7, 3) := by decide +kernel
theorem dX5_offerStamp_62 : decode cX5_offerStamp 62 = .ok (.bipush 124, 2) := by decide +kernel
theorem dX5_offerStamp_64 : decode cX5_offerStamp 64 = .ok (.iaload, 1) := by decide +kernel
theorem dX5_offerStamp_65 : decode cX5_offerStamp 65 = .ok (.if_icmp .ge 7, 3) := by decide +kernel
theorem dX5_offerStamp_68 : decode cX5_offerStamp 68 = .ok (.iconst 1, 1) := by decide +kernel
theorem dX5_offerStamp_69 : decode cX5_offerStamp 69 = .ok (.goto 4, 3) := by decide +kernel
theorem dX5_offerStamp_72 : decode cX5_offerStamp 72 = .ok (.iconst 0, 1) := by decide +kernel
theorem dX5_offerStamp_73 : decode cX5_offerStamp 73 = .ok (.istore_n 1, 1) := by decide +kernel
theorem dX5_offerStamp_74 : decode cX5_offerStamp 74 = .ok (.iload_n 1, 1) := by decide +kernel
theorem dX5_offerStamp_75 : decode cX5_offerStamp 75 = .ok (.ifCond .eq 7, 3) := by decide +kernel
theorem dX5_offerStamp_78 : decode cX5_offerStamp 78 = .ok (.iconst 4, 1) := by decide +kernel
theorem dX5_offerStamp_79 : decode cX5_offerStamp 79 = .ok (.goto 17, 3) := by decide +kernel
theorem dX5_offerStamp_82 : decode cX5_offerStamp 82 = .ok (.aload_n 0, 1) := by decide +kernel
theorem dX5_offerStamp_83 : decode cX5_offerStamp 83 = .ok (.bipush 7, 2) := by decide +kernel
theorem dX5_offerStamp_85 : decode cX5_offerStamp 85 = .ok (.invokevirtual 109, 3) := by decide +kernel
theorem dX5_offerStamp_88 : decode cX5_offerStamp 88 = .ok (.ifCond .eq 7, 3) := by decide +kernel
theorem dX5_offerStamp_91 : decode cX5_offerStamp 91 = .ok (.iconst 5, 1) := by decide +kernel
theorem dX5_offerStamp_92 : decode cX5_offerStamp 92 = .ok (.goto 4, 3) := by decide +kernel
theorem dX5_offerStamp_95 : decode cX5_offerStamp 95 = .ok (.iconst 0, 1) := by decide +kernel
theorem dX5_offerStamp_96 : decode cX5_offerStamp 96 = .ok (.ireturn, 1) := by decide +kernel
set_option maxRecDepth 20000 in
theorem ggX5_offerSnapshot_X5_stands : GoodIn wsX5_offerSnapshot wsX5_stands := goodIn_r _ [8, 3, 9, 10, 11, 7, 12, 13, 14, 15, 16, 17, 1, 93, 94, 95, 96, 97, 98, 99, 100, 101, 102, 103, 104, 105, 106, 107, 108, 109, 110] (by decide +kernel) (by decide +kernel)
set_option maxRecDepth 20000 in
theorem gX5_offerSnapshot_X5_stands : GoodIn wsX5_offerSnapshot (wsV RX5 136 RX5 yX5_stands wsX5_stands) := goodIn_app (goodIn_of _ (by decide +kernel)) ggX5_offerSnapshot_X5_stands
set_option maxRecDepth 20000 in
theorem ggX5_offerSnapshot_X5_keysOf : GoodIn wsX5_offerSnapshot wsX5_keysOf := goodIn_r _ [21, 1, 93, 94, 95, 96, 97, 98, 99, 100, 101, 102, 103, 104, 105, 106, 107, 108, 109, 110] (by decide +kernel) (by decide +kernel)
set_option maxRecDepth 20000 in
theorem gX5_offerSnapshot_X5_keysOf : GoodIn wsX5_offerSnapshot (wsV RX5 124 RX5 yX5_keysOf wsX5_keysOf) := goodIn_app (goodIn_of _ (by decide +kernel)) ggX5_offerSnapshot_X5_keysOf
set_option maxRecDepth 20000 in
theorem ggX5_offerSnapshot_X5_isSigned : GoodIn wsX5_offerSnapshot wsX5_isSigned := goodIn_r _ [25, 1, 26, 27, 28, 7, 29, 30, 31, 32, 33, 34, 35, 36, 2, 37, 38, 39, 40, 41, 42, 43, 44, 45, 46, 47, 48, 49, 50, 51, 52, 53, 54, 55, 56, 57, 58, 59, 60, 61, 62, 63, 64, 65, 66, 67, 68, 69, 70, 71, 72, 73, 74, 75, 76, 77, 78, 79, 80, 81, 82, 83, 84, 93, 94, 95, 96, 97, 98, 99, 100, 101, 102, 103, 104, 105, 106, 107, 108, 109, 110] (by decide +kernel) (by decide +kernel)
set_option maxRecDepth 20000 in
theorem gX5_offerSnapshot_X5_isSigned : GoodIn wsX5_offerSnapshot (wsV RX5 127 RX5 yX5_isSigned wsX5_isSigned) := goodIn_app (goodIn_of _ (by decide +kernel)) ggX5_offerSnapshot_X5_isSigned
set_option maxRecDepth 20000 in
theorem ggX5_offerSnapshot_X5_versionOf : GoodIn wsX5_offerSnapshot wsX5_versionOf := goodIn_r _ [88, 1, 93, 94, 95, 96, 97, 98, 99, 100, 101, 102, 103, 104, 105, 106, 107, 108, 109, 110] (by decide +kernel) (by decide +kernel)
set_option maxRecDepth 20000 in
theorem gX5_offerSnapshot_X5_versionOf : GoodIn wsX5_offerSnapshot (wsV RX5 130 RX5 yX5_versionOf wsX5_versionOf) := goodIn_app (goodIn_of _ (by decide +kernel)) ggX5_offerSnapshot_X5_versionOf
set_option maxRecDepth 20000 in
theorem ggX5_offerSnapshot_X5_mixOf : GoodIn wsX5_offerSnapshot wsX5_mixOf := goodIn_r _ [78, 79, 1, 80, 93, 94, 95, 96, 97, 98, 99, 100, 101, 102, 103, 104, 105, 106, 107, 108, 109, 110] (by decide +kernel) (by decide +kernel)
set_option maxRecDepth 20000 in
theorem gX5_offerSnapshot_X5_mixOf : GoodIn wsX5_offerSnapshot (wsV RX5 38 RX5 yX5_mixOf wsX5_mixOf) := goodIn_app (goodIn_of _ (by decide +kernel)) ggX5_offerSnapshot_X5_mixOf
set_option maxRecDepth 20000 in
theorem ggX5_offerSnapshot_X5_four : GoodIn wsX5_offerSnapshot wsX5_four := goodIn_r _ [84, 1, 93, 94, 95, 96, 97, 98, 99, 100, 101, 102, 103, 104, 105, 106, 107, 108, 109, 110] (by decide +kernel) (by decide +kernel)
set_option maxRecDepth 20000 in
theorem gX5_offerSnapshot_X5_four : GoodIn wsX5_offerSnapshot (wsV RX5 93 RX5 yX5_four wsX5_four) := goodIn_app (goodIn_of _ (by decide +kernel)) ggX5_offerSnapshot_X5_four
set_option maxRecDepth 20000 in
theorem ggX5_offerSnapshot_X5_said : GoodIn wsX5_offerSnapshot wsX5_said := goodIn_r _ [92, 1, 93, 94, 95, 96, 97, 98, 99, 100, 101, 102, 103, 104, 105, 106, 107, 108, 109, 110] (by decide +kernel) (by decide +kernel)
set_option maxRecDepth 20000 in
theorem gX5_offerSnapshot_X5_said : GoodIn wsX5_offerSnapshot (wsV RX5 139 RX5 yX5_said wsX5_said) := goodIn_app (goodIn_of _ (by decide +kernel)) ggX5_offerSnapshot_X5_said
set_option maxRecDepth 20000 in
theorem ggX5_offerSnapshot_X5_isOver : GoodIn wsX5_offerSnapshot wsX5_isOver := goodIn_r _ [12, 13, 14, 15, 16, 7, 17, 1, 93, 94, 95, 96, 97, 98, 99, 100, 101, 102, 103, 104, 105, 106, 107, 108, 109, 110] (by decide +kernel) (by decide +kernel)
set_option maxRecDepth 20000 in
theorem gX5_offerSnapshot_X5_isOver : GoodIn wsX5_offerSnapshot (wsV RX5 109 RX5 yX5_isOver wsX5_isOver) := goodIn_app (goodIn_of _ (by decide +kernel)) ggX5_offerSnapshot_X5_isOver
theorem dX5_offerSnapshot_0 : decode cX5_offerSnapshot 0 = .ok (.aload_n 0, 1) := by decide +kernel
theorem dX5_offerSnapshot_1 : decode cX5_offerSnapshot 1 = .ok (.iconst 0, 1) := by decide +kernel
theorem dX5_offerSnapshot_2 : decode cX5_offerSnapshot 2 = .ok (.invokevirtual 136, 3) := by decide +kernel
theorem dX5_offerSnapshot_5 : decode cX5_offerSnapshot 5 = .ok (.ifCond .eq 11, 3) := by decide +kernel
theorem dX5_offerSnapshot_8 : decode cX5_offerSnapshot 8 = .ok (.aload_n 0, 1) := by decide +kernel
theorem dX5_offerSnapshot_9 : decode cX5_offerSnapshot 9 = .ok (.iconst 1, 1) := by decide +kernel
theorem dX5_offerSnapshot_10 : decode cX5_offerSnapshot 10 = .ok (.invokevirtual 136, 3) := by decide +kernel
theorem dX5_offerSnapshot_13 : decode cX5_offerSnapshot 13 = .ok (.ifCond .ne 5, 3) := by decide +kernel
theorem dX5_offerSnapshot_16 : decode cX5_offerSnapshot 16 = .ok (.iconst 2, 1) := by decide +kernel
theorem dX5_offerSnapshot_17 : decode cX5_offerSnapshot 17 = .ok (.ireturn, 1) := by decide +kernel
theorem dX5_offerSnapshot_18 : decode cX5_offerSnapshot 18 = .ok (.aload_n 0, 1) := by decide +kernel
theorem dX5_offerSnapshot_19 : decode cX5_offerSnapshot 19 = .ok (.bipush 7, 2) := by decide +kernel
theorem dX5_offerSnapshot_21 : decode cX5_offerSnapshot 21 = .ok (.aload_n 0, 1) := by decide +kernel
theorem dX5_offerSnapshot_22 : decode cX5_offerSnapshot 22 = .ok (.iconst 0, 1) := by decide +kernel
theorem dX5_offerSnapshot_23 : decode cX5_offerSnapshot 23 = .ok (.iconst 2, 1) := by decide +kernel
theorem dX5_offerSnapshot_24 : decode cX5_offerSnapshot 24 = .ok (.invokevirtual 124, 3) := by decide +kernel
theorem dX5_offerSnapshot_27 : decode cX5_offerSnapshot 27 = .ok (.invokevirtual 127, 3) := by decide +kernel
theorem dX5_offerSnapshot_30 : decode cX5_offerSnapshot 30 = .ok (.ifCond .ne 5, 3) := by decide +kernel
theorem dX5_offerSnapshot_33 : decode cX5_offerSnapshot 33 = .ok (.iconst 3, 1) := by decide +kernel
theorem dX5_offerSnapshot_34 : decode cX5_offerSnapshot 34 = .ok (.ireturn, 1) := by decide +kernel
theorem dX5_offerSnapshot_35 : decode cX5_offerSnapshot 35 = .ok (.aload_n 0, 1) := by decide +kernel
theorem dX5_offerSnapshot_36 : decode cX5_offerSnapshot 36 = .ok (.bipush 7, 2) := by decide +kernel
theorem dX5_offerSnapshot_38 : decode cX5_offerSnapshot 38 = .ok (.invokevirtual 130, 3) := by decide +kernel
theorem dX5_offerSnapshot_41 : decode cX5_offerSnapshot 41 = .ok (.aload_n 0, 1) := by decide +kernel
theorem dX5_offerSnapshot_42 : decode cX5_offerSnapshot 42 = .ok (.getfield 7, 3) := by decide +kernel
theorem dX5_offerSnapshot_45 : decode cX5_offerSnapshot 45 = .ok (.bipush 124, 2) := by decide +kernel
theorem dX5_offerSnapshot_47 : decode cX5_offerSnapshot 47 = .ok (.iaload, 1) := by decide +kernel
theorem dX5_offerSnapshot_48 : decode cX5_offerSnapshot 48 = .ok (.if_icmp .ne 27, 3) := by decide +kernel
theorem dX5_offerSnapshot_51 : decode cX5_offerSnapshot 51 = .ok (.aload_n 0, 1) := by decide +kernel
theorem dX5_offerSnapshot_52 : decode cX5_offerSnapshot 52 = .ok (.sipush 840, 3) := by decide +kernel
theorem dX5_offerSnapshot_55 : decode cX5_offerSnapshot 55 = .ok (.aload_n 0, 1) := by decide +kernel
theorem dX5_offerSnapshot_56 : decode cX5_offerSnapshot 56 = .ok (.getfield 13, 3) := by decide +kernel
theorem dX5_offerSnapshot_59 : decode cX5_offerSnapshot 59 = .ok (.bipush 7, 2) := by decide +kernel
theorem dX5_offerSnapshot_61 : decode cX5_offerSnapshot 61 = .ok (.iaload, 1) := by decide +kernel
theorem dX5_offerSnapshot_62 : decode cX5_offerSnapshot 62 = .ok (.iconst 0, 1) := by decide +kernel
theorem dX5_offerSnapshot_63 : decode cX5_offerSnapshot 63 = .ok (.invokevirtual 38, 3) := by decide +kernel
theorem dX5_offerSnapshot_66 : decode cX5_offerSnapshot 66 = .ok (.aload_n 0, 1) := by decide +kernel
theorem dX5_offerSnapshot_67 : decode cX5_offerSnapshot 67 = .ok (.bipush 125, 2) := by decide +kernel
theorem dX5_offerSnapshot_69 : decode cX5_offerSnapshot 69 = .ok (.invokevirtual 93, 3) := by decide +kernel
theorem dX5_offerSnapshot_72 : decode cX5_offerSnapshot 72 = .ok (.if_icmp .eq 5, 3) := by decide +kernel
theorem dX5_offerSnapshot_75 : decode cX5_offerSnapshot 75 = .ok (.iconst 4, 1) := by decide +kernel
theorem dX5_offerSnapshot_76 : decode cX5_offerSnapshot 76 = .ok (.ireturn, 1) := by decide +kernel
theorem dX5_offerSnapshot_77 : decode cX5_offerSnapshot 77 = .ok (.iconst 3, 1) := by decide +kernel
theorem dX5_offerSnapshot_78 : decode cX5_offerSnapshot 78 = .ok (.istore_n 1, 1) := by decide +kernel
theorem dX5_offerSnapshot_79 : decode cX5_offerSnapshot 79 = .ok (.iload_n 1, 1) := by decide +kernel
theorem dX5_offerSnapshot_80 : decode cX5_offerSnapshot 80 = .ok (.bipush 7, 2) := by decide +kernel
theorem dX5_offerSnapshot_82 : decode cX5_offerSnapshot 82 = .ok (.if_icmp .ge 36, 3) := by decide +kernel
theorem dX5_offerSnapshot_85 : decode cX5_offerSnapshot 85 = .ok (.aload_n 0, 1) := by decide +kernel
theorem dX5_offerSnapshot_86 : decode cX5_offerSnapshot 86 = .ok (.getfield 16, 3) := by decide +kernel
theorem dX5_offerSnapshot_89 : decode cX5_offerSnapshot 89 = .ok (.iconst 2, 1) := by decide +kernel
theorem dX5_offerSnapshot_90 : decode cX5_offerSnapshot 90 = .ok (.baload, 1) := by decide +kernel
theorem dX5_offerSnapshot_91 : decode cX5_offerSnapshot 91 = .ok (.ifCond .eq 27, 3) := by decide +kernel
theorem dX5_offerSnapshot_94 : decode cX5_offerSnapshot 94 = .ok (.aload_n 0, 1) := by decide +kernel
theorem dX5_offerSnapshot_95 : decode cX5_offerSnapshot 95 = .ok (.bipush 7, 2) := by decide +kernel
theorem dX5_offerSnapshot_97 : decode cX5_offerSnapshot 97 = .ok (.iload_n 1, 1) := by decide +kernel
theorem dX5_offerSnapshot_98 : decode cX5_offerSnapshot 98 = .ok (.invokevirtual 139, 3) := by decide +kernel
theorem dX5_offerSnapshot_101 : decode cX5_offerSnapshot 101 = .ok (.aload_n 0, 1) := by decide +kernel
theorem dX5_offerSnapshot_102 : decode cX5_offerSnapshot 102 = .ok (.iconst 2, 1) := by decide +kernel
theorem dX5_offerSnapshot_103 : decode cX5_offerSnapshot 103 = .ok (.iload_n 1, 1) := by decide +kernel
theorem dX5_offerSnapshot_104 : decode cX5_offerSnapshot 104 = .ok (.invokevirtual 139, 3) := by decide +kernel
theorem dX5_offerSnapshot_107 : decode cX5_offerSnapshot 107 = .ok (.if_icmp .ge 5, 3) := by decide +kernel
theorem dX5_offerSnapshot_110 : decode cX5_offerSnapshot 110 = .ok (.iconst 4, 1) := by decide +kernel
theorem dX5_offerSnapshot_111 : decode cX5_offerSnapshot 111 = .ok (.ireturn, 1) := by decide +kernel
theorem dX5_offerSnapshot_112 : decode cX5_offerSnapshot 112 = .ok (.iinc 1 1, 3) := by decide +kernel
theorem dX5_offerSnapshot_115 : decode cX5_offerSnapshot 115 = .ok (.goto (-36), 3) := by decide +kernel
theorem dX5_offerSnapshot_118 : decode cX5_offerSnapshot 118 = .ok (.aload_n 0, 1) := by decide +kernel
theorem dX5_offerSnapshot_119 : decode cX5_offerSnapshot 119 = .ok (.bipush 7, 2) := by decide +kernel
theorem dX5_offerSnapshot_121 : decode cX5_offerSnapshot 121 = .ok (.invokevirtual 109, 3) := by decide +kernel
theorem dX5_offerSnapshot_124 : decode cX5_offerSnapshot 124 = .ok (.ifCond .eq 7, 3) := by decide +kernel
theorem dX5_offerSnapshot_127 : decode cX5_offerSnapshot 127 = .ok (.iconst 5, 1) := by decide +kernel
theorem dX5_offerSnapshot_128 : decode cX5_offerSnapshot 128 = .ok (.goto 4, 3) := by decide +kernel
theorem dX5_offerSnapshot_131 : decode cX5_offerSnapshot 131 = .ok (.iconst 0, 1) := by decide +kernel
theorem dX5_offerSnapshot_132 : decode cX5_offerSnapshot 132 = .ok (.ireturn, 1) := by decide +kernel
set_option maxRecDepth 20000 in
theorem ggX5_offerTargets_X5_stands : GoodIn wsX5_offerTargets wsX5_stands := goodIn_r _ [5, 6, 7, 8, 9, 4, 10, 11, 12, 13, 14, 15, 16, 93, 94, 95, 96, 97, 98, 99, 100, 101, 102, 103, 104, 105, 106, 107, 108, 109, 110] (by decide +kernel) (by decide +kernel)
set_option maxRecDepth 20000 in
theorem gX5_offerTargets_X5_stands : GoodIn wsX5_offerTargets (wsV RX5 136 RX5 yX5_stands wsX5_stands) := goodIn_app (goodIn_of _ (by decide +kernel)) ggX5_offerTargets_X5_stands
set_option maxRecDepth 20000 in
theorem ggX5_offerTargets_X5_said : GoodIn wsX5_offerTargets wsX5_said := goodIn_r _ [20, 16, 93, 94, 95, 96, 97, 98, 99, 100, 101, 102, 103, 104, 105, 106, 107, 108, 109, 110] (by decide +kernel) (by decide +kernel)
set_option maxRecDepth 20000 in
theorem gX5_offerTargets_X5_said : GoodIn wsX5_offerTargets (wsV RX5 139 RX5 yX5_said wsX5_said) := goodIn_app (goodIn_of _ (by decide +kernel)) ggX5_offerTargets_X5_said
set_option maxRecDepth 20000 in
theorem ggX5_offerTargets_X5_keysOf : GoodIn wsX5_offerTargets wsX5_keysOf := goodIn_r _ [24, 16, 93, 94, 95, 96, 97, 98, 99, 100, 101, 102, 103, 104, 105, 106, 107, 108, 109, 110] (by decide +kernel) (by decide +kernel)
set_option maxRecDepth 20000 in
theorem gX5_offerTargets_X5_keysOf : GoodIn wsX5_offerTargets (wsV RX5 124 RX5 yX5_keysOf wsX5_keysOf) := goodIn_app (goodIn_of _ (by decide +kernel)) ggX5_offerTargets_X5_keysOf
set_option maxRecDepth 20000 in
theorem ggX5_offerTargets_X5_isSigned : GoodIn wsX5_offerTargets wsX5_isSigned := goodIn_r _ [28, 16, 29, 30, 31, 4, 32, 33, 34, 35, 36, 37, 38, 39, 40, 41, 42, 43, 44, 45, 46, 47, 48, 49, 50, 51, 52, 53, 54, 55, 56, 57, 58, 59, 60, 61, 62, 63, 64, 65, 66, 67, 68, 69, 70, 71, 72, 73, 74, 75, 76, 77, 78, 79, 80, 81, 82, 83, 84, 85, 86, 87, 88, 93, 94, 95, 96, 97, 98, 99, 100, 101, 102, 103, 104, 105, 106, 107, 108, 109, 110] (by decide +kernel) (by decide +kernel)
set_option maxRecDepth 20000 in
theorem gX5_offerTargets_X5_isSigned : GoodIn wsX5_offerTargets (wsV RX5 127 RX5 yX5_isSigned wsX5_isSigned) := goodIn_app (goodIn_of _ (by decide +kernel)) ggX5_offerTargets_X5_isSigned
set_option maxRecDepth 20000 in
theorem ggX5_offerTargets_X5_versionOf : GoodIn wsX5_offerTargets wsX5_versionOf := goodIn_r _ [92, 16, 93, 94, 95, 96, 97, 98, 99, 100, 101, 102, 103, 104, 105, 106, 107, 108, 109, 110] (by decide +kernel) (by decide +kernel)
set_option maxRecDepth 20000 in
theorem gX5_offerTargets_X5_versionOf : GoodIn wsX5_offerTargets (wsV RX5 130 RX5 yX5_versionOf wsX5_versionOf) := goodIn_app (goodIn_of _ (by decide +kernel)) ggX5_offerTargets_X5_versionOf
set_option maxRecDepth 20000 in
theorem ggX5_offerTargets_X5_isOver : GoodIn wsX5_offerTargets wsX5_isOver := goodIn_r _ [10, 11, 12, 13, 14, 4, 15, 16, 93, 94, 95, 96, 97, 98, 99, 100, 101, 102, 103, 104, 105, 106, 107, 108, 109, 110] (by decide +kernel) (by decide +kernel)
set_option maxRecDepth 20000 in
theorem gX5_offerTargets_X5_isOver : GoodIn wsX5_offerTargets (wsV RX5 109 RX5 yX5_isOver wsX5_isOver) := goodIn_app (goodIn_of _ (by decide +kernel)) ggX5_offerTargets_X5_isOver
theorem dX5_offerTargets_0 : decode cX5_offerTargets 0 = .ok (.aload_n 0, 1) := by decide +kernel
theorem dX5_offerTargets_1 : decode cX5_offerTargets 1 = .ok (.iconst 0, 1) := by decide +kernel
theorem dX5_offerTargets_2 : decode cX5_offerTargets 2 = .ok (.invokevirtual 136, 3) := by decide +kernel
theorem dX5_offerTargets_5 : decode cX5_offerTargets 5 = .ok (.ifCond .eq 20, 3) := by decide +kernel
theorem dX5_offerTargets_8 : decode cX5_offerTargets 8 = .ok (.aload_n 0, 1) := by decide +kernel
theorem dX5_offerTargets_9 : decode cX5_offerTargets 9 = .ok (.iconst 2, 1) := by decide +kernel
theorem dX5_offerTargets_10 : decode cX5_offerTargets 10 = .ok (.invokevirtual 136, 3) := by decide +kernel
theorem dX5_offerTargets_13 : decode cX5_offerTargets 13 = .ok (.ifCond .eq 12, 3) := by decide +kernel
theorem dX5_offerTargets_16 : decode cX5_offerTargets 16 = .ok (.aload_n 0, 1) := by decide +kernel
theorem dX5_offerTargets_17 : decode cX5_offerTargets 17 = .ok (.iconst 2, 1) := by decide +kernel
theorem dX5_offerTargets_18 : decode cX5_offerTargets 18 = .ok (.iload_n 1, 1) := by decide +kernel
theorem dX5_offerTargets_19 : decode cX5_offerTargets 19 = .ok (.invokevirtual 139, 3) := by decide +kernel
theorem dX5_offerTargets_22 : decode cX5_offerTargets 22 = .ok (.ifCond .ne 5, 3) := by decide +kernel
theorem dX5_offerTargets_25 : decode cX5_offerTargets 25 = .ok (.iconst 2, 1) := by decide +kernel
theorem dX5_offerTargets_26 : decode cX5_offerTargets 26 = .ok (.ireturn, 1) := by decide +kernel
theorem dX5_offerTargets_27 : decode cX5_offerTargets 27 = .ok (.iload_n 1, 1) := by decide +kernel
theorem dX5_offerTargets_28 : decode cX5_offerTargets 28 = .ok (.iconst 3, 1) := by decide +kernel
theorem dX5_offerTargets_29 : decode cX5_offerTargets 29 = .ok (.if_icmp .ne 20, 3) := by decide +kernel
theorem dX5_offerTargets_32 : decode cX5_offerTargets 32 = .ok (.aload_n 0, 1) := by decide +kernel
theorem dX5_offerTargets_33 : decode cX5_offerTargets 33 = .ok (.bipush 7, 2) := by decide +kernel
theorem dX5_offerTargets_35 : decode cX5_offerTargets 35 = .ok (.aload_n 0, 1) := by decide +kernel
theorem dX5_offerTargets_36 : decode cX5_offerTargets 36 = .ok (.iconst 0, 1) := by decide +kernel
theorem dX5_offerTargets_37 : decode cX5_offerTargets 37 = .ok (.iconst 3, 1) := by decide +kernel
theorem dX5_offerTargets_38 : decode cX5_offerTargets 38 = .ok (.invokevirtual 124, 3) := by decide +kernel
theorem dX5_offerTargets_41 : decode cX5_offerTargets 41 = .ok (.invokevirtual 127, 3) := by decide +kernel
theorem dX5_offerTargets_44 : decode cX5_offerTargets 44 = .ok (.ifCond .ne 5, 3) := by decide +kernel
theorem dX5_offerTargets_47 : decode cX5_offerTargets 47 = .ok (.iconst 3, 1) := by decide +kernel
theorem dX5_offerTargets_48 : decode cX5_offerTargets 48 = .ok (.ireturn, 1) := by decide +kernel
theorem dX5_offerTargets_49 : decode cX5_offerTargets 49 = .ok (.aload_n 0, 1) := by decide +kernel
theorem dX5_offerTargets_50 : decode cX5_offerTargets 50 = .ok (.bipush 7, 2) := by decide +kernel
theorem dX5_offerTargets_52 : decode cX5_offerTargets 52 = .ok (.invokevirtual 130, 3) := by decide +kernel
theorem dX5_offerTargets_55 : decode cX5_offerTargets 55 = .ok (.aload_n 0, 1) := by decide +kernel
theorem dX5_offerTargets_56 : decode cX5_offerTargets 56 = .ok (.iconst 2, 1) := by decide +kernel
theorem dX5_offerTargets_57 : decode cX5_offerTargets 57 = .ok (.iload_n 1, 1) := by decide +kernel
theorem dX5_offerTargets_58 : decode cX5_offerTargets 58 = .ok (.invokevirtual 139, 3) := by decide +kernel
theorem dX5_offerTargets_61 : decode cX5_offerTargets 61 = .ok (.if_icmp .eq 7, 3) := by decide +kernel
theorem dX5_offerTargets_64 : decode cX5_offerTargets 64 = .ok (.iconst 4, 1) := by decide +kernel
theorem dX5_offerTargets_65 : decode cX5_offerTargets 65 = .ok (.goto 17, 3) := by decide +kernel
theorem dX5_offerTargets_68 : decode cX5_offerTargets 68 = .ok (.aload_n 0, 1) := by decide +kernel
theorem dX5_offerTargets_69 : decode cX5_offerTargets 69 = .ok (.bipush 7, 2) := by decide +kernel
theorem dX5_offerTargets_71 : decode cX5_offerTargets 71 = .ok (.invokevirtual 109, 3) := by decide +kernel
theorem dX5_offerTargets_74 : decode cX5_offerTargets 74 = .ok (.ifCond .eq 7, 3) := by decide +kernel
theorem dX5_offerTargets_77 : decode cX5_offerTargets 77 = .ok (.iconst 5, 1) := by decide +kernel
theorem dX5_offerTargets_78 : decode cX5_offerTargets 78 = .ok (.goto 4, 3) := by decide +kernel
theorem dX5_offerTargets_81 : decode cX5_offerTargets 81 = .ok (.iconst 0, 1) := by decide +kernel
theorem dX5_offerTargets_82 : decode cX5_offerTargets 82 = .ok (.ireturn, 1) := by decide +kernel
set_option maxRecDepth 20000 in
theorem ggX5_offer_X5_isDocument : GoodIn wsX5_offer wsX5_isDocument := goodIn_r _ [6, 7, 8, 9, 10, 11, 12, 5, 13, 14, 15, 16, 17, 18, 19, 20, 21, 22, 23, 24, 25, 26, 27, 28, 29, 30, 31, 32, 33, 34, 35, 36, 37, 38, 39, 40, 41, 42, 43, 44, 45, 46, 47, 48, 49, 126, 127, 128, 129, 130, 131, 132, 133, 134, 135, 136, 137, 138, 139, 140, 141, 142, 143] (by decide +kernel) (by decide +kernel)
set_option maxRecDepth 20000 in
theorem gX5_offer_X5_isDocument : GoodIn wsX5_offer (wsV RX5 97 RX5 yX5_isDocument wsX5_isDocument) := goodIn_app (goodIn_of _ (by decide +kernel)) ggX5_offer_X5_isDocument
set_option maxRecDepth 20000 in
theorem ggX5_offer_X5_roleOfDraft : GoodIn wsX5_offer wsX5_roleOfDraft := goodIn_r _ [53, 24, 126, 127, 128, 129, 130, 131, 132, 133, 134, 135, 136, 137, 138, 139, 140, 141, 142, 143] (by decide +kernel) (by decide +kernel)
set_option maxRecDepth 20000 in
theorem gX5_offer_X5_roleOfDraft : GoodIn wsX5_offer (wsV RX5 118 RX5 yX5_roleOfDraft wsX5_roleOfDraft) := goodIn_app (goodIn_of _ (by decide +kernel)) ggX5_offer_X5_roleOfDraft
set_option maxRecDepth 20000 in
theorem ggX5_offer_X5_offerRoot : GoodIn wsX5_offer wsX5_offerRoot := goodIn_r _ [57, 58, 59, 60, 61, 5, 62, 24, 63, 64, 65, 66, 2, 3, 4, 6, 7, 8, 9, 10, 11, 12, 13, 14, 15, 16, 17, 18, 19, 20, 21, 22, 23, 25, 26, 27, 28, 29, 30, 31, 32, 33, 34, 35, 36, 37, 38, 39, 40, 41, 42, 43, 44, 45, 46, 47, 48, 49, 67, 68, 69, 70, 71, 72, 73, 74, 75, 76, 77, 78, 79, 80, 81, 82, 83, 84, 85, 86, 87, 88, 126, 127, 128, 129, 130, 131, 132, 133, 134, 135, 136, 137, 138, 139, 140, 141, 142, 143] (by decide +kernel) (by decide +kernel)
set_option maxRecDepth 20000 in
theorem gX5_offer_X5_offerRoot : GoodIn wsX5_offer (wsV RX5 142 RX5 yX5_offerRoot wsX5_offerRoot) := goodIn_app (goodIn_of _ (by decide +kernel)) ggX5_offer_X5_offerRoot
set_option maxRecDepth 20000 in
theorem ggX5_offer_X5_offerStamp : GoodIn wsX5_offer wsX5_offerStamp := goodIn_r _ [92, 58, 24, 93, 94, 95, 5, 96, 97, 98, 99, 100, 101, 102, 103, 104, 105, 59, 60, 61, 62, 63, 64, 65, 66, 2, 3, 4, 6, 7, 8, 9, 10, 11, 12, 13, 14, 15, 16, 17, 18, 19, 20, 21, 22, 23, 25, 26, 27, 28, 29, 30, 31, 32, 33, 34, 35, 36, 37, 38, 39, 40, 41, 42, 43, 44, 45, 46, 47, 48, 49, 67, 68, 69, 70, 71, 72, 73, 74, 75, 76, 77, 78, 79, 80, 81, 82, 83, 84, 126, 127, 128, 129, 130, 131, 132, 133, 134, 135, 136, 137, 138, 139, 140, 141, 142, 143] (by decide +kernel) (by decide +kernel)
set_option maxRecDepth 20000 in
theorem gX5_offer_X5_offerStamp : GoodIn wsX5_offer (wsV RX5 145 RX5 yX5_offerStamp wsX5_offerStamp) := goodIn_app (goodIn_of _ (by decide +kernel)) ggX5_offer_X5_offerStamp
set_option maxRecDepth 20000 in
theorem ggX5_offer_X5_offerSnapshot : GoodIn wsX5_offer wsX5_offerSnapshot := goodIn_r _ [109, 24, 14, 58, 93, 94, 95, 5, 96, 97, 98, 99, 100, 101, 102, 103, 104, 105, 59, 60, 61, 62, 63, 64, 65, 66, 2, 3, 4, 6, 7, 8, 9, 10, 11, 12, 13, 15, 16, 17, 18, 19, 20, 21, 22, 23, 25, 26, 27, 28, 29, 30, 31, 32, 33, 34, 35, 36, 37, 38, 39, 40, 41, 42, 43, 44, 45, 46, 47, 48, 49, 67, 68, 69, 70, 71, 72, 73, 74, 75, 76, 77, 78, 79, 80, 81, 82, 83, 84, 110, 111, 112, 113, 126, 127, 128, 129, 130, 131, 132, 133, 134, 135, 136, 137, 138, 139, 140, 141, 142, 143] (by decide +kernel) (by decide +kernel)
set_option maxRecDepth 20000 in
theorem gX5_offer_X5_offerSnapshot : GoodIn wsX5_offer (wsV RX5 148 RX5 yX5_offerSnapshot wsX5_offerSnapshot) := goodIn_app (goodIn_of _ (by decide +kernel)) ggX5_offer_X5_offerSnapshot
set_option maxRecDepth 20000 in
theorem ggX5_offer_X5_offerTargets : GoodIn wsX5_offer wsX5_offerTargets := goodIn_r _ [117, 93, 94, 95, 5, 96, 58, 97, 98, 99, 100, 101, 102, 103, 104, 105, 24, 110, 111, 112, 113, 59, 60, 61, 62, 63, 64, 65, 66, 2, 3, 4, 6, 7, 8, 9, 10, 11, 12, 13, 14, 15, 16, 17, 18, 19, 20, 21, 22, 23, 25, 26, 27, 28, 29, 30, 31, 32, 33, 34, 35, 36, 37, 38, 39, 40, 41, 42, 43, 44, 45, 46, 47, 48, 49, 67, 68, 69, 70, 71, 72, 73, 74, 75, 76, 77, 78, 79, 80, 81, 82, 83, 84, 126, 127, 128, 129, 130, 131, 132, 133, 134, 135, 136, 137, 138, 139, 140, 141, 142, 143] (by decide +kernel) (by decide +kernel)
set_option maxRecDepth 20000 in
theorem gX5_offer_X5_offerTargets : GoodIn wsX5_offer (wsV RX5 151 RX5 yX5_offerTargets wsX5_offerTargets) := goodIn_app (goodIn_of _ (by decide +kernel)) ggX5_offer_X5_offerTargets
set_option maxRecDepth 20000 in
theorem ggX5_offer_X5_trust : GoodIn wsX5_offer wsX5_trust := goodIn_r _ [121, 58, 122, 123, 124, 5, 125, 14, 24, 126, 127, 128, 129, 130, 131, 132, 133, 134, 135, 136, 137, 138, 139, 140, 141, 142, 143] (by decide +kernel) (by decide +kernel)
set_option maxRecDepth 20000 in
theorem gX5_offer_X5_trust : GoodIn wsX5_offer (wsV RX5 121 RX5 yX5_trust wsX5_trust) := goodIn_app (goodIn_of _ (by decide +kernel)) ggX5_offer_X5_trust
theorem dX5_offer_0 : decode cX5_offer 0 = .ok (.aload_n 0, 1) := by decide +kernel
theorem dX5_offer_1 : decode cX5_offer 1 = .ok (.aload_n 0, 1) := by decide +kernel
theorem dX5_offer_2 : decode cX5_offer 2 = .ok (.bipush 7, 2) := by decide +kernel
theorem dX5_offer_4 : decode cX5_offer 4 = .ok (.invokevirtual 97, 3) := by decide +kernel
theorem dX5_offer_7 : decode cX5_offer 7 = .ok (.ifCond .eq 7, 3) := by decide +kernel
theorem dX5_offer_10 : decode cX5_offer 10 = .ok (.iconst 0, 1) := by decide +kernel
theorem dX5_offer_11 : decode cX5_offer 11 = .ok (.goto 4, 3) := by decide +kernel
theorem dX5_offer_14 : decode cX5_offer 14 = .ok (.iconst 1, 1) := by decide +kernel
theorem dX5_offer_15 : decode cX5_offer 15 = .ok (.putfield 26, 3) := by decide +kernel
theorem dX5_offer_18 : decode cX5_offer 18 = .ok (.aload_n 0, 1) := by decide +kernel
theorem dX5_offer_19 : decode cX5_offer 19 = .ok (.getfield 26, 3) := by decide +kernel
theorem dX5_offer_22 : decode cX5_offer 22 = .ok (.ifCond .le 5, 3) := by decide +kernel
theorem dX5_offer_25 : decode cX5_offer 25 = .ok (.iconst 0, 1) := by decide +kernel
theorem dX5_offer_26 : decode cX5_offer 26 = .ok (.ireturn, 1) := by decide +kernel
theorem dX5_offer_27 : decode cX5_offer 27 = .ok (.aload_n 0, 1) := by decide +kernel
theorem dX5_offer_28 : decode cX5_offer 28 = .ok (.invokevirtual 118, 3) := by decide +kernel
theorem dX5_offer_31 : decode cX5_offer 31 = .ok (.istore_n 1, 1) := by decide +kernel
theorem dX5_offer_32 : decode cX5_offer 32 = .ok (.aload_n 0, 1) := by decide +kernel
theorem dX5_offer_33 : decode cX5_offer 33 = .ok (.iload_n 1, 1) := by decide +kernel
theorem dX5_offer_34 : decode cX5_offer 34 = .ok (.ifCond .ne 10, 3) := by decide +kernel
theorem dX5_offer_37 : decode cX5_offer 37 = .ok (.aload_n 0, 1) := by decide +kernel
theorem dX5_offer_38 : decode cX5_offer 38 = .ok (.invokevirtual 142, 3) := by decide +kernel
theorem dX5_offer_41 : decode cX5_offer 41 = .ok (.goto 32, 3) := by decide +kernel
theorem dX5_offer_44 : decode cX5_offer 44 = .ok (.iload_n 1, 1) := by decide +kernel
theorem dX5_offer_45 : decode cX5_offer 45 = .ok (.iconst 1, 1) := by decide +kernel
theorem dX5_offer_46 : decode cX5_offer 46 = .ok (.if_icmp .ne 10, 3) := by decide +kernel
theorem dX5_offer_49 : decode cX5_offer 49 = .ok (.aload_n 0, 1) := by decide +kernel
theorem dX5_offer_50 : decode cX5_offer 50 = .ok (.invokevirtual 145, 3) := by decide +kernel
theorem dX5_offer_53 : decode cX5_offer 53 = .ok (.goto 20, 3) := by decide +kernel
theorem dX5_offer_56 : decode cX5_offer 56 = .ok (.iload_n 1, 1) := by decide +kernel
theorem dX5_offer_57 : decode cX5_offer 57 = .ok (.iconst 2, 1) := by decide +kernel
theorem dX5_offer_58 : decode cX5_offer 58 = .ok (.if_icmp .ne 10, 3) := by decide +kernel
theorem dX5_offer_61 : decode cX5_offer 61 = .ok (.aload_n 0, 1) := by decide +kernel
theorem dX5_offer_62 : decode cX5_offer 62 = .ok (.invokevirtual 148, 3) := by decide +kernel
theorem dX5_offer_65 : decode cX5_offer 65 = .ok (.goto 8, 3) := by decide +kernel
theorem dX5_offer_68 : decode cX5_offer 68 = .ok (.aload_n 0, 1) := by decide +kernel
theorem dX5_offer_69 : decode cX5_offer 69 = .ok (.iload_n 1, 1) := by decide +kernel
theorem dX5_offer_70 : decode cX5_offer 70 = .ok (.invokevirtual 151, 3) := by decide +kernel
theorem dX5_offer_73 : decode cX5_offer 73 = .ok (.putfield 26, 3) := by decide +kernel
theorem dX5_offer_76 : decode cX5_offer 76 = .ok (.aload_n 0, 1) := by decide +kernel
theorem dX5_offer_77 : decode cX5_offer 77 = .ok (.getfield 26, 3) := by decide +kernel
theorem dX5_offer_80 : decode cX5_offer 80 = .ok (.ifCond .le 5, 3) := by decide +kernel
theorem dX5_offer_83 : decode cX5_offer 83 = .ok (.iconst 0, 1) := by decide +kernel
theorem dX5_offer_84 : decode cX5_offer 84 = .ok (.ireturn, 1) := by decide +kernel
theorem dX5_offer_85 : decode cX5_offer 85 = .ok (.aload_n 0, 1) := by decide +kernel
theorem dX5_offer_86 : decode cX5_offer 86 = .ok (.iload_n 1, 1) := by decide +kernel
theorem dX5_offer_87 : decode cX5_offer 87 = .ok (.invokevirtual 121, 3) := by decide +kernel
theorem dX5_offer_90 : decode cX5_offer 90 = .ok (.iload_n 1, 1) := by decide +kernel
theorem dX5_offer_91 : decode cX5_offer 91 = .ok (.ireturn, 1) := by decide +kernel
set_option maxRecDepth 20000 in
theorem ggX5_trusted_X5_endOf : GoodIn wsX5_trusted wsX5_endOf := goodIn_r _ [7, 8, 13, 14, 15, 16, 17, 18, 19, 20, 21, 22, 23, 24, 25, 26, 27, 28, 29, 30] (by decide +kernel) (by decide +kernel)
set_option maxRecDepth 20000 in
theorem gX5_trusted_X5_endOf : GoodIn wsX5_trusted (wsV RX5 103 RX5 yX5_endOf wsX5_endOf) := goodIn_app (goodIn_of _ (by decide +kernel)) ggX5_trusted_X5_endOf
set_option maxRecDepth 20000 in
theorem ggX5_trusted_X5_versionOf : GoodIn wsX5_trusted wsX5_versionOf := goodIn_r _ [12, 8, 13, 14, 15, 16, 17, 18, 19, 20, 21, 22, 23, 24, 25, 26, 27, 28, 29, 30] (by decide +kernel) (by decide +kernel)
set_option maxRecDepth 20000 in
theorem gX5_trusted_X5_versionOf : GoodIn wsX5_trusted (wsV RX5 130 RX5 yX5_versionOf wsX5_versionOf) := goodIn_app (goodIn_of _ (by decide +kernel)) ggX5_trusted_X5_versionOf
theorem dX5_trusted_0 : decode cX5_trusted 0 = .ok (.aload_n 0, 1) := by decide +kernel
theorem dX5_trusted_1 : decode cX5_trusted 1 = .ok (.iload_n 1, 1) := by decide +kernel
theorem dX5_trusted_2 : decode cX5_trusted 2 = .ok (.ifCond .lt 9, 3) := by decide +kernel
theorem dX5_trusted_5 : decode cX5_trusted 5 = .ok (.iload_n 1, 1) := by decide +kernel
theorem dX5_trusted_6 : decode cX5_trusted 6 = .ok (.bipush 6, 2) := by decide +kernel
theorem dX5_trusted_8 : decode cX5_trusted 8 = .ok (.if_icmp .le 7, 3) := by decide +kernel
theorem dX5_trusted_11 : decode cX5_trusted 11 = .ok (.iconst 1, 1) := by decide +kernel
theorem dX5_trusted_12 : decode cX5_trusted 12 = .ok (.goto 4, 3) := by decide +kernel
theorem dX5_trusted_15 : decode cX5_trusted 15 = .ok (.iconst 0, 1) := by decide +kernel
theorem dX5_trusted_16 : decode cX5_trusted 16 = .ok (.putfield 26, 3) := by decide +kernel
theorem dX5_trusted_19 : decode cX5_trusted 19 = .ok (.aload_n 0, 1) := by decide +kernel
theorem dX5_trusted_20 : decode cX5_trusted 20 = .ok (.getfield 26, 3) := by decide +kernel
theorem dX5_trusted_23 : decode cX5_trusted 23 = .ok (.ifCond .le 7, 3) := by decide +kernel
theorem dX5_trusted_26 : decode cX5_trusted 26 = .ok (.iconst 0, 1) := by decide +kernel
theorem dX5_trusted_27 : decode cX5_trusted 27 = .ok (.goto 33, 3) := by decide +kernel
theorem dX5_trusted_30 : decode cX5_trusted 30 = .ok (.aload_n 0, 1) := by decide +kernel
theorem dX5_trusted_31 : decode cX5_trusted 31 = .ok (.getfield 16, 3) := by decide +kernel
