theorem dX0_init_27 : decode cX0_init 27 = .ok (.newarray .int, 2) := by decide +kernel
theorem dX0_init_29 : decode cX0_init 29 = .ok (.putfield 24, 3) := by decide +kernel
theorem dX0_init_32 : decode cX0_init 32 = .ok (.aload_n 0, 1) := by decide +kernel
theorem dX0_init_33 : decode cX0_init 33 = .ok (.iconst 4, 1) := by decide +kernel
theorem dX0_init_34 : decode cX0_init 34 = .ok (.newarray .int, 2) := by decide +kernel
theorem dX0_init_36 : decode cX0_init 36 = .ok (.putfield 27, 3) := by decide +kernel
theorem dX0_init_39 : decode cX0_init 39 = .ok (.aload_n 0, 1) := by decide +kernel
theorem dX0_init_40 : decode cX0_init 40 = .ok (.iconst 3, 1) := by decide +kernel
theorem dX0_init_41 : decode cX0_init 41 = .ok (.newarray .int, 2) := by decide +kernel
theorem dX0_init_43 : decode cX0_init 43 = .ok (.putfield 30, 3) := by decide +kernel
theorem dX0_init_46 : decode cX0_init 46 = .ok (.return_, 1) := by decide +kernel
theorem dX0_isWhole_0 : decode cX0_isWhole 0 = .ok (.aload_n 0, 1) := by decide +kernel
theorem dX0_isWhole_1 : decode cX0_isWhole 1 = .ok (.getfield 33, 3) := by decide +kernel
theorem dX0_isWhole_4 : decode cX0_isWhole 4 = .ok (.ireturn, 1) := by decide +kernel
theorem dX0_isBare_0 : decode cX0_isBare 0 = .ok (.aload_n 0, 1) := by decide +kernel
theorem dX0_isBare_1 : decode cX0_isBare 1 = .ok (.getfield 37, 3) := by decide +kernel
theorem dX0_isBare_4 : decode cX0_isBare 4 = .ok (.ireturn, 1) := by decide +kernel
theorem dX0_row_0 : decode cX0_row 0 = .ok (.aload_n 0, 1) := by decide +kernel
theorem dX0_row_1 : decode cX0_row 1 = .ok (.getfield 14, 3) := by decide +kernel
theorem dX0_row_4 : decode cX0_row 4 = .ok (.areturn, 1) := by decide +kernel
theorem dX0_role_0 : decode cX0_role 0 = .ok (.aload_n 0, 1) := by decide +kernel
theorem dX0_role_1 : decode cX0_role 1 = .ok (.getfield 40, 3) := by decide +kernel
theorem dX0_role_4 : decode cX0_role 4 = .ok (.ireturn, 1) := by decide +kernel
theorem dX0_version_0 : decode cX0_version 0 = .ok (.aload_n 0, 1) := by decide +kernel
theorem dX0_version_1 : decode cX0_version 1 = .ok (.getfield 44, 3) := by decide +kernel
theorem dX0_version_4 : decode cX0_version 4 = .ok (.ireturn, 1) := by decide +kernel
theorem dX0_end_0 : decode cX0_end 0 = .ok (.aload_n 0, 1) := by decide +kernel
theorem dX0_end_1 : decode cX0_end 1 = .ok (.getfield 47, 3) := by decide +kernel
theorem dX0_end_4 : decode cX0_end 4 = .ok (.ireturn, 1) := by decide +kernel
theorem dX0_signedSize_0 : decode cX0_signedSize 0 = .ok (.aload_n 0, 1) := by decide +kernel
theorem dX0_signedSize_1 : decode cX0_signedSize 1 = .ok (.getfield 50, 3) := by decide +kernel
theorem dX0_signedSize_4 : decode cX0_signedSize 4 = .ok (.ireturn, 1) := by decide +kernel
set_option maxRecDepth 20000 in
theorem ggX0_signatureCount_X1_byteAt : GoodIn wsX0_signatureCount wsX1_byteAt := goodIn_r _ [7, 8, 9, 25, 26] (by decide +kernel) (by decide +kernel)
set_option maxRecDepth 20000 in
theorem gX0_signatureCount_X1_byteAt : GoodIn wsX0_signatureCount (wsV RX0 53 RX1 yX1_byteAt wsX1_byteAt) := goodIn_app (goodIn_of _ (by decide +kernel)) ggX0_signatureCount_X1_byteAt
theorem dX0_signatureCount_0 : decode cX0_signatureCount 0 = .ok (.aload_n 0, 1) := by decide +kernel
theorem dX0_signatureCount_1 : decode cX0_signatureCount 1 = .ok (.getfield 14, 3) := by decide +kernel
theorem dX0_signatureCount_4 : decode cX0_signatureCount 4 = .ok (.aload_n 0, 1) := by decide +kernel
theorem dX0_signatureCount_5 : decode cX0_signatureCount 5 = .ok (.getfield 50, 3) := by decide +kernel
theorem dX0_signatureCount_8 : decode cX0_signatureCount 8 = .ok (.invokevirtual 53, 3) := by decide +kernel
theorem dX0_signatureCount_11 : decode cX0_signatureCount 11 = .ok (.ireturn, 1) := by decide +kernel
theorem dX0_clear_0 : decode cX0_clear 0 = .ok (.aload_n 0, 1) := by decide +kernel
theorem dX0_clear_1 : decode cX0_clear 1 = .ok (.iconst 0, 1) := by decide +kernel
theorem dX0_clear_2 : decode cX0_clear 2 = .ok (.putfield 33, 3) := by decide +kernel
theorem dX0_clear_5 : decode cX0_clear 5 = .ok (.return_, 1) := by decide +kernel
set_option maxRecDepth 20000 in
theorem ggX0_read_X1_become : GoodIn wsX0_read wsX1_become := goodIn_r _ [11, 12, 13, 14, 15, 16, 17, 100, 101] (by decide +kernel) (by decide +kernel)
set_option maxRecDepth 20000 in
theorem gX0_read_X1_become : GoodIn wsX0_read (wsV RX0 57 RX1 yX1_become wsX1_become) := goodIn_app (goodIn_of _ (by decide +kernel)) ggX0_read_X1_become
set_option maxRecDepth 20000 in
theorem ggX0_read_X0_readSigned : GoodIn wsX0_read wsX0_readSigned := goodIn_r _ [22, 23, 24, 25, 26, 27, 28, 21, 29, 1, 2, 3, 30, 31, 32, 10, 33, 12, 13, 34, 35, 36, 37, 38, 39, 40, 41, 42, 43, 44, 45, 46, 47, 48, 49, 50, 51, 52, 53, 54, 55, 56, 57, 58, 59, 60, 61, 62, 63, 64, 65, 66, 67, 68, 69, 70, 71, 72, 73, 74, 75, 76, 85, 86, 87, 88, 89, 90, 91, 92, 93, 94, 95, 96, 97, 98, 99, 100, 101] (by decide +kernel) (by decide +kernel)
set_option maxRecDepth 20000 in
theorem gX0_read_X0_readSigned : GoodIn wsX0_read (wsV RX0 67 RX0 yX0_readSigned wsX0_readSigned) := goodIn_app (goodIn_of _ (by decide +kernel)) ggX0_read_X0_readSigned
set_option maxRecDepth 20000 in
theorem ggX0_read_X1_size : GoodIn wsX0_read wsX1_size := goodIn_r _ [80, 12, 100, 101] (by decide +kernel) (by decide +kernel)
set_option maxRecDepth 20000 in
theorem gX0_read_X1_size : GoodIn wsX0_read (wsV RX0 70 RX1 yX1_size wsX1_size) := goodIn_app (goodIn_of _ (by decide +kernel)) ggX0_read_X1_size
set_option maxRecDepth 20000 in
theorem ggX0_read_X0_readSignatures : GoodIn wsX0_read wsX0_readSignatures := goodIn_r _ [84, 26, 27, 28, 21, 29, 1, 2, 3, 30, 31, 32, 10, 33, 12, 13, 43, 44, 45, 46, 85, 86, 87, 88, 89, 90, 91, 92, 93, 94, 95, 96, 97, 98, 99, 100, 101] (by decide +kernel) (by decide +kernel)
set_option maxRecDepth 20000 in
theorem gX0_read_X0_readSignatures : GoodIn wsX0_read (wsV RX0 74 RX0 yX0_readSignatures wsX0_readSignatures) := goodIn_app (goodIn_of _ (by decide +kernel)) ggX0_read_X0_readSignatures
theorem dX0_read_0 : decode cX0_read 0 = .ok (.aload_n 0, 1) := by decide +kernel
theorem dX0_read_1 : decode cX0_read 1 = .ok (.getfield 14, 3) := by decide +kernel
theorem dX0_read_4 : decode cX0_read 4 = .ok (.aload_n 1, 1) := by decide +kernel
theorem dX0_read_5 : decode cX0_read 5 = .ok (.invokevirtual 57, 3) := by decide +kernel
theorem dX0_read_8 : decode cX0_read 8 = .ok (.aload_n 0, 1) := by decide +kernel
theorem dX0_read_9 : decode cX0_read 9 = .ok (.iconst 0, 1) := by decide +kernel
theorem dX0_read_10 : decode cX0_read 10 = .ok (.putfield 61, 3) := by decide +kernel
theorem dX0_read_13 : decode cX0_read 13 = .ok (.aload_n 0, 1) := by decide +kernel
theorem dX0_read_14 : decode cX0_read 14 = .ok (.iconst 1, 1) := by decide +kernel
theorem dX0_read_15 : decode cX0_read 15 = .ok (.putfield 64, 3) := by decide +kernel
theorem dX0_read_18 : decode cX0_read 18 = .ok (.aload_n 0, 1) := by decide +kernel
theorem dX0_read_19 : decode cX0_read 19 = .ok (.invokevirtual 67, 3) := by decide +kernel
theorem dX0_read_22 : decode cX0_read 22 = .ok (.aload_n 0, 1) := by decide +kernel
theorem dX0_read_23 : decode cX0_read 23 = .ok (.aload_n 0, 1) := by decide +kernel
theorem dX0_read_24 : decode cX0_read 24 = .ok (.getfield 61, 3) := by decide +kernel
theorem dX0_read_27 : decode cX0_read 27 = .ok (.putfield 50, 3) := by decide +kernel
theorem dX0_read_30 : decode cX0_read 30 = .ok (.aload_n 0, 1) := by decide +kernel
theorem dX0_read_31 : decode cX0_read 31 = .ok (.aload_n 0, 1) := by decide +kernel
theorem dX0_read_32 : decode cX0_read 32 = .ok (.getfield 64, 3) := by decide +kernel
theorem dX0_read_35 : decode cX0_read 35 = .ok (.ifCond .eq 21, 3) := by decide +kernel
theorem dX0_read_38 : decode cX0_read 38 = .ok (.aload_n 0, 1) := by decide +kernel
theorem dX0_read_39 : decode cX0_read 39 = .ok (.getfield 61, 3) := by decide +kernel
theorem dX0_read_42 : decode cX0_read 42 = .ok (.aload_n 0, 1) := by decide +kernel
theorem dX0_read_43 : decode cX0_read 43 = .ok (.getfield 14, 3) := by decide +kernel
theorem dX0_read_46 : decode cX0_read 46 = .ok (.invokevirtual 70, 3) := by decide +kernel
theorem dX0_read_49 : decode cX0_read 49 = .ok (.if_icmp .ne 7, 3) := by decide +kernel
theorem dX0_read_52 : decode cX0_read 52 = .ok (.iconst 1, 1) := by decide +kernel
theorem dX0_read_53 : decode cX0_read 53 = .ok (.goto 4, 3) := by decide +kernel
theorem dX0_read_56 : decode cX0_read 56 = .ok (.iconst 0, 1) := by decide +kernel
theorem dX0_read_57 : decode cX0_read 57 = .ok (.putfield 37, 3) := by decide +kernel
theorem dX0_read_60 : decode cX0_read 60 = .ok (.aload_n 0, 1) := by decide +kernel
theorem dX0_read_61 : decode cX0_read 61 = .ok (.invokevirtual 74, 3) := by decide +kernel
theorem dX0_read_64 : decode cX0_read 64 = .ok (.aload_n 0, 1) := by decide +kernel
theorem dX0_read_65 : decode cX0_read 65 = .ok (.aload_n 0, 1) := by decide +kernel
theorem dX0_read_66 : decode cX0_read 66 = .ok (.getfield 64, 3) := by decide +kernel
theorem dX0_read_69 : decode cX0_read 69 = .ok (.ifCond .eq 21, 3) := by decide +kernel
theorem dX0_read_72 : decode cX0_read 72 = .ok (.aload_n 0, 1) := by decide +kernel
theorem dX0_read_73 : decode cX0_read 73 = .ok (.getfield 61, 3) := by decide +kernel
theorem dX0_read_76 : decode cX0_read 76 = .ok (.aload_n 0, 1) := by decide +kernel
theorem dX0_read_77 : decode cX0_read 77 = .ok (.getfield 14, 3) := by decide +kernel
theorem dX0_read_80 : decode cX0_read 80 = .ok (.invokevirtual 70, 3) := by decide +kernel
theorem dX0_read_83 : decode cX0_read 83 = .ok (.if_icmp .ne 7, 3) := by decide +kernel
theorem dX0_read_86 : decode cX0_read 86 = .ok (.iconst 1, 1) := by decide +kernel
theorem dX0_read_87 : decode cX0_read 87 = .ok (.goto 4, 3) := by decide +kernel
theorem dX0_read_90 : decode cX0_read 90 = .ok (.iconst 0, 1) := by decide +kernel
theorem dX0_read_91 : decode cX0_read 91 = .ok (.putfield 33, 3) := by decide +kernel
theorem dX0_read_94 : decode cX0_read 94 = .ok (.return_, 1) := by decide +kernel
set_option maxRecDepth 20000 in
theorem ggX0_next_X1_byteAt : GoodIn wsX0_next wsX1_byteAt := goodIn_r _ [8, 9, 10, 26, 27] (by decide +kernel) (by decide +kernel)
set_option maxRecDepth 20000 in
theorem gX0_next_X1_byteAt : GoodIn wsX0_next (wsV RX0 53 RX1 yX1_byteAt wsX1_byteAt) := goodIn_app (goodIn_of _ (by decide +kernel)) ggX0_next_X1_byteAt
theorem dX0_next_0 : decode cX0_next 0 = .ok (.aload_n 0, 1) := by decide +kernel
theorem dX0_next_1 : decode cX0_next 1 = .ok (.getfield 14, 3) := by decide +kernel
theorem dX0_next_4 : decode cX0_next 4 = .ok (.aload_n 0, 1) := by decide +kernel
theorem dX0_next_5 : decode cX0_next 5 = .ok (.getfield 61, 3) := by decide +kernel
theorem dX0_next_8 : decode cX0_next 8 = .ok (.invokevirtual 53, 3) := by decide +kernel
theorem dX0_next_11 : decode cX0_next 11 = .ok (.istore_n 3, 1) := by decide +kernel
theorem dX0_next_12 : decode cX0_next 12 = .ok (.iload_n 3, 1) := by decide +kernel
theorem dX0_next_13 : decode cX0_next 13 = .ok (.iload_n 1, 1) := by decide +kernel
theorem dX0_next_14 : decode cX0_next 14 = .ok (.if_icmp .lt 8, 3) := by decide +kernel
theorem dX0_next_17 : decode cX0_next 17 = .ok (.iload_n 3, 1) := by decide +kernel
theorem dX0_next_18 : decode cX0_next 18 = .ok (.iload_n 2, 1) := by decide +kernel
theorem dX0_next_19 : decode cX0_next 19 = .ok (.if_icmp .le 10, 3) := by decide +kernel
theorem dX0_next_22 : decode cX0_next 22 = .ok (.aload_n 0, 1) := by decide +kernel
theorem dX0_next_23 : decode cX0_next 23 = .ok (.iconst 0, 1) := by decide +kernel
theorem dX0_next_24 : decode cX0_next 24 = .ok (.putfield 64, 3) := by decide +kernel
theorem dX0_next_27 : decode cX0_next 27 = .ok (.iload_n 1, 1) := by decide +kernel
theorem dX0_next_28 : decode cX0_next 28 = .ok (.ireturn, 1) := by decide +kernel
theorem dX0_next_29 : decode cX0_next 29 = .ok (.aload_n 0, 1) := by decide +kernel
theorem dX0_next_30 : decode cX0_next 30 = .ok (.dup, 1) := by decide +kernel
theorem dX0_next_31 : decode cX0_next 31 = .ok (.getfield 61, 3) := by decide +kernel
theorem dX0_next_34 : decode cX0_next 34 = .ok (.iconst 1, 1) := by decide +kernel
theorem dX0_next_35 : decode cX0_next 35 = .ok (.iadd, 1) := by decide +kernel
theorem dX0_next_36 : decode cX0_next 36 = .ok (.putfield 61, 3) := by decide +kernel
theorem dX0_next_39 : decode cX0_next 39 = .ok (.iload_n 3, 1) := by decide +kernel
theorem dX0_next_40 : decode cX0_next 40 = .ok (.ireturn, 1) := by decide +kernel
set_option maxRecDepth 20000 in
theorem ggX0_skip_X0_next : GoodIn wsX0_skip wsX0_next := goodIn_r _ [5, 6, 7, 8, 9, 10, 11, 12, 13, 14, 15, 16, 17, 18, 19, 20, 21, 22, 23, 24, 25, 26, 27, 28, 29, 30, 31, 32] (by decide +kernel) (by decide +kernel)
set_option maxRecDepth 20000 in
theorem gX0_skip_X0_next : GoodIn wsX0_skip (wsV RX0 77 RX0 yX0_next wsX0_next) := goodIn_app (goodIn_of _ (by decide +kernel)) ggX0_skip_X0_next
theorem dX0_skip_0 : decode cX0_skip 0 = .ok (.iconst 0, 1) := by decide +kernel
theorem dX0_skip_1 : decode cX0_skip 1 = .ok (.istore_n 2, 1) := by decide +kernel
theorem dX0_skip_2 : decode cX0_skip 2 = .ok (.iload_n 2, 1) := by decide +kernel
theorem dX0_skip_3 : decode cX0_skip 3 = .ok (.iload_n 1, 1) := by decide +kernel
theorem dX0_skip_4 : decode cX0_skip 4 = .ok (.if_icmp .ge 18, 3) := by decide +kernel
theorem dX0_skip_7 : decode cX0_skip 7 = .ok (.aload_n 0, 1) := by decide +kernel
theorem dX0_skip_8 : decode cX0_skip 8 = .ok (.iconst 0, 1) := by decide +kernel
theorem dX0_skip_9 : decode cX0_skip 9 = .ok (.sipush 255, 3) := by decide +kernel
theorem dX0_skip_12 : decode cX0_skip 12 = .ok (.invokevirtual 77, 3) := by decide +kernel
theorem dX0_skip_15 : decode cX0_skip 15 = .ok (.pop, 1) := by decide +kernel
theorem dX0_skip_16 : decode cX0_skip 16 = .ok (.iinc 2 1, 3) := by decide +kernel
theorem dX0_skip_19 : decode cX0_skip 19 = .ok (.goto (-17), 3) := by decide +kernel
theorem dX0_skip_22 : decode cX0_skip 22 = .ok (.return_, 1) := by decide +kernel
set_option maxRecDepth 20000 in
theorem ggX0_readSigned_X0_next : GoodIn wsX0_readSigned wsX0_next := goodIn_r _ [8, 9, 10, 11, 12, 13, 14, 15, 16, 17, 18, 62, 63, 64, 65, 66, 67, 68, 69, 70, 71, 72, 73, 74, 75, 76, 77, 78] (by decide +kernel) (by decide +kernel)
set_option maxRecDepth 20000 in
theorem gX0_readSigned_X0_next : GoodIn wsX0_readSigned (wsV RX0 77 RX0 yX0_next wsX0_next) := goodIn_app (goodIn_of _ (by decide +kernel)) ggX0_readSigned_X0_next
set_option maxRecDepth 20000 in
theorem ggX0_readSigned_X0_readRootKeySets : GoodIn wsX0_readSigned wsX0_readRootKeySets := goodIn_r _ [22, 23, 10, 24, 25, 26, 7, 27, 4, 5, 6, 8, 9, 11, 12, 13, 14, 15, 16, 17, 18, 62, 63, 64, 65, 66, 67, 68, 69, 70, 71, 72, 73, 74, 75, 76, 77, 78] (by decide +kernel) (by decide +kernel)
set_option maxRecDepth 20000 in
theorem gX0_readSigned_X0_readRootKeySets : GoodIn wsX0_readSigned (wsV RX0 81 RX0 yX0_readRootKeySets wsX0_readRootKeySets) := goodIn_app (goodIn_of _ (by decide +kernel)) ggX0_readSigned_X0_readRootKeySets
set_option maxRecDepth 20000 in
theorem ggX0_readSigned_X0_skip : GoodIn wsX0_readSigned wsX0_skip := goodIn_r _ [31, 4, 5, 6, 7, 8, 9, 10, 11, 12, 13, 14, 15, 16, 17, 18, 62, 63, 64, 65, 66, 67, 68, 69, 70, 71, 72, 73, 74, 75, 76, 77, 78] (by decide +kernel) (by decide +kernel)
set_option maxRecDepth 20000 in
theorem gX0_readSigned_X0_skip : GoodIn wsX0_readSigned (wsV RX0 84 RX0 yX0_skip wsX0_skip) := goodIn_app (goodIn_of _ (by decide +kernel)) ggX0_readSigned_X0_skip
set_option maxRecDepth 20000 in
theorem ggX0_readSigned_X0_readEntries : GoodIn wsX0_readSigned wsX0_readEntries := goodIn_r _ [35, 36, 4, 5, 6, 7, 8, 9, 10, 11, 12, 13, 14, 15, 16, 17, 18, 62, 63, 64, 65, 66, 67, 68, 69, 70, 71, 72, 73, 74, 75, 76, 77, 78] (by decide +kernel) (by decide +kernel)
set_option maxRecDepth 20000 in
theorem gX0_readSigned_X0_readEntries : GoodIn wsX0_readSigned (wsV RX0 87 RX0 yX0_readEntries wsX0_readEntries) := goodIn_app (goodIn_of _ (by decide +kernel)) ggX0_readSigned_X0_readEntries
set_option maxRecDepth 20000 in
theorem ggX0_readSigned_X0_readTargets : GoodIn wsX0_readSigned wsX0_readTargets := goodIn_r _ [40, 41, 42, 10, 11, 4, 5, 6, 7, 8, 9, 12, 13, 14, 15, 16, 17, 18, 43, 44, 45, 46, 28, 29, 30, 31, 47, 48, 49, 50, 51, 52, 53, 54, 55, 62, 63, 64, 65, 66, 67, 68, 69, 70, 71, 72, 73, 74, 75, 76, 77, 78] (by decide +kernel) (by decide +kernel)
set_option maxRecDepth 20000 in
theorem gX0_readSigned_X0_readTargets : GoodIn wsX0_readSigned (wsV RX0 90 RX0 yX0_readTargets wsX0_readTargets) := goodIn_app (goodIn_of _ (by decide +kernel)) ggX0_readSigned_X0_readTargets
set_option maxRecDepth 20000 in
theorem ggX0_readSigned_X0_readDelegations : GoodIn wsX0_readSigned wsX0_readDelegations := goodIn_r _ [59, 60, 61, 10, 11, 4, 5, 6, 7, 8, 9, 12, 13, 14, 15, 16, 17, 18, 24, 25, 26, 27, 43, 44, 45, 46, 62, 63, 64, 65, 66, 67, 68, 69, 70, 71, 72, 73, 74, 75, 76, 77, 78] (by decide +kernel) (by decide +kernel)
set_option maxRecDepth 20000 in
theorem gX0_readSigned_X0_readDelegations : GoodIn wsX0_readSigned (wsV RX0 93 RX0 yX0_readDelegations wsX0_readDelegations) := goodIn_app (goodIn_of _ (by decide +kernel)) ggX0_readSigned_X0_readDelegations
theorem dX0_readSigned_0 : decode cX0_readSigned 0 = .ok (.aload_n 0, 1) := by decide +kernel
theorem dX0_readSigned_1 : decode cX0_readSigned 1 = .ok (.aload_n 0, 1) := by decide +kernel
theorem dX0_readSigned_2 : decode cX0_readSigned 2 = .ok (.iconst 0, 1) := by decide +kernel
theorem dX0_readSigned_3 : decode cX0_readSigned 3 = .ok (.bipush 6, 2) := by decide +kernel
theorem dX0_readSigned_5 : decode cX0_readSigned 5 = .ok (.invokevirtual 77, 3) := by decide +kernel
theorem dX0_readSigned_8 : decode cX0_readSigned 8 = .ok (.putfield 40, 3) := by decide +kernel
theorem dX0_readSigned_11 : decode cX0_readSigned 11 = .ok (.aload_n 0, 1) := by decide +kernel
theorem dX0_readSigned_12 : decode cX0_readSigned 12 = .ok (.aload_n 0, 1) := by decide +kernel
theorem dX0_readSigned_13 : decode cX0_readSigned 13 = .ok (.iconst 1, 1) := by decide +kernel
theorem dX0_readSigned_14 : decode cX0_readSigned 14 = .ok (.sipush 255, 3) := by decide +kernel
theorem dX0_readSigned_17 : decode cX0_readSigned 17 = .ok (.invokevirtual 77, 3) := by decide +kernel
theorem dX0_readSigned_20 : decode cX0_readSigned 20 = .ok (.putfield 44, 3) := by decide +kernel
theorem dX0_readSigned_23 : decode cX0_readSigned 23 = .ok (.aload_n 0, 1) := by decide +kernel
theorem dX0_readSigned_24 : decode cX0_readSigned 24 = .ok (.iconst 0, 1) := by decide +kernel
theorem dX0_readSigned_25 : decode cX0_readSigned 25 = .ok (.sipush 255, 3) := by decide +kernel
theorem dX0_readSigned_28 : decode cX0_readSigned 28 = .ok (.invokevirtual 77, 3) := by decide +kernel
theorem dX0_readSigned_31 : decode cX0_readSigned 31 = .ok (.istore_n 1, 1) := by decide +kernel
theorem dX0_readSigned_32 : decode cX0_readSigned 32 = .ok (.aload_n 0, 1) := by decide +kernel
theorem dX0_readSigned_33 : decode cX0_readSigned 33 = .ok (.iload_n 1, 1) := by decide +kernel
theorem dX0_readSigned_34 : decode cX0_readSigned 34 = .ok (.bipush 8, 2) := by decide +kernel
theorem dX0_readSigned_36 : decode cX0_readSigned 36 = .ok (.ishl, 1) := by decide +kernel
theorem dX0_readSigned_37 : decode cX0_readSigned 37 = .ok (.aload_n 0, 1) := by decide +kernel
theorem dX0_readSigned_38 : decode cX0_readSigned 38 = .ok (.iconst 0, 1) := by decide +kernel
theorem dX0_readSigned_39 : decode cX0_readSigned 39 = .ok (.sipush 255, 3) := by decide +kernel
theorem dX0_readSigned_42 : decode cX0_readSigned 42 = .ok (.invokevirtual 77, 3) := by decide +kernel
theorem dX0_readSigned_45 : decode cX0_readSigned 45 = .ok (.ior, 1) := by decide +kernel
theorem dX0_readSigned_46 : decode cX0_readSigned 46 = .ok (.putfield 47, 3) := by decide +kernel
theorem dX0_readSigned_49 : decode cX0_readSigned 49 = .ok (.aload_n 0, 1) := by decide +kernel
theorem dX0_readSigned_50 : decode cX0_readSigned 50 = .ok (.getfield 40, 3) := by decide +kernel
theorem dX0_readSigned_53 : decode cX0_readSigned 53 = .ok (.tableswitch 58 0 2 #[27, 34, 51], 27) := by decide +kernel
theorem dX0_readSigned_80 : decode cX0_readSigned 80 = .ok (.aload_n 0, 1) := by decide +kernel
theorem dX0_readSigned_81 : decode cX0_readSigned 81 = .ok (.invokevirtual 81, 3) := by decide +kernel
theorem dX0_readSigned_84 : decode cX0_readSigned 84 = .ok (.goto 35, 3) := by decide +kernel
theorem dX0_readSigned_87 : decode cX0_readSigned 87 = .ok (.aload_n 0, 1) := by decide +kernel
theorem dX0_readSigned_88 : decode cX0_readSigned 88 = .ok (.iconst 1, 1) := by decide +kernel
theorem dX0_readSigned_89 : decode cX0_readSigned 89 = .ok (.sipush 255, 3) := by decide +kernel
theorem dX0_readSigned_92 : decode cX0_readSigned 92 = .ok (.invokevirtual 77, 3) := by decide +kernel
theorem dX0_readSigned_95 : decode cX0_readSigned 95 = .ok (.pop, 1) := by decide +kernel
theorem dX0_readSigned_96 : decode cX0_readSigned 96 = .ok (.aload_n 0, 1) := by decide +kernel
theorem dX0_readSigned_97 : decode cX0_readSigned 97 = .ok (.iconst 4, 1) := by decide +kernel
theorem dX0_readSigned_98 : decode cX0_readSigned 98 = .ok (.invokevirtual 84, 3) := by decide +kernel
theorem dX0_readSigned_101 : decode cX0_readSigned 101 = .ok (.goto 18, 3) := by decide +kernel
theorem dX0_readSigned_104 : decode cX0_readSigned 104 = .ok (.aload_n 0, 1) := by decide +kernel
theorem dX0_readSigned_105 : decode cX0_readSigned 105 = .ok (.invokevirtual 87, 3) := by decide +kernel
theorem dX0_readSigned_108 : decode cX0_readSigned 108 = .ok (.goto 11, 3) := by decide +kernel
theorem dX0_readSigned_111 : decode cX0_readSigned 111 = .ok (.aload_n 0, 1) := by decide +kernel
theorem dX0_readSigned_112 : decode cX0_readSigned 112 = .ok (.invokevirtual 90, 3) := by decide +kernel
theorem dX0_readSigned_115 : decode cX0_readSigned 115 = .ok (.aload_n 0, 1) := by decide +kernel
theorem dX0_readSigned_116 : decode cX0_readSigned 116 = .ok (.invokevirtual 93, 3) := by decide +kernel
theorem dX0_readSigned_119 : decode cX0_readSigned 119 = .ok (.return_, 1) := by decide +kernel
set_option maxRecDepth 20000 in
theorem ggX0_readRootKeySets_X0_readKeySet : GoodIn wsX0_readRootKeySets wsX0_readKeySet := goodIn_r _ [7, 8, 9, 10, 6, 11, 12, 2, 13, 14, 15, 16, 17, 18, 19, 20, 21, 22, 23, 24, 25, 26, 27, 28, 29, 30, 31, 32, 33, 34, 35, 36, 37] (by decide +kernel) (by decide +kernel)
set_option maxRecDepth 20000 in
theorem gX0_readRootKeySets_X0_readKeySet : GoodIn wsX0_readRootKeySets (wsV RX0 96 RX0 yX0_readKeySet wsX0_readKeySet) := goodIn_app (goodIn_of _ (by decide +kernel)) ggX0_readRootKeySets_X0_readKeySet
theorem dX0_readRootKeySets_0 : decode cX0_readRootKeySets 0 = .ok (.iconst 0, 1) := by decide +kernel
theorem dX0_readRootKeySets_1 : decode cX0_readRootKeySets 1 = .ok (.istore_n 1, 1) := by decide +kernel
theorem dX0_readRootKeySets_2 : decode cX0_readRootKeySets 2 = .ok (.iload_n 1, 1) := by decide +kernel
theorem dX0_readRootKeySets_3 : decode cX0_readRootKeySets 3 = .ok (.iconst 4, 1) := by decide +kernel
theorem dX0_readRootKeySets_4 : decode cX0_readRootKeySets 4 = .ok (.if_icmp .ge 23, 3) := by decide +kernel
theorem dX0_readRootKeySets_7 : decode cX0_readRootKeySets 7 = .ok (.aload_n 0, 1) := by decide +kernel
theorem dX0_readRootKeySets_8 : decode cX0_readRootKeySets 8 = .ok (.getfield 20, 3) := by decide +kernel
theorem dX0_readRootKeySets_11 : decode cX0_readRootKeySets 11 = .ok (.iload_n 1, 1) := by decide +kernel
theorem dX0_readRootKeySets_12 : decode cX0_readRootKeySets 12 = .ok (.aload_n 0, 1) := by decide +kernel
theorem dX0_readRootKeySets_13 : decode cX0_readRootKeySets 13 = .ok (.getfield 61, 3) := by decide +kernel
theorem dX0_readRootKeySets_16 : decode cX0_readRootKeySets 16 = .ok (.iastore, 1) := by decide +kernel
theorem dX0_readRootKeySets_17 : decode cX0_readRootKeySets 17 = .ok (.aload_n 0, 1) := by decide +kernel
theorem dX0_readRootKeySets_18 : decode cX0_readRootKeySets 18 = .ok (.invokevirtual 96, 3) := by decide +kernel
theorem dX0_readRootKeySets_21 : decode cX0_readRootKeySets 21 = .ok (.iinc 1 1, 3) := by decide +kernel
theorem dX0_readRootKeySets_24 : decode cX0_readRootKeySets 24 = .ok (.goto (-22), 3) := by decide +kernel
theorem dX0_readRootKeySets_27 : decode cX0_readRootKeySets 27 = .ok (.return_, 1) := by decide +kernel
set_option maxRecDepth 20000 in
theorem ggX0_readKeySet_X0_next : GoodIn wsX0_readKeySet wsX0_next := goodIn_r _ [5, 6, 7, 8, 9, 10, 11, 12, 13, 14, 15, 16, 17, 18, 19, 20, 21, 22, 23, 24, 25, 26, 27, 28, 29, 30, 31, 32] (by decide +kernel) (by decide +kernel)
set_option maxRecDepth 20000 in
theorem gX0_readKeySet_X0_next : GoodIn wsX0_readKeySet (wsV RX0 77 RX0 yX0_next wsX0_next) := goodIn_app (goodIn_of _ (by decide +kernel)) ggX0_readKeySet_X0_next
theorem dX0_readKeySet_0 : decode cX0_readKeySet 0 = .ok (.aload_n 0, 1) := by decide +kernel
theorem dX0_readKeySet_1 : decode cX0_readKeySet 1 = .ok (.iconst 1, 1) := by decide +kernel
theorem dX0_readKeySet_2 : decode cX0_readKeySet 2 = .ok (.iconst 4, 1) := by decide +kernel
theorem dX0_readKeySet_3 : decode cX0_readKeySet 3 = .ok (.invokevirtual 77, 3) := by decide +kernel
theorem dX0_readKeySet_6 : decode cX0_readKeySet 6 = .ok (.istore_n 1, 1) := by decide +kernel
theorem dX0_readKeySet_7 : decode cX0_readKeySet 7 = .ok (.aload_n 0, 1) := by decide +kernel
theorem dX0_readKeySet_8 : decode cX0_readKeySet 8 = .ok (.iload_n 1, 1) := by decide +kernel
theorem dX0_readKeySet_9 : decode cX0_readKeySet 9 = .ok (.iconst 4, 1) := by decide +kernel
theorem dX0_readKeySet_10 : decode cX0_readKeySet 10 = .ok (.invokevirtual 77, 3) := by decide +kernel
theorem dX0_readKeySet_13 : decode cX0_readKeySet 13 = .ok (.istore_n 2, 1) := by decide +kernel
theorem dX0_readKeySet_14 : decode cX0_readKeySet 14 = .ok (.iconst 0, 1) := by decide +kernel
theorem dX0_readKeySet_15 : decode cX0_readKeySet 15 = .ok (.istore_n 3, 1) := by decide +kernel
theorem dX0_readKeySet_16 : decode cX0_readKeySet 16 = .ok (.iconst 0, 1) := by decide +kernel
theorem dX0_readKeySet_17 : decode cX0_readKeySet 17 = .ok (.istore 4, 2) := by decide +kernel
theorem dX0_readKeySet_19 : decode cX0_readKeySet 19 = .ok (.iload 4, 2) := by decide +kernel
theorem dX0_readKeySet_21 : decode cX0_readKeySet 21 = .ok (.iload_n 2, 1) := by decide +kernel
theorem dX0_readKeySet_22 : decode cX0_readKeySet 22 = .ok (.if_icmp .ge 19, 3) := by decide +kernel
theorem dX0_readKeySet_25 : decode cX0_readKeySet 25 = .ok (.aload_n 0, 1) := by decide +kernel
theorem dX0_readKeySet_26 : decode cX0_readKeySet 26 = .ok (.iload_n 3, 1) := by decide +kernel
theorem dX0_readKeySet_27 : decode cX0_readKeySet 27 = .ok (.bipush 9, 2) := by decide +kernel
theorem dX0_readKeySet_29 : decode cX0_readKeySet 29 = .ok (.invokevirtual 77, 3) := by decide +kernel
theorem dX0_readKeySet_32 : decode cX0_readKeySet 32 = .ok (.iconst 1, 1) := by decide +kernel
theorem dX0_readKeySet_33 : decode cX0_readKeySet 33 = .ok (.iadd, 1) := by decide +kernel
theorem dX0_readKeySet_34 : decode cX0_readKeySet 34 = .ok (.istore_n 3, 1) := by decide +kernel
theorem dX0_readKeySet_35 : decode cX0_readKeySet 35 = .ok (.iinc 4 1, 3) := by decide +kernel
theorem dX0_readKeySet_38 : decode cX0_readKeySet 38 = .ok (.goto (-19), 3) := by decide +kernel
theorem dX0_readKeySet_41 : decode cX0_readKeySet 41 = .ok (.return_, 1) := by decide +kernel
set_option maxRecDepth 20000 in
theorem ggX0_readEntries_X0_next : GoodIn wsX0_readEntries wsX0_next := goodIn_r _ [6, 7, 8, 9, 10, 11, 12, 13, 14, 15, 16, 17, 18, 19, 20, 21, 22, 23, 24, 25, 26, 27, 28, 29, 30, 31, 32, 33] (by decide +kernel) (by decide +kernel)
set_option maxRecDepth 20000 in
theorem gX0_readEntries_X0_next : GoodIn wsX0_readEntries (wsV RX0 77 RX0 yX0_next wsX0_next) := goodIn_app (goodIn_of _ (by decide +kernel)) ggX0_readEntries_X0_next
theorem dX0_readEntries_0 : decode cX0_readEntries 0 = .ok (.iconst 0, 1) := by decide +kernel
theorem dX0_readEntries_1 : decode cX0_readEntries 1 = .ok (.istore_n 1, 1) := by decide +kernel
theorem dX0_readEntries_2 : decode cX0_readEntries 2 = .ok (.iload_n 1, 1) := by decide +kernel
theorem dX0_readEntries_3 : decode cX0_readEntries 3 = .ok (.bipush 6, 2) := by decide +kernel
theorem dX0_readEntries_5 : decode cX0_readEntries 5 = .ok (.if_icmp .gt 16, 3) := by decide +kernel
theorem dX0_readEntries_8 : decode cX0_readEntries 8 = .ok (.aload_n 0, 1) := by decide +kernel
theorem dX0_readEntries_9 : decode cX0_readEntries 9 = .ok (.getfield 24, 3) := by decide +kernel
theorem dX0_readEntries_12 : decode cX0_readEntries 12 = .ok (.iload_n 1, 1) := by decide +kernel
theorem dX0_readEntries_13 : decode cX0_readEntries 13 = .ok (.iconst (-1), 1) := by decide +kernel
theorem dX0_readEntries_14 : decode cX0_readEntries 14 = .ok (.iastore, 1) := by decide +kernel
theorem dX0_readEntries_15 : decode cX0_readEntries 15 = .ok (.iinc 1 1, 3) := by decide +kernel
theorem dX0_readEntries_18 : decode cX0_readEntries 18 = .ok (.goto (-16), 3) := by decide +kernel
theorem dX0_readEntries_21 : decode cX0_readEntries 21 = .ok (.aload_n 0, 1) := by decide +kernel
theorem dX0_readEntries_22 : decode cX0_readEntries 22 = .ok (.iconst 1, 1) := by decide +kernel
theorem dX0_readEntries_23 : decode cX0_readEntries 23 = .ok (.iconst 4, 1) := by decide +kernel
theorem dX0_readEntries_24 : decode cX0_readEntries 24 = .ok (.invokevirtual 77, 3) := by decide +kernel
theorem dX0_readEntries_27 : decode cX0_readEntries 27 = .ok (.istore_n 1, 1) := by decide +kernel
theorem dX0_readEntries_28 : decode cX0_readEntries 28 = .ok (.iconst 3, 1) := by decide +kernel
theorem dX0_readEntries_29 : decode cX0_readEntries 29 = .ok (.istore_n 2, 1) := by decide +kernel
theorem dX0_readEntries_30 : decode cX0_readEntries 30 = .ok (.iconst 3, 1) := by decide +kernel
theorem dX0_readEntries_31 : decode cX0_readEntries 31 = .ok (.istore_n 3, 1) := by decide +kernel
theorem dX0_readEntries_32 : decode cX0_readEntries 32 = .ok (.iconst 0, 1) := by decide +kernel
theorem dX0_readEntries_33 : decode cX0_readEntries 33 = .ok (.istore 4, 2) := by decide +kernel
theorem dX0_readEntries_35 : decode cX0_readEntries 35 = .ok (.iload 4, 2) := by decide +kernel
theorem dX0_readEntries_37 : decode cX0_readEntries 37 = .ok (.iload_n 1, 1) := by decide +kernel
theorem dX0_readEntries_38 : decode cX0_readEntries 38 = .ok (.if_icmp .ge 51, 3) := by decide +kernel
theorem dX0_readEntries_41 : decode cX0_readEntries 41 = .ok (.aload_n 0, 1) := by decide +kernel
theorem dX0_readEntries_42 : decode cX0_readEntries 42 = .ok (.iload_n 2, 1) := by decide +kernel
theorem dX0_readEntries_43 : decode cX0_readEntries 43 = .ok (.iload_n 3, 1) := by decide +kernel
theorem dX0_readEntries_44 : decode cX0_readEntries 44 = .ok (.invokevirtual 77, 3) := by decide +kernel
theorem dX0_readEntries_47 : decode cX0_readEntries 47 = .ok (.istore 5, 2) := by decide +kernel
theorem dX0_readEntries_49 : decode cX0_readEntries 49 = .ok (.aload_n 0, 1) := by decide +kernel
theorem dX0_readEntries_50 : decode cX0_readEntries 50 = .ok (.iconst 1, 1) := by decide +kernel
theorem dX0_readEntries_51 : decode cX0_readEntries 51 = .ok (.sipush 255, 3) := by decide +kernel
theorem dX0_readEntries_54 : decode cX0_readEntries 54 = .ok (.invokevirtual 77, 3) := by decide +kernel
theorem dX0_readEntries_57 : decode cX0_readEntries 57 = .ok (.istore 6, 2) := by decide +kernel
theorem dX0_readEntries_59 : decode cX0_readEntries 59 = .ok (.iload 5, 2) := by decide +kernel
theorem dX0_readEntries_61 : decode cX0_readEntries 61 = .ok (.bipush 6, 2) := by decide +kernel
theorem dX0_readEntries_63 : decode cX0_readEntries 63 = .ok (.if_icmp .gt 12, 3) := by decide +kernel
theorem dX0_readEntries_66 : decode cX0_readEntries 66 = .ok (.aload_n 0, 1) := by decide +kernel
theorem dX0_readEntries_67 : decode cX0_readEntries 67 = .ok (.getfield 24, 3) := by decide +kernel
theorem dX0_readEntries_70 : decode cX0_readEntries 70 = .ok (.iload 5, 2) := by decide +kernel
theorem dX0_readEntries_72 : decode cX0_readEntries 72 = .ok (.iload 6, 2) := by decide +kernel
theorem dX0_readEntries_74 : decode cX0_readEntries 74 = .ok (.iastore, 1) := by decide +kernel
theorem dX0_readEntries_75 : decode cX0_readEntries 75 = .ok (.iload 5, 2) := by decide +kernel
theorem dX0_readEntries_77 : decode cX0_readEntries 77 = .ok (.iconst 1, 1) := by decide +kernel
theorem dX0_readEntries_78 : decode cX0_readEntries 78 = .ok (.iadd, 1) := by decide +kernel
theorem dX0_readEntries_79 : decode cX0_readEntries 79 = .ok (.istore_n 2, 1) := by decide +kernel
theorem dX0_readEntries_80 : decode cX0_readEntries 80 = .ok (.bipush 6, 2) := by decide +kernel
theorem dX0_readEntries_82 : decode cX0_readEntries 82 = .ok (.istore_n 3, 1) := by decide +kernel
theorem dX0_readEntries_83 : decode cX0_readEntries 83 = .ok (.iinc 4 1, 3) := by decide +kernel
theorem dX0_readEntries_86 : decode cX0_readEntries 86 = .ok (.goto (-51), 3) := by decide +kernel
theorem dX0_readEntries_89 : decode cX0_readEntries 89 = .ok (.return_, 1) := by decide +kernel
set_option maxRecDepth 20000 in
theorem ggX0_readTargets_X0_next : GoodIn wsX0_readTargets wsX0_next := goodIn_r _ [9, 10, 3, 4, 11, 12, 13, 14, 15, 16, 17, 35, 36, 37, 38, 39, 40, 41, 42, 43, 44, 45, 46, 47, 48, 49, 50, 51] (by decide +kernel) (by decide +kernel)
set_option maxRecDepth 20000 in
theorem gX0_readTargets_X0_next : GoodIn wsX0_readTargets (wsV RX0 77 RX0 yX0_next wsX0_next) := goodIn_app (goodIn_of _ (by decide +kernel)) ggX0_readTargets_X0_next
set_option maxRecDepth 20000 in
theorem ggX0_readTargets_X0_readLetters : GoodIn wsX0_readTargets wsX0_readLetters := goodIn_r _ [21, 5, 6, 7, 8, 9, 10, 3, 4, 11, 12, 13, 14, 15, 16, 17, 35, 36, 37, 38, 39, 40, 41, 42, 43, 44, 45, 46, 47, 48, 49, 50, 51] (by decide +kernel) (by decide +kernel)
set_option maxRecDepth 20000 in
theorem gX0_readTargets_X0_readLetters : GoodIn wsX0_readTargets (wsV RX0 102 RX0 yX0_readLetters wsX0_readLetters) := goodIn_app (goodIn_of _ (by decide +kernel)) ggX0_readTargets_X0_readLetters
set_option maxRecDepth 20000 in
theorem ggX0_readTargets_X0_skip : GoodIn wsX0_readTargets wsX0_skip := goodIn_r _ [25, 5, 6, 7, 8, 9, 10, 3, 4, 11, 12, 13, 14, 15, 16, 17, 35, 36, 37, 38, 39, 40, 41, 42, 43, 44, 45, 46, 47, 48, 49, 50, 51] (by decide +kernel) (by decide +kernel)
set_option maxRecDepth 20000 in
theorem gX0_readTargets_X0_skip : GoodIn wsX0_readTargets (wsV RX0 84 RX0 yX0_skip wsX0_skip) := goodIn_app (goodIn_of _ (by decide +kernel)) ggX0_readTargets_X0_skip
set_option maxRecDepth 20000 in
theorem ggX0_readTargets_X0_isNamedAsEarlier : GoodIn wsX0_readTargets wsX0_isNamedAsEarlier := goodIn_r _ [29, 10, 2, 11, 12, 13, 14, 15, 16, 17, 30, 31, 32, 33, 34, 35, 36, 37, 38, 39, 40, 41, 42, 43, 44, 45, 46, 47, 48, 49, 50, 51] (by decide +kernel) (by decide +kernel)
set_option maxRecDepth 20000 in
theorem gX0_readTargets_X0_isNamedAsEarlier : GoodIn wsX0_readTargets (wsV RX0 106 RX0 yX0_isNamedAsEarlier wsX0_isNamedAsEarlier) := goodIn_app (goodIn_of _ (by decide +kernel)) ggX0_readTargets_X0_isNamedAsEarlier
theorem dX0_readTargets_0 : decode cX0_readTargets 0 = .ok (.aload_n 0, 1) := by decide +kernel
theorem dX0_readTargets_1 : decode cX0_readTargets 1 = .ok (.aload_n 0, 1) := by decide +kernel
theorem dX0_readTargets_2 : decode cX0_readTargets 2 = .ok (.iconst 0, 1) := by decide +kernel
theorem dX0_readTargets_3 : decode cX0_readTargets 3 = .ok (.iconst 4, 1) := by decide +kernel
theorem dX0_readTargets_4 : decode cX0_readTargets 4 = .ok (.invokevirtual 77, 3) := by decide +kernel
theorem dX0_readTargets_7 : decode cX0_readTargets 7 = .ok (.putfield 99, 3) := by decide +kernel
theorem dX0_readTargets_10 : decode cX0_readTargets 10 = .ok (.iconst 0, 1) := by decide +kernel
theorem dX0_readTargets_11 : decode cX0_readTargets 11 = .ok (.istore_n 1, 1) := by decide +kernel
theorem dX0_readTargets_12 : decode cX0_readTargets 12 = .ok (.iload_n 1, 1) := by decide +kernel
theorem dX0_readTargets_13 : decode cX0_readTargets 13 = .ok (.aload_n 0, 1) := by decide +kernel
theorem dX0_readTargets_14 : decode cX0_readTargets 14 = .ok (.getfield 99, 3) := by decide +kernel
theorem dX0_readTargets_17 : decode cX0_readTargets 17 = .ok (.if_icmp .ge 54, 3) := by decide +kernel
theorem dX0_readTargets_20 : decode cX0_readTargets 20 = .ok (.aload_n 0, 1) := by decide +kernel
theorem dX0_readTargets_21 : decode cX0_readTargets 21 = .ok (.getfield 27, 3) := by decide +kernel
theorem dX0_readTargets_24 : decode cX0_readTargets 24 = .ok (.iload_n 1, 1) := by decide +kernel
theorem dX0_readTargets_25 : decode cX0_readTargets 25 = .ok (.aload_n 0, 1) := by decide +kernel
theorem dX0_readTargets_26 : decode cX0_readTargets 26 = .ok (.getfield 61, 3) := by decide +kernel
theorem dX0_readTargets_29 : decode cX0_readTargets 29 = .ok (.iastore, 1) := by decide +kernel
theorem dX0_readTargets_30 : decode cX0_readTargets 30 = .ok (.aload_n 0, 1) := by decide +kernel
theorem dX0_readTargets_31 : decode cX0_readTargets 31 = .ok (.iconst 1, 1) := by decide +kernel
theorem dX0_readTargets_32 : decode cX0_readTargets 32 = .ok (.iconst 4, 1) := by decide +kernel
theorem dX0_readTargets_33 : decode cX0_readTargets 33 = .ok (.invokevirtual 102, 3) := by decide +kernel
theorem dX0_readTargets_36 : decode cX0_readTargets 36 = .ok (.aload_n 0, 1) := by decide +kernel
theorem dX0_readTargets_37 : decode cX0_readTargets 37 = .ok (.iconst 5, 1) := by decide +kernel
theorem dX0_readTargets_38 : decode cX0_readTargets 38 = .ok (.invokevirtual 84, 3) := by decide +kernel
theorem dX0_readTargets_41 : decode cX0_readTargets 41 = .ok (.aload_n 0, 1) := by decide +kernel
theorem dX0_readTargets_42 : decode cX0_readTargets 42 = .ok (.aload_n 0, 1) := by decide +kernel
theorem dX0_readTargets_43 : decode cX0_readTargets 43 = .ok (.getfield 64, 3) := by decide +kernel
theorem dX0_readTargets_46 : decode cX0_readTargets 46 = .ok (.ifCond .eq 15, 3) := by decide +kernel
theorem dX0_readTargets_49 : decode cX0_readTargets 49 = .ok (.aload_n 0, 1) := by decide +kernel
theorem dX0_readTargets_50 : decode cX0_readTargets 50 = .ok (.iload_n 1, 1) := by decide +kernel
theorem dX0_readTargets_51 : decode cX0_readTargets 51 = .ok (.invokevirtual 106, 3) := by decide +kernel
theorem dX0_readTargets_54 : decode cX0_readTargets 54 = .ok (.ifCond .ne 7, 3) := by decide +kernel
theorem dX0_readTargets_57 : decode cX0_readTargets 57 = .ok (.iconst 1, 1) := by decide +kernel
theorem dX0_readTargets_58 : decode cX0_readTargets 58 = .ok (.goto 4, 3) := by decide +kernel
theorem dX0_readTargets_61 : decode cX0_readTargets 61 = .ok (.iconst 0, 1) := by decide +kernel
theorem dX0_readTargets_62 : decode cX0_readTargets 62 = .ok (.putfield 64, 3) := by decide +kernel
theorem dX0_readTargets_65 : decode cX0_readTargets 65 = .ok (.iinc 1 1, 3) := by decide +kernel
theorem dX0_readTargets_68 : decode cX0_readTargets 68 = .ok (.goto (-56), 3) := by decide +kernel
theorem dX0_readTargets_71 : decode cX0_readTargets 71 = .ok (.return_, 1) := by decide +kernel
set_option maxRecDepth 20000 in
theorem ggX0_readLetters_X0_next : GoodIn wsX0_readLetters wsX0_next := goodIn_r _ [5, 6, 7, 8, 9, 10, 11, 12, 13, 14, 15, 16, 17, 18, 19, 20, 21, 22, 23, 24, 25, 26, 27, 28, 29, 30, 31, 32] (by decide +kernel) (by decide +kernel)
set_option maxRecDepth 20000 in
theorem gX0_readLetters_X0_next : GoodIn wsX0_readLetters (wsV RX0 77 RX0 yX0_next wsX0_next) := goodIn_app (goodIn_of _ (by decide +kernel)) ggX0_readLetters_X0_next
theorem dX0_readLetters_0 : decode cX0_readLetters 0 = .ok (.aload_n 0, 1) := by decide +kernel
theorem dX0_readLetters_1 : decode cX0_readLetters 1 = .ok (.iload_n 1, 1) := by decide +kernel
theorem dX0_readLetters_2 : decode cX0_readLetters 2 = .ok (.iload_n 2, 1) := by decide +kernel
theorem dX0_readLetters_3 : decode cX0_readLetters 3 = .ok (.invokevirtual 77, 3) := by decide +kernel
theorem dX0_readLetters_6 : decode cX0_readLetters 6 = .ok (.istore_n 3, 1) := by decide +kernel
theorem dX0_readLetters_7 : decode cX0_readLetters 7 = .ok (.iconst 0, 1) := by decide +kernel
theorem dX0_readLetters_8 : decode cX0_readLetters 8 = .ok (.istore 4, 2) := by decide +kernel
theorem dX0_readLetters_10 : decode cX0_readLetters 10 = .ok (.iload 4, 2) := by decide +kernel
theorem dX0_readLetters_12 : decode cX0_readLetters 12 = .ok (.iload_n 3, 1) := by decide +kernel
theorem dX0_readLetters_13 : decode cX0_readLetters 13 = .ok (.if_icmp .ge 18, 3) := by decide +kernel
theorem dX0_readLetters_16 : decode cX0_readLetters 16 = .ok (.aload_n 0, 1) := by decide +kernel
theorem dX0_readLetters_17 : decode cX0_readLetters 17 = .ok (.bipush 97, 2) := by decide +kernel
theorem dX0_readLetters_19 : decode cX0_readLetters 19 = .ok (.bipush 122, 2) := by decide +kernel
theorem dX0_readLetters_21 : decode cX0_readLetters 21 = .ok (.invokevirtual 77, 3) := by decide +kernel
theorem dX0_readLetters_24 : decode cX0_readLetters 24 = .ok (.pop, 1) := by decide +kernel
theorem dX0_readLetters_25 : decode cX0_readLetters 25 = .ok (.iinc 4 1, 3) := by decide +kernel
theorem dX0_readLetters_28 : decode cX0_readLetters 28 = .ok (.goto (-18), 3) := by decide +kernel
theorem dX0_readLetters_31 : decode cX0_readLetters 31 = .ok (.return_, 1) := by decide +kernel
set_option maxRecDepth 20000 in
theorem ggX0_isNamedAsEarlier_X1_byteAt : GoodIn wsX0_isNamedAsEarlier wsX1_byteAt := goodIn_r _ [7, 8, 9, 30, 31] (by decide +kernel) (by decide +kernel)
set_option maxRecDepth 20000 in
theorem gX0_isNamedAsEarlier_X1_byteAt : GoodIn wsX0_isNamedAsEarlier (wsV RX0 53 RX1 yX1_byteAt wsX1_byteAt) := goodIn_app (goodIn_of _ (by decide +kernel)) ggX0_isNamedAsEarlier_X1_byteAt
set_option maxRecDepth 20000 in
theorem ggX0_isNamedAsEarlier_X1_agrees : GoodIn wsX0_isNamedAsEarlier wsX1_agrees := goodIn_r _ [13, 14, 4, 5, 6, 7, 8, 9, 30, 31] (by decide +kernel) (by decide +kernel)
set_option maxRecDepth 20000 in
theorem gX0_isNamedAsEarlier_X1_agrees : GoodIn wsX0_isNamedAsEarlier (wsV RX0 110 RX1 yX1_agrees wsX1_agrees) := goodIn_app (goodIn_of _ (by decide +kernel)) ggX0_isNamedAsEarlier_X1_agrees
theorem dX0_isNamedAsEarlier_0 : decode cX0_isNamedAsEarlier 0 = .ok (.iconst 0, 1) := by decide +kernel
theorem dX0_isNamedAsEarlier_1 : decode cX0_isNamedAsEarlier 1 = .ok (.istore_n 2, 1) := by decide +kernel
theorem dX0_isNamedAsEarlier_2 : decode cX0_isNamedAsEarlier 2 = .ok (.iload_n 2, 1) := by decide +kernel
theorem dX0_isNamedAsEarlier_3 : decode cX0_isNamedAsEarlier 3 = .ok (.iload_n 1, 1) := by decide +kernel
theorem dX0_isNamedAsEarlier_4 : decode cX0_isNamedAsEarlier 4 = .ok (.if_icmp .ge 52, 3) := by decide +kernel
theorem dX0_isNamedAsEarlier_7 : decode cX0_isNamedAsEarlier 7 = .ok (.aload_n 0, 1) := by decide +kernel
theorem dX0_isNamedAsEarlier_8 : decode cX0_isNamedAsEarlier 8 = .ok (.getfield 14, 3) := by decide +kernel
theorem dX0_isNamedAsEarlier_11 : decode cX0_isNamedAsEarlier 11 = .ok (.aload_n 0, 1) := by decide +kernel
theorem dX0_isNamedAsEarlier_12 : decode cX0_isNamedAsEarlier 12 = .ok (.getfield 27, 3) := by decide +kernel
theorem dX0_isNamedAsEarlier_15 : decode cX0_isNamedAsEarlier 15 = .ok (.iload_n 2, 1) := by decide +kernel
theorem dX0_isNamedAsEarlier_16 : decode cX0_isNamedAsEarlier 16 = .ok (.iaload, 1) := by decide +kernel
theorem dX0_isNamedAsEarlier_17 : decode cX0_isNamedAsEarlier 17 = .ok (.aload_n 0, 1) := by decide +kernel
theorem dX0_isNamedAsEarlier_18 : decode cX0_isNamedAsEarlier 18 = .ok (.getfield 14, 3) := by decide +kernel
theorem dX0_isNamedAsEarlier_21 : decode cX0_isNamedAsEarlier 21 = .ok (.aload_n 0, 1) := by decide +kernel
theorem dX0_isNamedAsEarlier_22 : decode cX0_isNamedAsEarlier 22 = .ok (.getfield 27, 3) := by decide +kernel
theorem dX0_isNamedAsEarlier_25 : decode cX0_isNamedAsEarlier 25 = .ok (.iload_n 1, 1) := by decide +kernel
theorem dX0_isNamedAsEarlier_26 : decode cX0_isNamedAsEarlier 26 = .ok (.iaload, 1) := by decide +kernel
theorem dX0_isNamedAsEarlier_27 : decode cX0_isNamedAsEarlier 27 = .ok (.iconst 1, 1) := by decide +kernel
theorem dX0_isNamedAsEarlier_28 : decode cX0_isNamedAsEarlier 28 = .ok (.aload_n 0, 1) := by decide +kernel
theorem dX0_isNamedAsEarlier_29 : decode cX0_isNamedAsEarlier 29 = .ok (.getfield 14, 3) := by decide +kernel
theorem dX0_isNamedAsEarlier_32 : decode cX0_isNamedAsEarlier 32 = .ok (.aload_n 0, 1) := by decide +kernel
theorem dX0_isNamedAsEarlier_33 : decode cX0_isNamedAsEarlier 33 = .ok (.getfield 27, 3) := by decide +kernel
theorem dX0_isNamedAsEarlier_36 : decode cX0_isNamedAsEarlier 36 = .ok (.iload_n 2, 1) := by decide +kernel
theorem dX0_isNamedAsEarlier_37 : decode cX0_isNamedAsEarlier 37 = .ok (.iaload, 1) := by decide +kernel
theorem dX0_isNamedAsEarlier_38 : decode cX0_isNamedAsEarlier 38 = .ok (.invokevirtual 53, 3) := by decide +kernel
theorem dX0_isNamedAsEarlier_41 : decode cX0_isNamedAsEarlier 41 = .ok (.iadd, 1) := by decide +kernel
theorem dX0_isNamedAsEarlier_42 : decode cX0_isNamedAsEarlier 42 = .ok (.invokevirtual 110, 3) := by decide +kernel
theorem dX0_isNamedAsEarlier_45 : decode cX0_isNamedAsEarlier 45 = .ok (.ifCond .eq 5, 3) := by decide +kernel
theorem dX0_isNamedAsEarlier_48 : decode cX0_isNamedAsEarlier 48 = .ok (.iconst 1, 1) := by decide +kernel
theorem dX0_isNamedAsEarlier_49 : decode cX0_isNamedAsEarlier 49 = .ok (.ireturn, 1) := by decide +kernel
theorem dX0_isNamedAsEarlier_50 : decode cX0_isNamedAsEarlier 50 = .ok (.iinc 2 1, 3) := by decide +kernel
theorem dX0_isNamedAsEarlier_53 : decode cX0_isNamedAsEarlier 53 = .ok (.goto (-51), 3) := by decide +kernel
theorem dX0_isNamedAsEarlier_56 : decode cX0_isNamedAsEarlier 56 = .ok (.iconst 0, 1) := by decide +kernel
theorem dX0_isNamedAsEarlier_57 : decode cX0_isNamedAsEarlier 57 = .ok (.ireturn, 1) := by decide +kernel
set_option maxRecDepth 20000 in
theorem ggX0_readDelegations_X0_next : GoodIn wsX0_readDelegations wsX0_next := goodIn_r _ [9, 10, 3, 4, 11, 12, 13, 14, 15, 16, 17, 26, 27, 28, 29, 30, 31, 32, 33, 34, 35, 36, 37, 38, 39, 40, 41, 42] (by decide +kernel) (by decide +kernel)
set_option maxRecDepth 20000 in
theorem gX0_readDelegations_X0_next : GoodIn wsX0_readDelegations (wsV RX0 77 RX0 yX0_next wsX0_next) := goodIn_app (goodIn_of _ (by decide +kernel)) ggX0_readDelegations_X0_next
set_option maxRecDepth 20000 in
theorem ggX0_readDelegations_X0_readKeySet : GoodIn wsX0_readDelegations wsX0_readKeySet := goodIn_r _ [21, 5, 6, 7, 8, 9, 10, 3, 4, 11, 12, 13, 14, 15, 16, 17, 26, 27, 28, 29, 30, 31, 32, 33, 34, 35, 36, 37, 38, 39, 40, 41, 42] (by decide +kernel) (by decide +kernel)
set_option maxRecDepth 20000 in
theorem gX0_readDelegations_X0_readKeySet : GoodIn wsX0_readDelegations (wsV RX0 96 RX0 yX0_readKeySet wsX0_readKeySet) := goodIn_app (goodIn_of _ (by decide +kernel)) ggX0_readDelegations_X0_readKeySet
set_option maxRecDepth 20000 in
theorem ggX0_readDelegations_X0_readLetters : GoodIn wsX0_readDelegations wsX0_readLetters := goodIn_r _ [25, 5, 6, 7, 8, 9, 10, 3, 4, 11, 12, 13, 14, 15, 16, 17, 26, 27, 28, 29, 30, 31, 32, 33, 34, 35, 36, 37, 38, 39, 40, 41, 42] (by decide +kernel) (by decide +kernel)
set_option maxRecDepth 20000 in
theorem gX0_readDelegations_X0_readLetters : GoodIn wsX0_readDelegations (wsV RX0 102 RX0 yX0_readLetters wsX0_readLetters) := goodIn_app (goodIn_of _ (by decide +kernel)) ggX0_readDelegations_X0_readLetters
theorem dX0_readDelegations_0 : decode cX0_readDelegations 0 = .ok (.aload_n 0, 1) := by decide +kernel
theorem dX0_readDelegations_1 : decode cX0_readDelegations 1 = .ok (.aload_n 0, 1) := by decide +kernel
theorem dX0_readDelegations_2 : decode cX0_readDelegations 2 = .ok (.iconst 0, 1) := by decide +kernel
theorem dX0_readDelegations_3 : decode cX0_readDelegations 3 = .ok (.iconst 3, 1) := by decide +kernel
theorem dX0_readDelegations_4 : decode cX0_readDelegations 4 = .ok (.invokevirtual 77, 3) := by decide +kernel
theorem dX0_readDelegations_7 : decode cX0_readDelegations 7 = .ok (.putfield 114, 3) := by decide +kernel
theorem dX0_readDelegations_10 : decode cX0_readDelegations 10 = .ok (.iconst 0, 1) := by decide +kernel
theorem dX0_readDelegations_11 : decode cX0_readDelegations 11 = .ok (.istore_n 1, 1) := by decide +kernel
theorem dX0_readDelegations_12 : decode cX0_readDelegations 12 = .ok (.iconst 0, 1) := by decide +kernel
theorem dX0_readDelegations_13 : decode cX0_readDelegations 13 = .ok (.istore_n 2, 1) := by decide +kernel
theorem dX0_readDelegations_14 : decode cX0_readDelegations 14 = .ok (.iload_n 2, 1) := by decide +kernel
theorem dX0_readDelegations_15 : decode cX0_readDelegations 15 = .ok (.aload_n 0, 1) := by decide +kernel
theorem dX0_readDelegations_16 : decode cX0_readDelegations 16 = .ok (.getfield 114, 3) := by decide +kernel
theorem dX0_readDelegations_19 : decode cX0_readDelegations 19 = .ok (.if_icmp .ge 74, 3) := by decide +kernel
theorem dX0_readDelegations_22 : decode cX0_readDelegations 22 = .ok (.aload_n 0, 1) := by decide +kernel
theorem dX0_readDelegations_23 : decode cX0_readDelegations 23 = .ok (.getfield 30, 3) := by decide +kernel
theorem dX0_readDelegations_26 : decode cX0_readDelegations 26 = .ok (.iload_n 2, 1) := by decide +kernel
theorem dX0_readDelegations_27 : decode cX0_readDelegations 27 = .ok (.aload_n 0, 1) := by decide +kernel
theorem dX0_readDelegations_28 : decode cX0_readDelegations 28 = .ok (.getfield 61, 3) := by decide +kernel
theorem dX0_readDelegations_31 : decode cX0_readDelegations 31 = .ok (.iastore, 1) := by decide +kernel
theorem dX0_readDelegations_32 : decode cX0_readDelegations 32 = .ok (.aload_n 0, 1) := by decide +kernel
theorem dX0_readDelegations_33 : decode cX0_readDelegations 33 = .ok (.iconst 4, 1) := by decide +kernel
theorem dX0_readDelegations_34 : decode cX0_readDelegations 34 = .ok (.bipush 6, 2) := by decide +kernel
theorem dX0_readDelegations_36 : decode cX0_readDelegations 36 = .ok (.invokevirtual 77, 3) := by decide +kernel
theorem dX0_readDelegations_39 : decode cX0_readDelegations 39 = .ok (.istore_n 3, 1) := by decide +kernel
theorem dX0_readDelegations_40 : decode cX0_readDelegations 40 = .ok (.aload_n 0, 1) := by decide +kernel
theorem dX0_readDelegations_41 : decode cX0_readDelegations 41 = .ok (.aload_n 0, 1) := by decide +kernel
theorem dX0_readDelegations_42 : decode cX0_readDelegations 42 = .ok (.getfield 64, 3) := by decide +kernel
theorem dX0_readDelegations_45 : decode cX0_readDelegations 45 = .ok (.ifCond .eq 15, 3) := by decide +kernel
theorem dX0_readDelegations_48 : decode cX0_readDelegations 48 = .ok (.iload_n 1, 1) := by decide +kernel
theorem dX0_readDelegations_49 : decode cX0_readDelegations 49 = .ok (.iload_n 3, 1) := by decide +kernel
theorem dX0_readDelegations_50 : decode cX0_readDelegations 50 = .ok (.ishr, 1) := by decide +kernel
theorem dX0_readDelegations_51 : decode cX0_readDelegations 51 = .ok (.iconst 1, 1) := by decide +kernel
theorem dX0_readDelegations_52 : decode cX0_readDelegations 52 = .ok (.iand, 1) := by decide +kernel
theorem dX0_readDelegations_53 : decode cX0_readDelegations 53 = .ok (.ifCond .ne 7, 3) := by decide +kernel
theorem dX0_readDelegations_56 : decode cX0_readDelegations 56 = .ok (.iconst 1, 1) := by decide +kernel
theorem dX0_readDelegations_57 : decode cX0_readDelegations 57 = .ok (.goto 4, 3) := by decide +kernel
theorem dX0_readDelegations_60 : decode cX0_readDelegations 60 = .ok (.iconst 0, 1) := by decide +kernel
theorem dX0_readDelegations_61 : decode cX0_readDelegations 61 = .ok (.putfield 64, 3) := by decide +kernel
theorem dX0_readDelegations_64 : decode cX0_readDelegations 64 = .ok (.iload_n 1, 1) := by decide +kernel
theorem dX0_readDelegations_65 : decode cX0_readDelegations 65 = .ok (.iconst 1, 1) := by decide +kernel
theorem dX0_readDelegations_66 : decode cX0_readDelegations 66 = .ok (.iload_n 3, 1) := by decide +kernel
theorem dX0_readDelegations_67 : decode cX0_readDelegations 67 = .ok (.ishl, 1) := by decide +kernel
theorem dX0_readDelegations_68 : decode cX0_readDelegations 68 = .ok (.ior, 1) := by decide +kernel
theorem dX0_readDelegations_69 : decode cX0_readDelegations 69 = .ok (.istore_n 1, 1) := by decide +kernel
theorem dX0_readDelegations_70 : decode cX0_readDelegations 70 = .ok (.aload_n 0, 1) := by decide +kernel
theorem dX0_readDelegations_71 : decode cX0_readDelegations 71 = .ok (.iconst 0, 1) := by decide +kernel
theorem dX0_readDelegations_72 : decode cX0_readDelegations 72 = .ok (.iconst 1, 1) := by decide +kernel
theorem dX0_readDelegations_73 : decode cX0_readDelegations 73 = .ok (.invokevirtual 77, 3) := by decide +kernel
theorem dX0_readDelegations_76 : decode cX0_readDelegations 76 = .ok (.pop, 1) := by decide +kernel
theorem dX0_readDelegations_77 : decode cX0_readDelegations 77 = .ok (.aload_n 0, 1) := by decide +kernel
theorem dX0_readDelegations_78 : decode cX0_readDelegations 78 = .ok (.invokevirtual 96, 3) := by decide +kernel
theorem dX0_readDelegations_81 : decode cX0_readDelegations 81 = .ok (.aload_n 0, 1) := by decide +kernel
theorem dX0_readDelegations_82 : decode cX0_readDelegations 82 = .ok (.iconst 0, 1) := by decide +kernel
theorem dX0_readDelegations_83 : decode cX0_readDelegations 83 = .ok (.iconst 3, 1) := by decide +kernel
theorem dX0_readDelegations_84 : decode cX0_readDelegations 84 = .ok (.invokevirtual 102, 3) := by decide +kernel
theorem dX0_readDelegations_87 : decode cX0_readDelegations 87 = .ok (.iinc 2 1, 3) := by decide +kernel
theorem dX0_readDelegations_90 : decode cX0_readDelegations 90 = .ok (.goto (-76), 3) := by decide +kernel
theorem dX0_readDelegations_93 : decode cX0_readDelegations 93 = .ok (.return_, 1) := by decide +kernel
set_option maxRecDepth 20000 in
theorem ggX0_readSignatures_X0_next : GoodIn wsX0_readSignatures wsX0_next := goodIn_r _ [5, 6, 7, 8, 9, 10, 11, 12, 13, 14, 15, 20, 21, 22, 23, 24, 25, 26, 27, 28, 29, 30, 31, 32, 33, 34, 35, 36] (by decide +kernel) (by decide +kernel)
set_option maxRecDepth 20000 in
theorem gX0_readSignatures_X0_next : GoodIn wsX0_readSignatures (wsV RX0 77 RX0 yX0_next wsX0_next) := goodIn_app (goodIn_of _ (by decide +kernel)) ggX0_readSignatures_X0_next
set_option maxRecDepth 20000 in
theorem ggX0_readSignatures_X0_skip : GoodIn wsX0_readSignatures wsX0_skip := goodIn_r _ [19, 1, 2, 3, 4, 5, 6, 7, 8, 9, 10, 11, 12, 13, 14, 15, 20, 21, 22, 23, 24, 25, 26, 27, 28, 29, 30, 31, 32, 33, 34, 35, 36] (by decide +kernel) (by decide +kernel)
set_option maxRecDepth 20000 in
theorem gX0_readSignatures_X0_skip : GoodIn wsX0_readSignatures (wsV RX0 84 RX0 yX0_skip wsX0_skip) := goodIn_app (goodIn_of _ (by decide +kernel)) ggX0_readSignatures_X0_skip
theorem dX0_readSignatures_0 : decode cX0_readSignatures 0 = .ok (.aload_n 0, 1) := by decide +kernel
theorem dX0_readSignatures_1 : decode cX0_readSignatures 1 = .ok (.iconst 0, 1) := by decide +kernel
theorem dX0_readSignatures_2 : decode cX0_readSignatures 2 = .ok (.bipush 6, 2) := by decide +kernel
theorem dX0_readSignatures_4 : decode cX0_readSignatures 4 = .ok (.invokevirtual 77, 3) := by decide +kernel
theorem dX0_readSignatures_7 : decode cX0_readSignatures 7 = .ok (.istore_n 1, 1) := by decide +kernel
theorem dX0_readSignatures_8 : decode cX0_readSignatures 8 = .ok (.iconst 0, 1) := by decide +kernel
theorem dX0_readSignatures_9 : decode cX0_readSignatures 9 = .ok (.istore_n 2, 1) := by decide +kernel
theorem dX0_readSignatures_10 : decode cX0_readSignatures 10 = .ok (.iload_n 2, 1) := by decide +kernel
theorem dX0_readSignatures_11 : decode cX0_readSignatures 11 = .ok (.iload_n 1, 1) := by decide +kernel
theorem dX0_readSignatures_12 : decode cX0_readSignatures 12 = .ok (.if_icmp .ge 22, 3) := by decide +kernel
theorem dX0_readSignatures_15 : decode cX0_readSignatures 15 = .ok (.aload_n 0, 1) := by decide +kernel
theorem dX0_readSignatures_16 : decode cX0_readSignatures 16 = .ok (.iconst 0, 1) := by decide +kernel
theorem dX0_readSignatures_17 : decode cX0_readSignatures 17 = .ok (.bipush 9, 2) := by decide +kernel
theorem dX0_readSignatures_19 : decode cX0_readSignatures 19 = .ok (.invokevirtual 77, 3) := by decide +kernel
theorem dX0_readSignatures_22 : decode cX0_readSignatures 22 = .ok (.pop, 1) := by decide +kernel
theorem dX0_readSignatures_23 : decode cX0_readSignatures 23 = .ok (.aload_n 0, 1) := by decide +kernel
theorem dX0_readSignatures_24 : decode cX0_readSignatures 24 = .ok (.iconst 4, 1) := by decide +kernel
theorem dX0_readSignatures_25 : decode cX0_readSignatures 25 = .ok (.invokevirtual 84, 3) := by decide +kernel
theorem dX0_readSignatures_28 : decode cX0_readSignatures 28 = .ok (.iinc 2 1, 3) := by decide +kernel
theorem dX0_readSignatures_31 : decode cX0_readSignatures 31 = .ok (.goto (-21), 3) := by decide +kernel
theorem dX0_readSignatures_34 : decode cX0_readSignatures 34 = .ok (.return_, 1) := by decide +kernel
set_option maxRecDepth 20000 in
theorem ggX0_signatureOf_X1_mixOfFirst : GoodIn wsX0_signatureOf wsX1_mixOfFirst := goodIn_r _ [7, 8, 9, 10, 11, 27, 28] (by decide +kernel) (by decide +kernel)
set_option maxRecDepth 20000 in
theorem gX0_signatureOf_X1_mixOfFirst : GoodIn wsX0_signatureOf (wsV RX0 117 RX1 yX1_mixOfFirst wsX1_mixOfFirst) := goodIn_app (goodIn_of _ (by decide +kernel)) ggX0_signatureOf_X1_mixOfFirst
theorem dX0_signatureOf_0 : decode cX0_signatureOf 0 = .ok (.aload_n 0, 1) := by decide +kernel
theorem dX0_signatureOf_1 : decode cX0_signatureOf 1 = .ok (.getfield 14, 3) := by decide +kernel
theorem dX0_signatureOf_4 : decode cX0_signatureOf 4 = .ok (.aload_n 0, 1) := by decide +kernel
theorem dX0_signatureOf_5 : decode cX0_signatureOf 5 = .ok (.getfield 50, 3) := by decide +kernel
theorem dX0_signatureOf_8 : decode cX0_signatureOf 8 = .ok (.iload_n 1, 1) := by decide +kernel
theorem dX0_signatureOf_9 : decode cX0_signatureOf 9 = .ok (.iconst 1, 1) := by decide +kernel
theorem dX0_signatureOf_10 : decode cX0_signatureOf 10 = .ok (.iadd, 1) := by decide +kernel
theorem dX0_signatureOf_11 : decode cX0_signatureOf 11 = .ok (.invokevirtual 117, 3) := by decide +kernel
theorem dX0_signatureOf_14 : decode cX0_signatureOf 14 = .ok (.ireturn, 1) := by decide +kernel
set_option maxRecDepth 20000 in
theorem ggX0_hasSignatureOf_X0_signatureOf : GoodIn wsX0_hasSignatureOf wsX0_signatureOf := goodIn_r _ [7, 2, 1, 8, 9, 10, 11, 12, 13, 14, 15, 16, 29, 30, 31, 32, 33, 34, 35, 36, 37, 38, 39, 40, 41, 42, 43, 44, 45] (by decide +kernel) (by decide +kernel)
set_option maxRecDepth 20000 in
theorem gX0_hasSignatureOf_X0_signatureOf : GoodIn wsX0_hasSignatureOf (wsV RX0 120 RX0 yX0_signatureOf wsX0_signatureOf) := goodIn_app (goodIn_of _ (by decide +kernel)) ggX0_hasSignatureOf_X0_signatureOf
set_option maxRecDepth 20000 in
theorem ggX0_hasSignatureOf_X0_signatureCount : GoodIn wsX0_hasSignatureOf wsX0_signatureCount := goodIn_r _ [20, 2, 1, 21, 22, 23, 11, 24, 14, 15, 29, 30, 31, 32, 33, 34, 35, 36, 37, 38, 39, 40, 41, 42, 43, 44, 45] (by decide +kernel) (by decide +kernel)
set_option maxRecDepth 20000 in
theorem gX0_hasSignatureOf_X0_signatureCount : GoodIn wsX0_hasSignatureOf (wsV RX0 123 RX0 yX0_signatureCount wsX0_signatureCount) := goodIn_app (goodIn_of _ (by decide +kernel)) ggX0_hasSignatureOf_X0_signatureCount
set_option maxRecDepth 20000 in
theorem ggX0_hasSignatureOf_X1_byteAt : GoodIn wsX0_hasSignatureOf wsX1_byteAt := goodIn_r _ [24, 14, 15, 44, 45] (by decide +kernel) (by decide +kernel)
set_option maxRecDepth 20000 in
theorem gX0_hasSignatureOf_X1_byteAt : GoodIn wsX0_hasSignatureOf (wsV RX0 53 RX1 yX1_byteAt wsX1_byteAt) := goodIn_app (goodIn_of _ (by decide +kernel)) ggX0_hasSignatureOf_X1_byteAt
set_option maxRecDepth 20000 in
theorem ggX0_hasSignatureOf_X1_wordAt : GoodIn wsX0_hasSignatureOf wsX1_wordAt := goodIn_r _ [28, 14, 15, 44, 45] (by decide +kernel) (by decide +kernel)
set_option maxRecDepth 20000 in
theorem gX0_hasSignatureOf_X1_wordAt : GoodIn wsX0_hasSignatureOf (wsV RX0 126 RX1 yX1_wordAt wsX1_wordAt) := goodIn_app (goodIn_of _ (by decide +kernel)) ggX0_hasSignatureOf_X1_wordAt
theorem dX0_hasSignatureOf_0 : decode cX0_hasSignatureOf 0 = .ok (.aload_n 0, 1) := by decide +kernel
theorem dX0_hasSignatureOf_1 : decode cX0_hasSignatureOf 1 = .ok (.iload_n 1, 1) := by decide +kernel
theorem dX0_hasSignatureOf_2 : decode cX0_hasSignatureOf 2 = .ok (.invokevirtual 120, 3) := by decide +kernel
theorem dX0_hasSignatureOf_5 : decode cX0_hasSignatureOf 5 = .ok (.istore_n 2, 1) := by decide +kernel
theorem dX0_hasSignatureOf_6 : decode cX0_hasSignatureOf 6 = .ok (.aload_n 0, 1) := by decide +kernel
theorem dX0_hasSignatureOf_7 : decode cX0_hasSignatureOf 7 = .ok (.invokevirtual 123, 3) := by decide +kernel
theorem dX0_hasSignatureOf_10 : decode cX0_hasSignatureOf 10 = .ok (.istore_n 3, 1) := by decide +kernel
theorem dX0_hasSignatureOf_11 : decode cX0_hasSignatureOf 11 = .ok (.iconst 0, 1) := by decide +kernel
theorem dX0_hasSignatureOf_12 : decode cX0_hasSignatureOf 12 = .ok (.istore 4, 2) := by decide +kernel
theorem dX0_hasSignatureOf_14 : decode cX0_hasSignatureOf 14 = .ok (.iload 4, 2) := by decide +kernel
theorem dX0_hasSignatureOf_16 : decode cX0_hasSignatureOf 16 = .ok (.iload_n 3, 1) := by decide +kernel
theorem dX0_hasSignatureOf_17 : decode cX0_hasSignatureOf 17 = .ok (.if_icmp .ge 52, 3) := by decide +kernel
theorem dX0_hasSignatureOf_20 : decode cX0_hasSignatureOf 20 = .ok (.aload_n 0, 1) := by decide +kernel
theorem dX0_hasSignatureOf_21 : decode cX0_hasSignatureOf 21 = .ok (.getfield 50, 3) := by decide +kernel
theorem dX0_hasSignatureOf_24 : decode cX0_hasSignatureOf 24 = .ok (.iconst 1, 1) := by decide +kernel
theorem dX0_hasSignatureOf_25 : decode cX0_hasSignatureOf 25 = .ok (.iadd, 1) := by decide +kernel
theorem dX0_hasSignatureOf_26 : decode cX0_hasSignatureOf 26 = .ok (.iconst 5, 1) := by decide +kernel
theorem dX0_hasSignatureOf_27 : decode cX0_hasSignatureOf 27 = .ok (.iload 4, 2) := by decide +kernel
theorem dX0_hasSignatureOf_29 : decode cX0_hasSignatureOf 29 = .ok (.imul, 1) := by decide +kernel
theorem dX0_hasSignatureOf_30 : decode cX0_hasSignatureOf 30 = .ok (.iadd, 1) := by decide +kernel
theorem dX0_hasSignatureOf_31 : decode cX0_hasSignatureOf 31 = .ok (.istore 5, 2) := by decide +kernel
theorem dX0_hasSignatureOf_33 : decode cX0_hasSignatureOf 33 = .ok (.aload_n 0, 1) := by decide +kernel
theorem dX0_hasSignatureOf_34 : decode cX0_hasSignatureOf 34 = .ok (.getfield 14, 3) := by decide +kernel
theorem dX0_hasSignatureOf_37 : decode cX0_hasSignatureOf 37 = .ok (.iload 5, 2) := by decide +kernel
theorem dX0_hasSignatureOf_39 : decode cX0_hasSignatureOf 39 = .ok (.invokevirtual 53, 3) := by decide +kernel
theorem dX0_hasSignatureOf_42 : decode cX0_hasSignatureOf 42 = .ok (.iload_n 1, 1) := by decide +kernel
theorem dX0_hasSignatureOf_43 : decode cX0_hasSignatureOf 43 = .ok (.if_icmp .ne 20, 3) := by decide +kernel
theorem dX0_hasSignatureOf_46 : decode cX0_hasSignatureOf 46 = .ok (.aload_n 0, 1) := by decide +kernel
theorem dX0_hasSignatureOf_47 : decode cX0_hasSignatureOf 47 = .ok (.getfield 14, 3) := by decide +kernel
theorem dX0_hasSignatureOf_50 : decode cX0_hasSignatureOf 50 = .ok (.iload 5, 2) := by decide +kernel
theorem dX0_hasSignatureOf_52 : decode cX0_hasSignatureOf 52 = .ok (.iconst 1, 1) := by decide +kernel
theorem dX0_hasSignatureOf_53 : decode cX0_hasSignatureOf 53 = .ok (.iadd, 1) := by decide +kernel
theorem dX0_hasSignatureOf_54 : decode cX0_hasSignatureOf 54 = .ok (.invokevirtual 126, 3) := by decide +kernel
theorem dX0_hasSignatureOf_57 : decode cX0_hasSignatureOf 57 = .ok (.iload_n 2, 1) := by decide +kernel
theorem dX0_hasSignatureOf_58 : decode cX0_hasSignatureOf 58 = .ok (.if_icmp .ne 5, 3) := by decide +kernel
theorem dX0_hasSignatureOf_61 : decode cX0_hasSignatureOf 61 = .ok (.iconst 1, 1) := by decide +kernel
theorem dX0_hasSignatureOf_62 : decode cX0_hasSignatureOf 62 = .ok (.ireturn, 1) := by decide +kernel
theorem dX0_hasSignatureOf_63 : decode cX0_hasSignatureOf 63 = .ok (.iinc 4 1, 3) := by decide +kernel
theorem dX0_hasSignatureOf_66 : decode cX0_hasSignatureOf 66 = .ok (.goto (-52), 3) := by decide +kernel
theorem dX0_hasSignatureOf_69 : decode cX0_hasSignatureOf 69 = .ok (.iconst 0, 1) := by decide +kernel
theorem dX0_hasSignatureOf_70 : decode cX0_hasSignatureOf 70 = .ok (.ireturn, 1) := by decide +kernel
set_option maxRecDepth 20000 in
theorem ggX0_isSignedAsAsked_X1_byteAt : GoodIn wsX0_isSignedAsAsked wsX1_byteAt := goodIn_r _ [5, 6, 7, 33, 34] (by decide +kernel) (by decide +kernel)
set_option maxRecDepth 20000 in
theorem gX0_isSignedAsAsked_X1_byteAt : GoodIn wsX0_isSignedAsAsked (wsV RX0 53 RX1 yX1_byteAt wsX1_byteAt) := goodIn_app (goodIn_of _ (by decide +kernel)) ggX0_isSignedAsAsked_X1_byteAt
set_option maxRecDepth 20000 in
theorem ggX0_isSignedAsAsked_X0_hasSignatureOf : GoodIn wsX0_isSignedAsAsked wsX0_hasSignatureOf := goodIn_r _ [12, 13, 14, 15, 16, 17, 11, 18, 19, 20, 21, 4, 22, 23, 6, 7, 24, 25, 26, 27, 28, 1, 2, 3, 5, 29, 30, 31, 32, 35, 36, 37, 38, 39, 40, 41, 42, 43, 44, 45, 46, 47, 48, 49, 33, 34] (by decide +kernel) (by decide +kernel)
set_option maxRecDepth 20000 in
theorem gX0_isSignedAsAsked_X0_hasSignatureOf : GoodIn wsX0_isSignedAsAsked (wsV RX0 129 RX0 yX0_hasSignatureOf wsX0_hasSignatureOf) := goodIn_app (goodIn_of _ (by decide +kernel)) ggX0_isSignedAsAsked_X0_hasSignatureOf
theorem dX0_isSignedAsAsked_0 : decode cX0_isSignedAsAsked 0 = .ok (.aload_n 1, 1) := by decide +kernel
theorem dX0_isSignedAsAsked_1 : decode cX0_isSignedAsAsked 1 = .ok (.iload_n 2, 1) := by decide +kernel
theorem dX0_isSignedAsAsked_2 : decode cX0_isSignedAsAsked 2 = .ok (.invokevirtual 53, 3) := by decide +kernel
theorem dX0_isSignedAsAsked_5 : decode cX0_isSignedAsAsked 5 = .ok (.istore_n 3, 1) := by decide +kernel
theorem dX0_isSignedAsAsked_6 : decode cX0_isSignedAsAsked 6 = .ok (.aload_n 1, 1) := by decide +kernel
theorem dX0_isSignedAsAsked_7 : decode cX0_isSignedAsAsked 7 = .ok (.iload_n 2, 1) := by decide +kernel
theorem dX0_isSignedAsAsked_8 : decode cX0_isSignedAsAsked 8 = .ok (.iconst 1, 1) := by decide +kernel
theorem dX0_isSignedAsAsked_9 : decode cX0_isSignedAsAsked 9 = .ok (.iadd, 1) := by decide +kernel
theorem dX0_isSignedAsAsked_10 : decode cX0_isSignedAsAsked 10 = .ok (.invokevirtual 53, 3) := by decide +kernel
theorem dX0_isSignedAsAsked_13 : decode cX0_isSignedAsAsked 13 = .ok (.istore 4, 2) := by decide +kernel
theorem dX0_isSignedAsAsked_15 : decode cX0_isSignedAsAsked 15 = .ok (.iconst 0, 1) := by decide +kernel
theorem dX0_isSignedAsAsked_16 : decode cX0_isSignedAsAsked 16 = .ok (.istore 5, 2) := by decide +kernel
theorem dX0_isSignedAsAsked_18 : decode cX0_isSignedAsAsked 18 = .ok (.iconst 0, 1) := by decide +kernel
theorem dX0_isSignedAsAsked_19 : decode cX0_isSignedAsAsked 19 = .ok (.istore 6, 2) := by decide +kernel
theorem dX0_isSignedAsAsked_21 : decode cX0_isSignedAsAsked 21 = .ok (.iload 6, 2) := by decide +kernel
theorem dX0_isSignedAsAsked_23 : decode cX0_isSignedAsAsked 23 = .ok (.iload 4, 2) := by decide +kernel
theorem dX0_isSignedAsAsked_25 : decode cX0_isSignedAsAsked 25 = .ok (.if_icmp .ge 29, 3) := by decide +kernel
theorem dX0_isSignedAsAsked_28 : decode cX0_isSignedAsAsked 28 = .ok (.aload_n 0, 1) := by decide +kernel
theorem dX0_isSignedAsAsked_29 : decode cX0_isSignedAsAsked 29 = .ok (.aload_n 1, 1) := by decide +kernel
theorem dX0_isSignedAsAsked_30 : decode cX0_isSignedAsAsked 30 = .ok (.iload_n 2, 1) := by decide +kernel
theorem dX0_isSignedAsAsked_31 : decode cX0_isSignedAsAsked 31 = .ok (.iconst 2, 1) := by decide +kernel
theorem dX0_isSignedAsAsked_32 : decode cX0_isSignedAsAsked 32 = .ok (.iadd, 1) := by decide +kernel
theorem dX0_isSignedAsAsked_33 : decode cX0_isSignedAsAsked 33 = .ok (.iload 6, 2) := by decide +kernel
theorem dX0_isSignedAsAsked_35 : decode cX0_isSignedAsAsked 35 = .ok (.iadd, 1) := by decide +kernel
theorem dX0_isSignedAsAsked_36 : decode cX0_isSignedAsAsked 36 = .ok (.invokevirtual 53, 3) := by decide +kernel
theorem dX0_isSignedAsAsked_39 : decode cX0_isSignedAsAsked 39 = .ok (.invokevirtual 129, 3) := by decide +kernel
theorem dX0_isSignedAsAsked_42 : decode cX0_isSignedAsAsked 42 = .ok (.ifCond .eq 6, 3) := by decide +kernel
theorem dX0_isSignedAsAsked_45 : decode cX0_isSignedAsAsked 45 = .ok (.iinc 5 1, 3) := by decide +kernel
theorem dX0_isSignedAsAsked_48 : decode cX0_isSignedAsAsked 48 = .ok (.iinc 6 1, 3) := by decide +kernel
theorem dX0_isSignedAsAsked_51 : decode cX0_isSignedAsAsked 51 = .ok (.goto (-30), 3) := by decide +kernel
theorem dX0_isSignedAsAsked_54 : decode cX0_isSignedAsAsked 54 = .ok (.iload 5, 2) := by decide +kernel
theorem dX0_isSignedAsAsked_56 : decode cX0_isSignedAsAsked 56 = .ok (.iload_n 3, 1) := by decide +kernel
theorem dX0_isSignedAsAsked_57 : decode cX0_isSignedAsAsked 57 = .ok (.if_icmp .lt 7, 3) := by decide +kernel
theorem dX0_isSignedAsAsked_60 : decode cX0_isSignedAsAsked 60 = .ok (.iconst 1, 1) := by decide +kernel
theorem dX0_isSignedAsAsked_61 : decode cX0_isSignedAsAsked 61 = .ok (.goto 4, 3) := by decide +kernel
theorem dX0_isSignedAsAsked_64 : decode cX0_isSignedAsAsked 64 = .ok (.iconst 0, 1) := by decide +kernel
theorem dX0_isSignedAsAsked_65 : decode cX0_isSignedAsAsked 65 = .ok (.ireturn, 1) := by decide +kernel
set_option maxRecDepth 20000 in
theorem ggX0_rootVouchesFor_X0_isSignedAsAsked : GoodIn wsX0_rootVouchesFor wsX0_isSignedAsAsked := goodIn_r _ [7, 8, 9, 10, 11, 12, 13, 14, 15, 16, 17, 6, 18, 19, 1, 20, 21, 22, 23, 24, 25, 26, 27, 28, 29, 30, 31, 32, 33, 34, 35, 36, 37, 53, 54, 38, 39, 40, 41, 42, 43, 44, 45, 46, 47, 48, 49, 50, 51, 52] (by decide +kernel) (by decide +kernel)
set_option maxRecDepth 20000 in
theorem gX0_rootVouchesFor_X0_isSignedAsAsked : GoodIn wsX0_rootVouchesFor (wsV RX0 132 RX0 yX0_isSignedAsAsked wsX0_isSignedAsAsked) := goodIn_app (goodIn_of _ (by decide +kernel)) ggX0_rootVouchesFor_X0_isSignedAsAsked
theorem dX0_rootVouchesFor_0 : decode cX0_rootVouchesFor 0 = .ok (.iload_n 2, 1) := by decide +kernel
theorem dX0_rootVouchesFor_1 : decode cX0_rootVouchesFor 1 = .ok (.ifCond .lt 29, 3) := by decide +kernel
theorem dX0_rootVouchesFor_4 : decode cX0_rootVouchesFor 4 = .ok (.iload_n 2, 1) := by decide +kernel
theorem dX0_rootVouchesFor_5 : decode cX0_rootVouchesFor 5 = .ok (.iconst 4, 1) := by decide +kernel
theorem dX0_rootVouchesFor_6 : decode cX0_rootVouchesFor 6 = .ok (.if_icmp .ge 24, 3) := by decide +kernel
theorem dX0_rootVouchesFor_9 : decode cX0_rootVouchesFor 9 = .ok (.aload_n 1, 1) := by decide +kernel
theorem dX0_rootVouchesFor_10 : decode cX0_rootVouchesFor 10 = .ok (.aload_n 0, 1) := by decide +kernel
theorem dX0_rootVouchesFor_11 : decode cX0_rootVouchesFor 11 = .ok (.getfield 14, 3) := by decide +kernel
theorem dX0_rootVouchesFor_14 : decode cX0_rootVouchesFor 14 = .ok (.aload_n 0, 1) := by decide +kernel
theorem dX0_rootVouchesFor_15 : decode cX0_rootVouchesFor 15 = .ok (.getfield 20, 3) := by decide +kernel
theorem dX0_rootVouchesFor_18 : decode cX0_rootVouchesFor 18 = .ok (.iload_n 2, 1) := by decide +kernel
theorem dX0_rootVouchesFor_19 : decode cX0_rootVouchesFor 19 = .ok (.iaload, 1) := by decide +kernel
theorem dX0_rootVouchesFor_20 : decode cX0_rootVouchesFor 20 = .ok (.invokevirtual 132, 3) := by decide +kernel
theorem dX0_rootVouchesFor_23 : decode cX0_rootVouchesFor 23 = .ok (.ifCond .eq 7, 3) := by decide +kernel
theorem dX0_rootVouchesFor_26 : decode cX0_rootVouchesFor 26 = .ok (.iconst 1, 1) := by decide +kernel
theorem dX0_rootVouchesFor_27 : decode cX0_rootVouchesFor 27 = .ok (.goto 4, 3) := by decide +kernel
theorem dX0_rootVouchesFor_30 : decode cX0_rootVouchesFor 30 = .ok (.iconst 0, 1) := by decide +kernel
theorem dX0_rootVouchesFor_31 : decode cX0_rootVouchesFor 31 = .ok (.ireturn, 1) := by decide +kernel
set_option maxRecDepth 20000 in
theorem ggX0_hasKeySetOf_X1_byteAt : GoodIn wsX0_hasKeySetOf wsX1_byteAt := goodIn_r _ [7, 8, 9, 30, 31] (by decide +kernel) (by decide +kernel)
set_option maxRecDepth 20000 in
theorem gX0_hasKeySetOf_X1_byteAt : GoodIn wsX0_hasKeySetOf (wsV RX0 53 RX1 yX1_byteAt wsX1_byteAt) := goodIn_app (goodIn_of _ (by decide +kernel)) ggX0_hasKeySetOf_X1_byteAt
set_option maxRecDepth 20000 in
theorem ggX0_hasKeySetOf_X1_agrees : GoodIn wsX0_hasKeySetOf wsX1_agrees := goodIn_r _ [13, 14, 4, 5, 6, 7, 8, 9, 30, 31] (by decide +kernel) (by decide +kernel)
set_option maxRecDepth 20000 in
theorem gX0_hasKeySetOf_X1_agrees : GoodIn wsX0_hasKeySetOf (wsV RX0 110 RX1 yX1_agrees wsX1_agrees) := goodIn_app (goodIn_of _ (by decide +kernel)) ggX0_hasKeySetOf_X1_agrees
theorem dX0_hasKeySetOf_0 : decode cX0_hasKeySetOf 0 = .ok (.iload_n 2, 1) := by decide +kernel
theorem dX0_hasKeySetOf_1 : decode cX0_hasKeySetOf 1 = .ok (.ifCond .lt 8, 3) := by decide +kernel
theorem dX0_hasKeySetOf_4 : decode cX0_hasKeySetOf 4 = .ok (.iload_n 2, 1) := by decide +kernel
theorem dX0_hasKeySetOf_5 : decode cX0_hasKeySetOf 5 = .ok (.iconst 4, 1) := by decide +kernel
theorem dX0_hasKeySetOf_6 : decode cX0_hasKeySetOf 6 = .ok (.if_icmp .lt 5, 3) := by decide +kernel
theorem dX0_hasKeySetOf_9 : decode cX0_hasKeySetOf 9 = .ok (.iconst 0, 1) := by decide +kernel
theorem dX0_hasKeySetOf_10 : decode cX0_hasKeySetOf 10 = .ok (.ireturn, 1) := by decide +kernel
theorem dX0_hasKeySetOf_11 : decode cX0_hasKeySetOf 11 = .ok (.aload_n 0, 1) := by decide +kernel
theorem dX0_hasKeySetOf_12 : decode cX0_hasKeySetOf 12 = .ok (.getfield 20, 3) := by decide +kernel
theorem dX0_hasKeySetOf_15 : decode cX0_hasKeySetOf 15 = .ok (.iload_n 2, 1) := by decide +kernel
theorem dX0_hasKeySetOf_16 : decode cX0_hasKeySetOf 16 = .ok (.iaload, 1) := by decide +kernel
theorem dX0_hasKeySetOf_17 : decode cX0_hasKeySetOf 17 = .ok (.istore_n 3, 1) := by decide +kernel
theorem dX0_hasKeySetOf_18 : decode cX0_hasKeySetOf 18 = .ok (.aload_n 0, 1) := by decide +kernel
theorem dX0_hasKeySetOf_19 : decode cX0_hasKeySetOf 19 = .ok (.getfield 14, 3) := by decide +kernel
theorem dX0_hasKeySetOf_22 : decode cX0_hasKeySetOf 22 = .ok (.iload_n 3, 1) := by decide +kernel
theorem dX0_hasKeySetOf_23 : decode cX0_hasKeySetOf 23 = .ok (.aload_n 1, 1) := by decide +kernel
theorem dX0_hasKeySetOf_24 : decode cX0_hasKeySetOf 24 = .ok (.getfield 14, 3) := by decide +kernel
theorem dX0_hasKeySetOf_27 : decode cX0_hasKeySetOf 27 = .ok (.aload_n 1, 1) := by decide +kernel
theorem dX0_hasKeySetOf_28 : decode cX0_hasKeySetOf 28 = .ok (.getfield 20, 3) := by decide +kernel
theorem dX0_hasKeySetOf_31 : decode cX0_hasKeySetOf 31 = .ok (.iload_n 2, 1) := by decide +kernel
theorem dX0_hasKeySetOf_32 : decode cX0_hasKeySetOf 32 = .ok (.iaload, 1) := by decide +kernel
theorem dX0_hasKeySetOf_33 : decode cX0_hasKeySetOf 33 = .ok (.iconst 2, 1) := by decide +kernel
theorem dX0_hasKeySetOf_34 : decode cX0_hasKeySetOf 34 = .ok (.aload_n 0, 1) := by decide +kernel
theorem dX0_hasKeySetOf_35 : decode cX0_hasKeySetOf 35 = .ok (.getfield 14, 3) := by decide +kernel
theorem dX0_hasKeySetOf_38 : decode cX0_hasKeySetOf 38 = .ok (.iload_n 3, 1) := by decide +kernel
theorem dX0_hasKeySetOf_39 : decode cX0_hasKeySetOf 39 = .ok (.iconst 1, 1) := by decide +kernel
theorem dX0_hasKeySetOf_40 : decode cX0_hasKeySetOf 40 = .ok (.iadd, 1) := by decide +kernel
theorem dX0_hasKeySetOf_41 : decode cX0_hasKeySetOf 41 = .ok (.invokevirtual 53, 3) := by decide +kernel
theorem dX0_hasKeySetOf_44 : decode cX0_hasKeySetOf 44 = .ok (.iadd, 1) := by decide +kernel
theorem dX0_hasKeySetOf_45 : decode cX0_hasKeySetOf 45 = .ok (.invokevirtual 110, 3) := by decide +kernel
theorem dX0_hasKeySetOf_48 : decode cX0_hasKeySetOf 48 = .ok (.ireturn, 1) := by decide +kernel
set_option maxRecDepth 20000 in
theorem ggX0_stampedVersion_X1_byteAt : GoodIn wsX0_stampedVersion wsX1_byteAt := goodIn_r _ [6, 7, 8, 24, 25] (by decide +kernel) (by decide +kernel)
set_option maxRecDepth 20000 in
theorem gX0_stampedVersion_X1_byteAt : GoodIn wsX0_stampedVersion (wsV RX0 53 RX1 yX1_byteAt wsX1_byteAt) := goodIn_app (goodIn_of _ (by decide +kernel)) ggX0_stampedVersion_X1_byteAt
theorem dX0_stampedVersion_0 : decode cX0_stampedVersion 0 = .ok (.aload_n 0, 1) := by decide +kernel
theorem dX0_stampedVersion_1 : decode cX0_stampedVersion 1 = .ok (.getfield 14, 3) := by decide +kernel
theorem dX0_stampedVersion_4 : decode cX0_stampedVersion 4 = .ok (.iconst 4, 1) := by decide +kernel
theorem dX0_stampedVersion_5 : decode cX0_stampedVersion 5 = .ok (.invokevirtual 53, 3) := by decide +kernel
theorem dX0_stampedVersion_8 : decode cX0_stampedVersion 8 = .ok (.ireturn, 1) := by decide +kernel
set_option maxRecDepth 20000 in
theorem ggX0_stampedDigest_X1_wordAt : GoodIn wsX0_stampedDigest wsX1_wordAt := goodIn_r _ [6, 7, 8, 24, 25] (by decide +kernel) (by decide +kernel)
set_option maxRecDepth 20000 in
theorem gX0_stampedDigest_X1_wordAt : GoodIn wsX0_stampedDigest (wsV RX0 126 RX1 yX1_wordAt wsX1_wordAt) := goodIn_app (goodIn_of _ (by decide +kernel)) ggX0_stampedDigest_X1_wordAt
theorem dX0_stampedDigest_0 : decode cX0_stampedDigest 0 = .ok (.aload_n 0, 1) := by decide +kernel
theorem dX0_stampedDigest_1 : decode cX0_stampedDigest 1 = .ok (.getfield 14, 3) := by decide +kernel
theorem dX0_stampedDigest_4 : decode cX0_stampedDigest 4 = .ok (.iconst 5, 1) := by decide +kernel
theorem dX0_stampedDigest_5 : decode cX0_stampedDigest 5 = .ok (.invokevirtual 126, 3) := by decide +kernel
theorem dX0_stampedDigest_8 : decode cX0_stampedDigest 8 = .ok (.ireturn, 1) := by decide +kernel
theorem dX0_versionFor_0 : decode cX0_versionFor 0 = .ok (.iload_n 1, 1) := by decide +kernel
theorem dX0_versionFor_1 : decode cX0_versionFor 1 = .ok (.ifCond .lt 18, 3) := by decide +kernel
theorem dX0_versionFor_4 : decode cX0_versionFor 4 = .ok (.iload_n 1, 1) := by decide +kernel
theorem dX0_versionFor_5 : decode cX0_versionFor 5 = .ok (.bipush 6, 2) := by decide +kernel
theorem dX0_versionFor_7 : decode cX0_versionFor 7 = .ok (.if_icmp .gt 12, 3) := by decide +kernel
theorem dX0_versionFor_10 : decode cX0_versionFor 10 = .ok (.aload_n 0, 1) := by decide +kernel
theorem dX0_versionFor_11 : decode cX0_versionFor 11 = .ok (.getfield 24, 3) := by decide +kernel
theorem dX0_versionFor_14 : decode cX0_versionFor 14 = .ok (.iload_n 1, 1) := by decide +kernel
theorem dX0_versionFor_15 : decode cX0_versionFor 15 = .ok (.iaload, 1) := by decide +kernel
theorem dX0_versionFor_16 : decode cX0_versionFor 16 = .ok (.goto 4, 3) := by decide +kernel
theorem dX0_versionFor_19 : decode cX0_versionFor 19 = .ok (.iconst (-1), 1) := by decide +kernel
theorem dX0_versionFor_20 : decode cX0_versionFor 20 = .ok (.ireturn, 1) := by decide +kernel
set_option maxRecDepth 20000 in
theorem ggX0_targetNamed_X1_byteAt : GoodIn wsX0_targetNamed wsX1_byteAt := goodIn_r _ [8, 9, 10, 35, 36] (by decide +kernel) (by decide +kernel)
set_option maxRecDepth 20000 in
theorem gX0_targetNamed_X1_byteAt : GoodIn wsX0_targetNamed (wsV RX0 53 RX1 yX1_byteAt wsX1_byteAt) := goodIn_app (goodIn_of _ (by decide +kernel)) ggX0_targetNamed_X1_byteAt
set_option maxRecDepth 20000 in
theorem ggX0_targetNamed_X1_size : GoodIn wsX0_targetNamed wsX1_size := goodIn_r _ [14, 9, 35, 36] (by decide +kernel) (by decide +kernel)
set_option maxRecDepth 20000 in
theorem gX0_targetNamed_X1_size : GoodIn wsX0_targetNamed (wsV RX0 70 RX1 yX1_size wsX1_size) := goodIn_app (goodIn_of _ (by decide +kernel)) ggX0_targetNamed_X1_size
set_option maxRecDepth 20000 in
theorem ggX0_targetNamed_X1_agrees : GoodIn wsX0_targetNamed wsX1_agrees := goodIn_r _ [18, 19, 5, 6, 7, 8, 9, 10, 35, 36] (by decide +kernel) (by decide +kernel)
set_option maxRecDepth 20000 in
theorem gX0_targetNamed_X1_agrees : GoodIn wsX0_targetNamed (wsV RX0 110 RX1 yX1_agrees wsX1_agrees) := goodIn_app (goodIn_of _ (by decide +kernel)) ggX0_targetNamed_X1_agrees
theorem dX0_targetNamed_0 : decode cX0_targetNamed 0 = .ok (.iconst 0, 1) := by decide +kernel
theorem dX0_targetNamed_1 : decode cX0_targetNamed 1 = .ok (.istore_n 2, 1) := by decide +kernel
theorem dX0_targetNamed_2 : decode cX0_targetNamed 2 = .ok (.iload_n 2, 1) := by decide +kernel
theorem dX0_targetNamed_3 : decode cX0_targetNamed 3 = .ok (.aload_n 0, 1) := by decide +kernel
theorem dX0_targetNamed_4 : decode cX0_targetNamed 4 = .ok (.getfield 99, 3) := by decide +kernel
theorem dX0_targetNamed_7 : decode cX0_targetNamed 7 = .ok (.if_icmp .ge 59, 3) := by decide +kernel
theorem dX0_targetNamed_10 : decode cX0_targetNamed 10 = .ok (.aload_n 0, 1) := by decide +kernel
theorem dX0_targetNamed_11 : decode cX0_targetNamed 11 = .ok (.getfield 27, 3) := by decide +kernel
theorem dX0_targetNamed_14 : decode cX0_targetNamed 14 = .ok (.iload_n 2, 1) := by decide +kernel
theorem dX0_targetNamed_15 : decode cX0_targetNamed 15 = .ok (.iaload, 1) := by decide +kernel
theorem dX0_targetNamed_16 : decode cX0_targetNamed 16 = .ok (.istore_n 3, 1) := by decide +kernel
theorem dX0_targetNamed_17 : decode cX0_targetNamed 17 = .ok (.aload_n 0, 1) := by decide +kernel
theorem dX0_targetNamed_18 : decode cX0_targetNamed 18 = .ok (.getfield 14, 3) := by decide +kernel
theorem dX0_targetNamed_21 : decode cX0_targetNamed 21 = .ok (.iload_n 3, 1) := by decide +kernel
theorem dX0_targetNamed_22 : decode cX0_targetNamed 22 = .ok (.invokevirtual 53, 3) := by decide +kernel
theorem dX0_targetNamed_25 : decode cX0_targetNamed 25 = .ok (.aload_n 1, 1) := by decide +kernel
theorem dX0_targetNamed_26 : decode cX0_targetNamed 26 = .ok (.invokevirtual 70, 3) := by decide +kernel
theorem dX0_targetNamed_29 : decode cX0_targetNamed 29 = .ok (.if_icmp .ne 31, 3) := by decide +kernel
theorem dX0_targetNamed_32 : decode cX0_targetNamed 32 = .ok (.aload_n 1, 1) := by decide +kernel
theorem dX0_targetNamed_33 : decode cX0_targetNamed 33 = .ok (.iconst 0, 1) := by decide +kernel
theorem dX0_targetNamed_34 : decode cX0_targetNamed 34 = .ok (.aload_n 0, 1) := by decide +kernel
theorem dX0_targetNamed_35 : decode cX0_targetNamed 35 = .ok (.getfield 14, 3) := by decide +kernel
theorem dX0_targetNamed_38 : decode cX0_targetNamed 38 = .ok (.iload_n 3, 1) := by decide +kernel
theorem dX0_targetNamed_39 : decode cX0_targetNamed 39 = .ok (.iconst 1, 1) := by decide +kernel
theorem dX0_targetNamed_40 : decode cX0_targetNamed 40 = .ok (.iadd, 1) := by decide +kernel
theorem dX0_targetNamed_41 : decode cX0_targetNamed 41 = .ok (.aload_n 1, 1) := by decide +kernel
theorem dX0_targetNamed_42 : decode cX0_targetNamed 42 = .ok (.invokevirtual 70, 3) := by decide +kernel
theorem dX0_targetNamed_45 : decode cX0_targetNamed 45 = .ok (.invokevirtual 110, 3) := by decide +kernel
theorem dX0_targetNamed_48 : decode cX0_targetNamed 48 = .ok (.ifCond .eq 12, 3) := by decide +kernel
theorem dX0_targetNamed_51 : decode cX0_targetNamed 51 = .ok (.iload_n 3, 1) := by decide +kernel
theorem dX0_targetNamed_52 : decode cX0_targetNamed 52 = .ok (.iconst 1, 1) := by decide +kernel
theorem dX0_targetNamed_53 : decode cX0_targetNamed 53 = .ok (.iadd, 1) := by decide +kernel
theorem dX0_targetNamed_54 : decode cX0_targetNamed 54 = .ok (.aload_n 1, 1) := by decide +kernel
theorem dX0_targetNamed_55 : decode cX0_targetNamed 55 = .ok (.invokevirtual 70, 3) := by decide +kernel
theorem dX0_targetNamed_58 : decode cX0_targetNamed 58 = .ok (.iadd, 1) := by decide +kernel
theorem dX0_targetNamed_59 : decode cX0_targetNamed 59 = .ok (.ireturn, 1) := by decide +kernel
theorem dX0_targetNamed_60 : decode cX0_targetNamed 60 = .ok (.iinc 2 1, 3) := by decide +kernel
theorem dX0_targetNamed_63 : decode cX0_targetNamed 63 = .ok (.goto (-61), 3) := by decide +kernel
theorem dX0_targetNamed_66 : decode cX0_targetNamed 66 = .ok (.iconst (-1), 1) := by decide +kernel
theorem dX0_targetNamed_67 : decode cX0_targetNamed 67 = .ok (.ireturn, 1) := by decide +kernel
theorem dX0_delegationCount_0 : decode cX0_delegationCount 0 = .ok (.aload_n 0, 1) := by decide +kernel
theorem dX0_delegationCount_1 : decode cX0_delegationCount 1 = .ok (.getfield 114, 3) := by decide +kernel
theorem dX0_delegationCount_4 : decode cX0_delegationCount 4 = .ok (.ireturn, 1) := by decide +kernel
theorem dX0_delegationPlace_0 : decode cX0_delegationPlace 0 = .ok (.iload_n 1, 1) := by decide +kernel
theorem dX0_delegationPlace_1 : decode cX0_delegationPlace 1 = .ok (.ifCond .lt 20, 3) := by decide +kernel
theorem dX0_delegationPlace_4 : decode cX0_delegationPlace 4 = .ok (.iload_n 1, 1) := by decide +kernel
theorem dX0_delegationPlace_5 : decode cX0_delegationPlace 5 = .ok (.aload_n 0, 1) := by decide +kernel
theorem dX0_delegationPlace_6 : decode cX0_delegationPlace 6 = .ok (.getfield 114, 3) := by decide +kernel
theorem dX0_delegationPlace_9 : decode cX0_delegationPlace 9 = .ok (.if_icmp .ge 12, 3) := by decide +kernel
theorem dX0_delegationPlace_12 : decode cX0_delegationPlace 12 = .ok (.aload_n 0, 1) := by decide +kernel
theorem dX0_delegationPlace_13 : decode cX0_delegationPlace 13 = .ok (.getfield 30, 3) := by decide +kernel
theorem dX0_delegationPlace_16 : decode cX0_delegationPlace 16 = .ok (.iload_n 1, 1) := by decide +kernel
theorem dX0_delegationPlace_17 : decode cX0_delegationPlace 17 = .ok (.iaload, 1) := by decide +kernel
theorem dX0_delegationPlace_18 : decode cX0_delegationPlace 18 = .ok (.goto 4, 3) := by decide +kernel
theorem dX0_delegationPlace_21 : decode cX0_delegationPlace 21 = .ok (.iconst (-1), 1) := by decide +kernel
theorem dX0_delegationPlace_22 : decode cX0_delegationPlace 22 = .ok (.ireturn, 1) := by decide +kernel
set_option maxRecDepth 20000 in
theorem ggX0_delegateOf_X0_delegationPlace : GoodIn wsX0_delegateOf wsX0_delegationPlace := goodIn_r _ [6, 7, 8, 16, 17, 18, 19, 20, 21, 22, 23, 24, 25, 26, 27, 28, 29, 30] (by decide +kernel) (by decide +kernel)
set_option maxRecDepth 20000 in
theorem gX0_delegateOf_X0_delegationPlace : GoodIn wsX0_delegateOf (wsV RX0 136 RX0 yX0_delegationPlace wsX0_delegationPlace) := goodIn_app (goodIn_of _ (by decide +kernel)) ggX0_delegateOf_X0_delegationPlace
set_option maxRecDepth 20000 in
theorem ggX0_delegateOf_X1_byteAt : GoodIn wsX0_delegateOf wsX1_byteAt := goodIn_r _ [13, 14, 15, 31, 32] (by decide +kernel) (by decide +kernel)
set_option maxRecDepth 20000 in
theorem gX0_delegateOf_X1_byteAt : GoodIn wsX0_delegateOf (wsV RX0 53 RX1 yX1_byteAt wsX1_byteAt) := goodIn_app (goodIn_of _ (by decide +kernel)) ggX0_delegateOf_X1_byteAt
theorem dX0_delegateOf_0 : decode cX0_delegateOf 0 = .ok (.aload_n 0, 1) := by decide +kernel
theorem dX0_delegateOf_1 : decode cX0_delegateOf 1 = .ok (.getfield 14, 3) := by decide +kernel
theorem dX0_delegateOf_4 : decode cX0_delegateOf 4 = .ok (.aload_n 0, 1) := by decide +kernel
theorem dX0_delegateOf_5 : decode cX0_delegateOf 5 = .ok (.iload_n 1, 1) := by decide +kernel
theorem dX0_delegateOf_6 : decode cX0_delegateOf 6 = .ok (.invokevirtual 136, 3) := by decide +kernel
theorem dX0_delegateOf_9 : decode cX0_delegateOf 9 = .ok (.invokevirtual 53, 3) := by decide +kernel
theorem dX0_delegateOf_12 : decode cX0_delegateOf 12 = .ok (.ireturn, 1) := by decide +kernel
set_option maxRecDepth 20000 in
theorem ggX0_isFinal_X0_delegationPlace : GoodIn wsX0_isFinal wsX0_delegationPlace := goodIn_r _ [6, 7, 8, 16, 17, 18, 19, 20, 21, 22, 23, 24, 25, 26, 27, 28, 29, 30] (by decide +kernel) (by decide +kernel)
set_option maxRecDepth 20000 in
theorem gX0_isFinal_X0_delegationPlace : GoodIn wsX0_isFinal (wsV RX0 136 RX0 yX0_delegationPlace wsX0_delegationPlace) := goodIn_app (goodIn_of _ (by decide +kernel)) ggX0_isFinal_X0_delegationPlace
set_option maxRecDepth 20000 in
theorem ggX0_isFinal_X1_byteAt : GoodIn wsX0_isFinal wsX1_byteAt := goodIn_r _ [13, 14, 15, 31, 32] (by decide +kernel) (by decide +kernel)
set_option maxRecDepth 20000 in
theorem gX0_isFinal_X1_byteAt : GoodIn wsX0_isFinal (wsV RX0 53 RX1 yX1_byteAt wsX1_byteAt) := goodIn_app (goodIn_of _ (by decide +kernel)) ggX0_isFinal_X1_byteAt
theorem dX0_isFinal_0 : decode cX0_isFinal 0 = .ok (.aload_n 0, 1) := by decide +kernel
theorem dX0_isFinal_1 : decode cX0_isFinal 1 = .ok (.getfield 14, 3) := by decide +kernel
theorem dX0_isFinal_4 : decode cX0_isFinal 4 = .ok (.aload_n 0, 1) := by decide +kernel
theorem dX0_isFinal_5 : decode cX0_isFinal 5 = .ok (.iload_n 1, 1) := by decide +kernel
theorem dX0_isFinal_6 : decode cX0_isFinal 6 = .ok (.invokevirtual 136, 3) := by decide +kernel
theorem dX0_isFinal_9 : decode cX0_isFinal 9 = .ok (.iconst 1, 1) := by decide +kernel
theorem dX0_isFinal_10 : decode cX0_isFinal 10 = .ok (.iadd, 1) := by decide +kernel
theorem dX0_isFinal_11 : decode cX0_isFinal 11 = .ok (.invokevirtual 53, 3) := by decide +kernel
theorem dX0_isFinal_14 : decode cX0_isFinal 14 = .ok (.iconst 1, 1) := by decide +kernel
theorem dX0_isFinal_15 : decode cX0_isFinal 15 = .ok (.if_icmp .ne 7, 3) := by decide +kernel
theorem dX0_isFinal_18 : decode cX0_isFinal 18 = .ok (.iconst 1, 1) := by decide +kernel
theorem dX0_isFinal_19 : decode cX0_isFinal 19 = .ok (.goto 4, 3) := by decide +kernel
theorem dX0_isFinal_22 : decode cX0_isFinal 22 = .ok (.iconst 0, 1) := by decide +kernel
theorem dX0_isFinal_23 : decode cX0_isFinal 23 = .ok (.ireturn, 1) := by decide +kernel
set_option maxRecDepth 20000 in
theorem ggX0_delegatedKeySet_X0_delegationPlace : GoodIn wsX0_delegatedKeySet wsX0_delegationPlace := goodIn_r _ [5, 6, 7, 8, 9, 10, 11, 12, 13, 14, 15, 16, 17, 18, 19, 20, 21, 22] (by decide +kernel) (by decide +kernel)
set_option maxRecDepth 20000 in
theorem gX0_delegatedKeySet_X0_delegationPlace : GoodIn wsX0_delegatedKeySet (wsV RX0 136 RX0 yX0_delegationPlace wsX0_delegationPlace) := goodIn_app (goodIn_of _ (by decide +kernel)) ggX0_delegatedKeySet_X0_delegationPlace
theorem dX0_delegatedKeySet_0 : decode cX0_delegatedKeySet 0 = .ok (.aload_n 0, 1) := by decide +kernel
theorem dX0_delegatedKeySet_1 : decode cX0_delegatedKeySet 1 = .ok (.iload_n 1, 1) := by decide +kernel
theorem dX0_delegatedKeySet_2 : decode cX0_delegatedKeySet 2 = .ok (.invokevirtual 136, 3) := by decide +kernel
theorem dX0_delegatedKeySet_5 : decode cX0_delegatedKeySet 5 = .ok (.iconst 2, 1) := by decide +kernel
theorem dX0_delegatedKeySet_6 : decode cX0_delegatedKeySet 6 = .ok (.iadd, 1) := by decide +kernel
theorem dX0_delegatedKeySet_7 : decode cX0_delegatedKeySet 7 = .ok (.ireturn, 1) := by decide +kernel
set_option maxRecDepth 20000 in
theorem ggX0_delegates_X0_delegatedKeySet : GoodIn wsX0_delegates wsX0_delegatedKeySet := goodIn_r _ [6, 7, 8, 9, 5, 10, 11, 12, 25, 26, 27, 28, 29, 30, 31, 32, 33, 34, 35, 36, 37, 38, 39] (by decide +kernel) (by decide +kernel)
set_option maxRecDepth 20000 in
theorem gX0_delegates_X0_delegatedKeySet : GoodIn wsX0_delegates (wsV RX0 139 RX0 yX0_delegatedKeySet wsX0_delegatedKeySet) := goodIn_app (goodIn_of _ (by decide +kernel)) ggX0_delegates_X0_delegatedKeySet
set_option maxRecDepth 20000 in
theorem ggX0_delegates_X1_byteAt : GoodIn wsX0_delegates wsX1_byteAt := goodIn_r _ [17, 18, 19, 40, 41] (by decide +kernel) (by decide +kernel)
set_option maxRecDepth 20000 in
theorem gX0_delegates_X1_byteAt : GoodIn wsX0_delegates (wsV RX0 53 RX1 yX1_byteAt wsX1_byteAt) := goodIn_app (goodIn_of _ (by decide +kernel)) ggX0_delegates_X1_byteAt
set_option maxRecDepth 20000 in
theorem ggX0_delegates_X1_agrees : GoodIn wsX0_delegates wsX1_agrees := goodIn_r _ [23, 24, 14, 15, 16, 17, 18, 19, 40, 41] (by decide +kernel) (by decide +kernel)
set_option maxRecDepth 20000 in
theorem gX0_delegates_X1_agrees : GoodIn wsX0_delegates (wsV RX0 110 RX1 yX1_agrees wsX1_agrees) := goodIn_app (goodIn_of _ (by decide +kernel)) ggX0_delegates_X1_agrees
theorem dX0_delegates_0 : decode cX0_delegates 0 = .ok (.aload_n 0, 1) := by decide +kernel
theorem dX0_delegates_1 : decode cX0_delegates 1 = .ok (.iload_n 1, 1) := by decide +kernel
theorem dX0_delegates_2 : decode cX0_delegates 2 = .ok (.invokevirtual 139, 3) := by decide +kernel
theorem dX0_delegates_5 : decode cX0_delegates 5 = .ok (.istore_n 3, 1) := by decide +kernel
theorem dX0_delegates_6 : decode cX0_delegates 6 = .ok (.iload_n 3, 1) := by decide +kernel
theorem dX0_delegates_7 : decode cX0_delegates 7 = .ok (.iconst 2, 1) := by decide +kernel
theorem dX0_delegates_8 : decode cX0_delegates 8 = .ok (.iadd, 1) := by decide +kernel
theorem dX0_delegates_9 : decode cX0_delegates 9 = .ok (.aload_n 0, 1) := by decide +kernel
theorem dX0_delegates_10 : decode cX0_delegates 10 = .ok (.getfield 14, 3) := by decide +kernel
theorem dX0_delegates_13 : decode cX0_delegates 13 = .ok (.iload_n 3, 1) := by decide +kernel
theorem dX0_delegates_14 : decode cX0_delegates 14 = .ok (.iconst 1, 1) := by decide +kernel
theorem dX0_delegates_15 : decode cX0_delegates 15 = .ok (.iadd, 1) := by decide +kernel
