theorem dX3_findsVersionsRight_92 : decode cX3_findsVersionsRight 92 = .ok (.aload_n 1, 1) := by decide +kernel
theorem dX3_findsVersionsRight_93 : decode cX3_findsVersionsRight 93 = .ok (.invokevirtual 67, 3) := by decide +kernel
theorem dX3_findsVersionsRight_96 : decode cX3_findsVersionsRight 96 = .ok (.invokevirtual 49, 3) := by decide +kernel
theorem dX3_findsVersionsRight_99 : decode cX3_findsVersionsRight 99 = .ok (.if_icmp .ne 7, 3) := by decide +kernel
theorem dX3_findsVersionsRight_102 : decode cX3_findsVersionsRight 102 = .ok (.iconst 1, 1) := by decide +kernel
theorem dX3_findsVersionsRight_103 : decode cX3_findsVersionsRight 103 = .ok (.goto 4, 3) := by decide +kernel
theorem dX3_findsVersionsRight_106 : decode cX3_findsVersionsRight 106 = .ok (.iconst 0, 1) := by decide +kernel
theorem dX3_findsVersionsRight_107 : decode cX3_findsVersionsRight 107 = .ok (.ireturn, 1) := by decide +kernel
set_option maxRecDepth 20000 in
theorem ggX3_isNoOlderStamp_X3_documentOf : GoodIn wsX3_isNoOlderStamp wsX3_documentOf := goodIn_r _ [5, 6, 7, 31, 32, 33] (by decide +kernel) (by decide +kernel)
set_option maxRecDepth 20000 in
theorem gX3_isNoOlderStamp_X3_documentOf : GoodIn wsX3_isNoOlderStamp (wsV RX3 30 RX3 yX3_documentOf wsX3_documentOf) := goodIn_app (goodIn_of _ (by decide +kernel)) ggX3_isNoOlderStamp_X3_documentOf
set_option maxRecDepth 20000 in
theorem ggX3_isNoOlderStamp_X0_isWhole : GoodIn wsX3_isNoOlderStamp wsX0_isWhole := goodIn_r _ [12, 13, 34, 35, 36, 37, 38, 39, 40, 41, 42, 43, 44, 45, 46, 47, 48] (by decide +kernel) (by decide +kernel)
set_option maxRecDepth 20000 in
theorem gX3_isNoOlderStamp_X0_isWhole : GoodIn wsX3_isNoOlderStamp (wsV RX3 34 RX0 yX0_isWhole wsX0_isWhole) := goodIn_app (goodIn_of _ (by decide +kernel)) ggX3_isNoOlderStamp_X0_isWhole
set_option maxRecDepth 20000 in
theorem ggX3_isNoOlderStamp_X0_version : GoodIn wsX3_isNoOlderStamp wsX0_version := goodIn_r _ [17, 18, 34, 35, 36, 37, 38, 39, 40, 41, 42, 43, 44, 45, 46, 47, 48] (by decide +kernel) (by decide +kernel)
set_option maxRecDepth 20000 in
theorem gX3_isNoOlderStamp_X0_version : GoodIn wsX3_isNoOlderStamp (wsV RX3 46 RX0 yX0_version wsX0_version) := goodIn_app (goodIn_of _ (by decide +kernel)) ggX3_isNoOlderStamp_X0_version
set_option maxRecDepth 20000 in
theorem ggX3_isNoOlderStamp_X0_stampedVersion : GoodIn wsX3_isNoOlderStamp wsX0_stampedVersion := goodIn_r _ [22, 23, 24, 25, 26, 27, 28, 29, 30, 34, 35, 36, 37, 38, 39, 40, 41, 42, 43, 44, 45, 46, 47, 48, 49, 50] (by decide +kernel) (by decide +kernel)
set_option maxRecDepth 20000 in
theorem gX3_isNoOlderStamp_X0_stampedVersion : GoodIn wsX3_isNoOlderStamp (wsV RX3 83 RX0 yX0_stampedVersion wsX0_stampedVersion) := goodIn_app (goodIn_of _ (by decide +kernel)) ggX3_isNoOlderStamp_X0_stampedVersion
theorem dX3_isNoOlderStamp_0 : decode cX3_isNoOlderStamp 0 = .ok (.aload_n 0, 1) := by decide +kernel
theorem dX3_isNoOlderStamp_1 : decode cX3_isNoOlderStamp 1 = .ok (.iconst 1, 1) := by decide +kernel
theorem dX3_isNoOlderStamp_2 : decode cX3_isNoOlderStamp 2 = .ok (.invokevirtual 30, 3) := by decide +kernel
theorem dX3_isNoOlderStamp_5 : decode cX3_isNoOlderStamp 5 = .ok (.astore_n 2, 1) := by decide +kernel
theorem dX3_isNoOlderStamp_6 : decode cX3_isNoOlderStamp 6 = .ok (.aload_n 2, 1) := by decide +kernel
theorem dX3_isNoOlderStamp_7 : decode cX3_isNoOlderStamp 7 = .ok (.invokevirtual 34, 3) := by decide +kernel
theorem dX3_isNoOlderStamp_10 : decode cX3_isNoOlderStamp 10 = .ok (.ifCond .eq 25, 3) := by decide +kernel
theorem dX3_isNoOlderStamp_13 : decode cX3_isNoOlderStamp 13 = .ok (.aload_n 1, 1) := by decide +kernel
theorem dX3_isNoOlderStamp_14 : decode cX3_isNoOlderStamp 14 = .ok (.invokevirtual 46, 3) := by decide +kernel
theorem dX3_isNoOlderStamp_17 : decode cX3_isNoOlderStamp 17 = .ok (.aload_n 2, 1) := by decide +kernel
theorem dX3_isNoOlderStamp_18 : decode cX3_isNoOlderStamp 18 = .ok (.invokevirtual 46, 3) := by decide +kernel
theorem dX3_isNoOlderStamp_21 : decode cX3_isNoOlderStamp 21 = .ok (.if_icmp .lt 18, 3) := by decide +kernel
theorem dX3_isNoOlderStamp_24 : decode cX3_isNoOlderStamp 24 = .ok (.aload_n 1, 1) := by decide +kernel
theorem dX3_isNoOlderStamp_25 : decode cX3_isNoOlderStamp 25 = .ok (.invokevirtual 83, 3) := by decide +kernel
theorem dX3_isNoOlderStamp_28 : decode cX3_isNoOlderStamp 28 = .ok (.aload_n 2, 1) := by decide +kernel
theorem dX3_isNoOlderStamp_29 : decode cX3_isNoOlderStamp 29 = .ok (.invokevirtual 83, 3) := by decide +kernel
theorem dX3_isNoOlderStamp_32 : decode cX3_isNoOlderStamp 32 = .ok (.if_icmp .lt 7, 3) := by decide +kernel
theorem dX3_isNoOlderStamp_35 : decode cX3_isNoOlderStamp 35 = .ok (.iconst 1, 1) := by decide +kernel
theorem dX3_isNoOlderStamp_36 : decode cX3_isNoOlderStamp 36 = .ok (.goto 4, 3) := by decide +kernel
theorem dX3_isNoOlderStamp_39 : decode cX3_isNoOlderStamp 39 = .ok (.iconst 0, 1) := by decide +kernel
theorem dX3_isNoOlderStamp_40 : decode cX3_isNoOlderStamp 40 = .ok (.ireturn, 1) := by decide +kernel
set_option maxRecDepth 20000 in
theorem ggX3_isAsStamped_X3_documentOf : GoodIn wsX3_isAsStamped wsX3_documentOf := goodIn_r _ [5, 6, 7, 48, 49, 50] (by decide +kernel) (by decide +kernel)
set_option maxRecDepth 20000 in
theorem gX3_isAsStamped_X3_documentOf : GoodIn wsX3_isAsStamped (wsV RX3 30 RX3 yX3_documentOf wsX3_documentOf) := goodIn_app (goodIn_of _ (by decide +kernel)) ggX3_isAsStamped_X3_documentOf
set_option maxRecDepth 20000 in
theorem ggX3_isAsStamped_X0_version : GoodIn wsX3_isAsStamped wsX0_version := goodIn_r _ [12, 13, 51, 52, 53, 54, 55, 56, 57, 58, 59, 60, 61, 62, 63, 64, 65] (by decide +kernel) (by decide +kernel)
set_option maxRecDepth 20000 in
theorem gX3_isAsStamped_X0_version : GoodIn wsX3_isAsStamped (wsV RX3 46 RX0 yX0_version wsX0_version) := goodIn_app (goodIn_of _ (by decide +kernel)) ggX3_isAsStamped_X0_version
set_option maxRecDepth 20000 in
theorem ggX3_isAsStamped_X0_stampedVersion : GoodIn wsX3_isAsStamped wsX0_stampedVersion := goodIn_r _ [17, 18, 19, 20, 21, 22, 23, 24, 25, 51, 52, 53, 54, 55, 56, 57, 58, 59, 60, 61, 62, 63, 64, 65, 66, 67] (by decide +kernel) (by decide +kernel)
set_option maxRecDepth 20000 in
theorem gX3_isAsStamped_X0_stampedVersion : GoodIn wsX3_isAsStamped (wsV RX3 83 RX0 yX0_stampedVersion wsX0_stampedVersion) := goodIn_app (goodIn_of _ (by decide +kernel)) ggX3_isAsStamped_X0_stampedVersion
set_option maxRecDepth 20000 in
theorem ggX3_isAsStamped_X0_row : GoodIn wsX3_isAsStamped wsX0_row := goodIn_r _ [29, 18, 51, 52, 53, 54, 55, 56, 57, 58, 59, 60, 61, 62, 63, 64, 65] (by decide +kernel) (by decide +kernel)
set_option maxRecDepth 20000 in
theorem gX3_isAsStamped_X0_row : GoodIn wsX3_isAsStamped (wsV RX3 59 RX0 yX0_row wsX0_row) := goodIn_app (goodIn_of _ (by decide +kernel)) ggX3_isAsStamped_X0_row
set_option maxRecDepth 20000 in
theorem ggX3_isAsStamped_X1_wholeDigest : GoodIn wsX3_isAsStamped wsX1_wholeDigest := goodIn_r _ [33, 24, 34, 35, 36, 22, 37, 38, 25, 39, 66, 67] (by decide +kernel) (by decide +kernel)
set_option maxRecDepth 20000 in
theorem gX3_isAsStamped_X1_wholeDigest : GoodIn wsX3_isAsStamped (wsV RX3 86 RX1 yX1_wholeDigest wsX1_wholeDigest) := goodIn_app (goodIn_of _ (by decide +kernel)) ggX3_isAsStamped_X1_wholeDigest
set_option maxRecDepth 20000 in
theorem ggX3_isAsStamped_X0_stampedDigest : GoodIn wsX3_isAsStamped wsX0_stampedDigest := goodIn_r _ [43, 18, 44, 45, 46, 22, 47, 24, 25, 51, 52, 53, 54, 55, 56, 57, 58, 59, 60, 61, 62, 63, 64, 65, 66, 67] (by decide +kernel) (by decide +kernel)
set_option maxRecDepth 20000 in
theorem gX3_isAsStamped_X0_stampedDigest : GoodIn wsX3_isAsStamped (wsV RX3 91 RX0 yX0_stampedDigest wsX0_stampedDigest) := goodIn_app (goodIn_of _ (by decide +kernel)) ggX3_isAsStamped_X0_stampedDigest
theorem dX3_isAsStamped_0 : decode cX3_isAsStamped 0 = .ok (.aload_n 0, 1) := by decide +kernel
theorem dX3_isAsStamped_1 : decode cX3_isAsStamped 1 = .ok (.iconst 1, 1) := by decide +kernel
theorem dX3_isAsStamped_2 : decode cX3_isAsStamped 2 = .ok (.invokevirtual 30, 3) := by decide +kernel
theorem dX3_isAsStamped_5 : decode cX3_isAsStamped 5 = .ok (.astore_n 2, 1) := by decide +kernel
theorem dX3_isAsStamped_6 : decode cX3_isAsStamped 6 = .ok (.aload_n 1, 1) := by decide +kernel
theorem dX3_isAsStamped_7 : decode cX3_isAsStamped 7 = .ok (.invokevirtual 46, 3) := by decide +kernel
theorem dX3_isAsStamped_10 : decode cX3_isAsStamped 10 = .ok (.aload_n 2, 1) := by decide +kernel
theorem dX3_isAsStamped_11 : decode cX3_isAsStamped 11 = .ok (.invokevirtual 83, 3) := by decide +kernel
theorem dX3_isAsStamped_14 : decode cX3_isAsStamped 14 = .ok (.if_icmp .ne 21, 3) := by decide +kernel
theorem dX3_isAsStamped_17 : decode cX3_isAsStamped 17 = .ok (.aload_n 1, 1) := by decide +kernel
theorem dX3_isAsStamped_18 : decode cX3_isAsStamped 18 = .ok (.invokevirtual 59, 3) := by decide +kernel
theorem dX3_isAsStamped_21 : decode cX3_isAsStamped 21 = .ok (.invokevirtual 86, 3) := by decide +kernel
theorem dX3_isAsStamped_24 : decode cX3_isAsStamped 24 = .ok (.aload_n 2, 1) := by decide +kernel
theorem dX3_isAsStamped_25 : decode cX3_isAsStamped 25 = .ok (.invokevirtual 91, 3) := by decide +kernel
theorem dX3_isAsStamped_28 : decode cX3_isAsStamped 28 = .ok (.if_icmp .ne 7, 3) := by decide +kernel
theorem dX3_isAsStamped_31 : decode cX3_isAsStamped 31 = .ok (.iconst 1, 1) := by decide +kernel
theorem dX3_isAsStamped_32 : decode cX3_isAsStamped 32 = .ok (.goto 4, 3) := by decide +kernel
theorem dX3_isAsStamped_35 : decode cX3_isAsStamped 35 = .ok (.iconst 0, 1) := by decide +kernel
theorem dX3_isAsStamped_36 : decode cX3_isAsStamped 36 = .ok (.ireturn, 1) := by decide +kernel
set_option maxRecDepth 20000 in
theorem ggX3_isNoOlderSnapshot_X3_documentOf : GoodIn wsX3_isNoOlderSnapshot wsX3_documentOf := goodIn_r _ [5, 6, 7, 19, 20, 21] (by decide +kernel) (by decide +kernel)
set_option maxRecDepth 20000 in
theorem gX3_isNoOlderSnapshot_X3_documentOf : GoodIn wsX3_isNoOlderSnapshot (wsV RX3 30 RX3 yX3_documentOf wsX3_documentOf) := goodIn_app (goodIn_of _ (by decide +kernel)) ggX3_isNoOlderSnapshot_X3_documentOf
set_option maxRecDepth 20000 in
theorem ggX3_isNoOlderSnapshot_X0_isWhole : GoodIn wsX3_isNoOlderSnapshot wsX0_isWhole := goodIn_r _ [12, 13, 22, 23, 24, 25, 26, 27, 28, 29, 30, 31, 32, 33, 34, 35, 36] (by decide +kernel) (by decide +kernel)
set_option maxRecDepth 20000 in
theorem gX3_isNoOlderSnapshot_X0_isWhole : GoodIn wsX3_isNoOlderSnapshot (wsV RX3 34 RX0 yX0_isWhole wsX0_isWhole) := goodIn_app (goodIn_of _ (by decide +kernel)) ggX3_isNoOlderSnapshot_X0_isWhole
set_option maxRecDepth 20000 in
theorem ggX3_isNoOlderSnapshot_X0_versionFor : GoodIn wsX3_isNoOlderSnapshot wsX0_versionFor := goodIn_r _ [17, 18, 22, 23, 24, 25, 26, 27, 28, 29, 30, 31, 32, 33, 34, 35, 36] (by decide +kernel) (by decide +kernel)
set_option maxRecDepth 20000 in
theorem gX3_isNoOlderSnapshot_X0_versionFor : GoodIn wsX3_isNoOlderSnapshot (wsV RX3 49 RX0 yX0_versionFor wsX0_versionFor) := goodIn_app (goodIn_of _ (by decide +kernel)) ggX3_isNoOlderSnapshot_X0_versionFor
theorem dX3_isNoOlderSnapshot_0 : decode cX3_isNoOlderSnapshot 0 = .ok (.aload_n 0, 1) := by decide +kernel
theorem dX3_isNoOlderSnapshot_1 : decode cX3_isNoOlderSnapshot 1 = .ok (.iconst 2, 1) := by decide +kernel
theorem dX3_isNoOlderSnapshot_2 : decode cX3_isNoOlderSnapshot 2 = .ok (.invokevirtual 30, 3) := by decide +kernel
theorem dX3_isNoOlderSnapshot_5 : decode cX3_isNoOlderSnapshot 5 = .ok (.astore_n 2, 1) := by decide +kernel
theorem dX3_isNoOlderSnapshot_6 : decode cX3_isNoOlderSnapshot 6 = .ok (.aload_n 2, 1) := by decide +kernel
theorem dX3_isNoOlderSnapshot_7 : decode cX3_isNoOlderSnapshot 7 = .ok (.invokevirtual 34, 3) := by decide +kernel
theorem dX3_isNoOlderSnapshot_10 : decode cX3_isNoOlderSnapshot 10 = .ok (.ifCond .ne 5, 3) := by decide +kernel
theorem dX3_isNoOlderSnapshot_13 : decode cX3_isNoOlderSnapshot 13 = .ok (.iconst 1, 1) := by decide +kernel
theorem dX3_isNoOlderSnapshot_14 : decode cX3_isNoOlderSnapshot 14 = .ok (.ireturn, 1) := by decide +kernel
theorem dX3_isNoOlderSnapshot_15 : decode cX3_isNoOlderSnapshot 15 = .ok (.iconst 3, 1) := by decide +kernel
theorem dX3_isNoOlderSnapshot_16 : decode cX3_isNoOlderSnapshot 16 = .ok (.istore_n 3, 1) := by decide +kernel
theorem dX3_isNoOlderSnapshot_17 : decode cX3_isNoOlderSnapshot 17 = .ok (.iload_n 3, 1) := by decide +kernel
theorem dX3_isNoOlderSnapshot_18 : decode cX3_isNoOlderSnapshot 18 = .ok (.bipush 6, 2) := by decide +kernel
theorem dX3_isNoOlderSnapshot_20 : decode cX3_isNoOlderSnapshot 20 = .ok (.if_icmp .gt 24, 3) := by decide +kernel
theorem dX3_isNoOlderSnapshot_23 : decode cX3_isNoOlderSnapshot 23 = .ok (.aload_n 1, 1) := by decide +kernel
theorem dX3_isNoOlderSnapshot_24 : decode cX3_isNoOlderSnapshot 24 = .ok (.iload_n 3, 1) := by decide +kernel
theorem dX3_isNoOlderSnapshot_25 : decode cX3_isNoOlderSnapshot 25 = .ok (.invokevirtual 49, 3) := by decide +kernel
theorem dX3_isNoOlderSnapshot_28 : decode cX3_isNoOlderSnapshot 28 = .ok (.aload_n 2, 1) := by decide +kernel
theorem dX3_isNoOlderSnapshot_29 : decode cX3_isNoOlderSnapshot 29 = .ok (.iload_n 3, 1) := by decide +kernel
theorem dX3_isNoOlderSnapshot_30 : decode cX3_isNoOlderSnapshot 30 = .ok (.invokevirtual 49, 3) := by decide +kernel
theorem dX3_isNoOlderSnapshot_33 : decode cX3_isNoOlderSnapshot 33 = .ok (.if_icmp .ge 5, 3) := by decide +kernel
theorem dX3_isNoOlderSnapshot_36 : decode cX3_isNoOlderSnapshot 36 = .ok (.iconst 0, 1) := by decide +kernel
theorem dX3_isNoOlderSnapshot_37 : decode cX3_isNoOlderSnapshot 37 = .ok (.ireturn, 1) := by decide +kernel
theorem dX3_isNoOlderSnapshot_38 : decode cX3_isNoOlderSnapshot 38 = .ok (.iinc 3 1, 3) := by decide +kernel
theorem dX3_isNoOlderSnapshot_41 : decode cX3_isNoOlderSnapshot 41 = .ok (.goto (-24), 3) := by decide +kernel
theorem dX3_isNoOlderSnapshot_44 : decode cX3_isNoOlderSnapshot 44 = .ok (.iconst 1, 1) := by decide +kernel
theorem dX3_isNoOlderSnapshot_45 : decode cX3_isNoOlderSnapshot 45 = .ok (.ireturn, 1) := by decide +kernel
set_option maxRecDepth 20000 in
theorem ggX3_take_X0_role : GoodIn wsX3_take wsX0_role := goodIn_r _ [5, 6, 116, 117, 118, 119, 120, 121, 122, 123, 124, 125, 126, 127, 128, 129, 130] (by decide +kernel) (by decide +kernel)
set_option maxRecDepth 20000 in
theorem gX3_take_X0_role : GoodIn wsX3_take (wsV RX3 67 RX0 yX0_role wsX0_role) := goodIn_app (goodIn_of _ (by decide +kernel)) ggX3_take_X0_role
set_option maxRecDepth 20000 in
theorem ggX3_take_X3_changesOnlineKeys : GoodIn wsX3_take wsX3_changesOnlineKeys := goodIn_r _ [11, 12, 13, 14, 10, 15, 16, 17, 18, 19, 20, 4, 21, 22, 23, 24, 25, 26, 27, 28, 29, 30, 31, 32, 33, 34, 35, 131, 132, 133, 116, 117, 118, 119, 120, 121, 122, 123, 124, 125, 126, 127, 128, 129, 130, 134, 135] (by decide +kernel) (by decide +kernel)
set_option maxRecDepth 20000 in
theorem gX3_take_X3_changesOnlineKeys : GoodIn wsX3_take (wsV RX3 94 RX3 yX3_changesOnlineKeys wsX3_changesOnlineKeys) := goodIn_app (goodIn_of _ (by decide +kernel)) ggX3_take_X3_changesOnlineKeys
set_option maxRecDepth 20000 in
theorem ggX3_take_X3_documentOf : GoodIn wsX3_take wsX3_documentOf := goodIn_r _ [15, 16, 17, 131, 132, 133] (by decide +kernel) (by decide +kernel)
set_option maxRecDepth 20000 in
theorem gX3_take_X3_documentOf : GoodIn wsX3_take (wsV RX3 30 RX3 yX3_documentOf wsX3_documentOf) := goodIn_app (goodIn_of _ (by decide +kernel)) ggX3_take_X3_documentOf
set_option maxRecDepth 20000 in
theorem ggX3_take_X0_clear : GoodIn wsX3_take wsX0_clear := goodIn_r _ [39, 40, 116, 117, 118, 119, 120, 121, 122, 123, 124, 125, 126, 127, 128, 129, 130] (by decide +kernel) (by decide +kernel)
set_option maxRecDepth 20000 in
theorem gX3_take_X0_clear : GoodIn wsX3_take (wsV RX3 56 RX0 yX0_clear wsX0_clear) := goodIn_app (goodIn_of _ (by decide +kernel)) ggX3_take_X0_clear
set_option maxRecDepth 20000 in
theorem ggX3_take_X0_row : GoodIn wsX3_take wsX0_row := goodIn_r _ [44, 23, 116, 117, 118, 119, 120, 121, 122, 123, 124, 125, 126, 127, 128, 129, 130] (by decide +kernel) (by decide +kernel)
set_option maxRecDepth 20000 in
theorem gX3_take_X0_row : GoodIn wsX3_take (wsV RX3 59 RX0 yX0_row wsX0_row) := goodIn_app (goodIn_of _ (by decide +kernel)) ggX3_take_X0_row
set_option maxRecDepth 20000 in
theorem ggX3_take_X0_read : GoodIn wsX3_take wsX0_read := goodIn_r _ [48, 23, 49, 50, 51, 52, 40, 53, 54, 55, 27, 56, 29, 30, 57, 58, 59, 60, 61, 62, 63, 4, 64, 6, 65, 66, 67, 68, 69, 70, 24, 25, 26, 28, 71, 72, 73, 74, 22, 75, 76, 77, 78, 79, 80, 81, 82, 83, 84, 85, 86, 87, 88, 89, 90, 91, 92, 93, 94, 95, 96, 97, 98, 99, 100, 101, 31, 32, 33, 34, 35, 102, 103, 104, 105, 106, 107, 108, 109, 110, 111, 112, 113, 114, 115, 116, 117, 118, 119, 120, 121, 122, 123, 124, 125, 126, 127, 128, 129, 130, 134, 135] (by decide +kernel) (by decide +kernel)
set_option maxRecDepth 20000 in
theorem gX3_take_X0_read : GoodIn wsX3_take (wsV RX3 63 RX0 yX0_read wsX0_read) := goodIn_app (goodIn_of _ (by decide +kernel)) ggX3_take_X0_read
theorem dX3_take_0 : decode cX3_take 0 = .ok (.aload_n 1, 1) := by decide +kernel
theorem dX3_take_1 : decode cX3_take 1 = .ok (.invokevirtual 67, 3) := by decide +kernel
theorem dX3_take_4 : decode cX3_take 4 = .ok (.ifCond .ne 27, 3) := by decide +kernel
theorem dX3_take_7 : decode cX3_take 7 = .ok (.aload_n 0, 1) := by decide +kernel
theorem dX3_take_8 : decode cX3_take 8 = .ok (.aload_n 1, 1) := by decide +kernel
theorem dX3_take_9 : decode cX3_take 9 = .ok (.invokevirtual 94, 3) := by decide +kernel
theorem dX3_take_12 : decode cX3_take 12 = .ok (.ifCond .eq 19, 3) := by decide +kernel
theorem dX3_take_15 : decode cX3_take 15 = .ok (.aload_n 0, 1) := by decide +kernel
theorem dX3_take_16 : decode cX3_take 16 = .ok (.iconst 1, 1) := by decide +kernel
theorem dX3_take_17 : decode cX3_take 17 = .ok (.invokevirtual 30, 3) := by decide +kernel
theorem dX3_take_20 : decode cX3_take 20 = .ok (.invokevirtual 56, 3) := by decide +kernel
theorem dX3_take_23 : decode cX3_take 23 = .ok (.aload_n 0, 1) := by decide +kernel
theorem dX3_take_24 : decode cX3_take 24 = .ok (.iconst 2, 1) := by decide +kernel
theorem dX3_take_25 : decode cX3_take 25 = .ok (.invokevirtual 30, 3) := by decide +kernel
theorem dX3_take_28 : decode cX3_take 28 = .ok (.invokevirtual 56, 3) := by decide +kernel
theorem dX3_take_31 : decode cX3_take 31 = .ok (.aload_n 0, 1) := by decide +kernel
theorem dX3_take_32 : decode cX3_take 32 = .ok (.aload_n 1, 1) := by decide +kernel
theorem dX3_take_33 : decode cX3_take 33 = .ok (.invokevirtual 67, 3) := by decide +kernel
theorem dX3_take_36 : decode cX3_take 36 = .ok (.invokevirtual 30, 3) := by decide +kernel
theorem dX3_take_39 : decode cX3_take 39 = .ok (.aload_n 1, 1) := by decide +kernel
theorem dX3_take_40 : decode cX3_take 40 = .ok (.invokevirtual 59, 3) := by decide +kernel
theorem dX3_take_43 : decode cX3_take 43 = .ok (.invokevirtual 63, 3) := by decide +kernel
theorem dX3_take_46 : decode cX3_take 46 = .ok (.return_, 1) := by decide +kernel
set_option maxRecDepth 20000 in
theorem ggX3_changesOnlineKeys_X3_documentOf : GoodIn wsX3_changesOnlineKeys wsX3_documentOf := goodIn_r _ [5, 6, 7, 27, 28, 29] (by decide +kernel) (by decide +kernel)
set_option maxRecDepth 20000 in
theorem gX3_changesOnlineKeys_X3_documentOf : GoodIn wsX3_changesOnlineKeys (wsV RX3 30 RX3 yX3_documentOf wsX3_documentOf) := goodIn_app (goodIn_of _ (by decide +kernel)) ggX3_changesOnlineKeys_X3_documentOf
set_option maxRecDepth 20000 in
theorem ggX3_changesOnlineKeys_X0_hasKeySetOf : GoodIn wsX3_changesOnlineKeys wsX0_hasKeySetOf := goodIn_r _ [12, 13, 14, 15, 16, 17, 18, 19, 20, 21, 22, 23, 24, 25, 26, 30, 31, 32, 33, 34, 35, 36, 37, 38, 39, 40, 41, 42, 43, 44, 45, 46] (by decide +kernel) (by decide +kernel)
set_option maxRecDepth 20000 in
theorem gX3_changesOnlineKeys_X0_hasKeySetOf : GoodIn wsX3_changesOnlineKeys (wsV RX3 97 RX0 yX0_hasKeySetOf wsX0_hasKeySetOf) := goodIn_app (goodIn_of _ (by decide +kernel)) ggX3_changesOnlineKeys_X0_hasKeySetOf
theorem dX3_changesOnlineKeys_0 : decode cX3_changesOnlineKeys 0 = .ok (.aload_n 0, 1) := by decide +kernel
theorem dX3_changesOnlineKeys_1 : decode cX3_changesOnlineKeys 1 = .ok (.iconst 0, 1) := by decide +kernel
theorem dX3_changesOnlineKeys_2 : decode cX3_changesOnlineKeys 2 = .ok (.invokevirtual 30, 3) := by decide +kernel
theorem dX3_changesOnlineKeys_5 : decode cX3_changesOnlineKeys 5 = .ok (.astore_n 2, 1) := by decide +kernel
theorem dX3_changesOnlineKeys_6 : decode cX3_changesOnlineKeys 6 = .ok (.aload_n 2, 1) := by decide +kernel
theorem dX3_changesOnlineKeys_7 : decode cX3_changesOnlineKeys 7 = .ok (.aload_n 1, 1) := by decide +kernel
theorem dX3_changesOnlineKeys_8 : decode cX3_changesOnlineKeys 8 = .ok (.iconst 1, 1) := by decide +kernel
theorem dX3_changesOnlineKeys_9 : decode cX3_changesOnlineKeys 9 = .ok (.invokevirtual 97, 3) := by decide +kernel
theorem dX3_changesOnlineKeys_12 : decode cX3_changesOnlineKeys 12 = .ok (.ifCond .eq 12, 3) := by decide +kernel
theorem dX3_changesOnlineKeys_15 : decode cX3_changesOnlineKeys 15 = .ok (.aload_n 2, 1) := by decide +kernel
theorem dX3_changesOnlineKeys_16 : decode cX3_changesOnlineKeys 16 = .ok (.aload_n 1, 1) := by decide +kernel
theorem dX3_changesOnlineKeys_17 : decode cX3_changesOnlineKeys 17 = .ok (.iconst 2, 1) := by decide +kernel
theorem dX3_changesOnlineKeys_18 : decode cX3_changesOnlineKeys 18 = .ok (.invokevirtual 97, 3) := by decide +kernel
theorem dX3_changesOnlineKeys_21 : decode cX3_changesOnlineKeys 21 = .ok (.ifCond .ne 7, 3) := by decide +kernel
theorem dX3_changesOnlineKeys_24 : decode cX3_changesOnlineKeys 24 = .ok (.iconst 1, 1) := by decide +kernel
theorem dX3_changesOnlineKeys_25 : decode cX3_changesOnlineKeys 25 = .ok (.goto 4, 3) := by decide +kernel
theorem dX3_changesOnlineKeys_28 : decode cX3_changesOnlineKeys 28 = .ok (.iconst 0, 1) := by decide +kernel
theorem dX3_changesOnlineKeys_29 : decode cX3_changesOnlineKeys 29 = .ok (.ireturn, 1) := by decide +kernel
set_option maxRecDepth 20000 in
theorem ggX4_init_X1_init : GoodIn wsX4_init wsX1_init := goodIn_r _ [23, 24, 2, 3, 25, 26, 54, 55] (by decide +kernel) (by decide +kernel)
set_option maxRecDepth 20000 in
theorem gX4_init_X1_init : GoodIn wsX4_init (wsX1_init) := ggX4_init_X1_init
set_option maxRecDepth 20000 in
theorem ggX4_init_X0_init : GoodIn wsX4_init wsX0_init := goodIn_r _ [29, 30, 2, 3, 31, 5, 6, 32, 25, 33, 34, 35, 36, 37, 22, 23, 24, 26, 54, 55, 63, 64, 65, 66, 67, 68, 69, 70, 71, 72, 73, 74, 75, 76, 77] (by decide +kernel) (by decide +kernel)
set_option maxRecDepth 20000 in
theorem gX4_init_X0_init : GoodIn wsX4_init (wsX0_init) := ggX4_init_X0_init
set_option maxRecDepth 20000 in
theorem ggX4_init_X3_init : GoodIn wsX4_init wsX3_init := goodIn_r _ [40, 41, 2, 3, 42, 10, 11, 43, 44, 45, 28, 29, 30, 31, 5, 6, 32, 25, 33, 34, 35, 36, 37, 22, 23, 24, 26, 63, 64, 65, 66, 67, 68, 69, 70, 71, 72, 73, 74, 75, 76, 77, 78, 79, 80, 54, 55] (by decide +kernel) (by decide +kernel)
set_option maxRecDepth 20000 in
theorem gX4_init_X3_init : GoodIn wsX4_init (wsX3_init) := ggX4_init_X3_init
set_option maxRecDepth 20000 in
theorem ggX4_init_X2_init : GoodIn wsX4_init wsX2_init := goodIn_r _ [48, 49, 2, 3, 50, 51, 5, 6, 52, 53, 22, 23, 24, 25, 26, 81, 82, 83, 84, 85, 86, 87, 54, 55] (by decide +kernel) (by decide +kernel)
set_option maxRecDepth 20000 in
theorem gX4_init_X2_init : GoodIn wsX4_init (wsX2_init) := ggX4_init_X2_init
theorem dX4_init_0 : decode cX4_init 0 = .ok (.aload_n 0, 1) := by decide +kernel
theorem dX4_init_1 : decode cX4_init 1 = .ok (.invokespecial 3, 3) := by decide +kernel
theorem dX4_init_4 : decode cX4_init 4 = .ok (.aload_n 0, 1) := by decide +kernel
theorem dX4_init_5 : decode cX4_init 5 = .ok (.new 9, 3) := by decide +kernel
theorem dX4_init_8 : decode cX4_init 8 = .ok (.dup, 1) := by decide +kernel
theorem dX4_init_9 : decode cX4_init 9 = .ok (.bipush 120, 2) := by decide +kernel
theorem dX4_init_11 : decode cX4_init 11 = .ok (.invokespecial 11, 3) := by decide +kernel
theorem dX4_init_14 : decode cX4_init 14 = .ok (.putfield 14, 3) := by decide +kernel
theorem dX4_init_17 : decode cX4_init 17 = .ok (.aload_n 0, 1) := by decide +kernel
theorem dX4_init_18 : decode cX4_init 18 = .ok (.new 9, 3) := by decide +kernel
theorem dX4_init_21 : decode cX4_init 21 = .ok (.dup, 1) := by decide +kernel
theorem dX4_init_22 : decode cX4_init 22 = .ok (.bipush 120, 2) := by decide +kernel
theorem dX4_init_24 : decode cX4_init 24 = .ok (.invokespecial 11, 3) := by decide +kernel
theorem dX4_init_27 : decode cX4_init 27 = .ok (.putfield 18, 3) := by decide +kernel
theorem dX4_init_30 : decode cX4_init 30 = .ok (.aload_n 0, 1) := by decide +kernel
theorem dX4_init_31 : decode cX4_init 31 = .ok (.new 21, 3) := by decide +kernel
theorem dX4_init_34 : decode cX4_init 34 = .ok (.dup, 1) := by decide +kernel
theorem dX4_init_35 : decode cX4_init 35 = .ok (.invokespecial 23, 3) := by decide +kernel
theorem dX4_init_38 : decode cX4_init 38 = .ok (.putfield 24, 3) := by decide +kernel
theorem dX4_init_41 : decode cX4_init 41 = .ok (.aload_n 0, 1) := by decide +kernel
theorem dX4_init_42 : decode cX4_init 42 = .ok (.new 28, 3) := by decide +kernel
theorem dX4_init_45 : decode cX4_init 45 = .ok (.dup, 1) := by decide +kernel
theorem dX4_init_46 : decode cX4_init 46 = .ok (.invokespecial 30, 3) := by decide +kernel
theorem dX4_init_49 : decode cX4_init 49 = .ok (.putfield 31, 3) := by decide +kernel
theorem dX4_init_52 : decode cX4_init 52 = .ok (.aload_n 0, 1) := by decide +kernel
theorem dX4_init_53 : decode cX4_init 53 = .ok (.new 35, 3) := by decide +kernel
theorem dX4_init_56 : decode cX4_init 56 = .ok (.dup, 1) := by decide +kernel
theorem dX4_init_57 : decode cX4_init 57 = .ok (.aload_n 0, 1) := by decide +kernel
theorem dX4_init_58 : decode cX4_init 58 = .ok (.getfield 31, 3) := by decide +kernel
theorem dX4_init_61 : decode cX4_init 61 = .ok (.invokespecial 37, 3) := by decide +kernel
theorem dX4_init_64 : decode cX4_init 64 = .ok (.putfield 40, 3) := by decide +kernel
theorem dX4_init_67 : decode cX4_init 67 = .ok (.return_, 1) := by decide +kernel
set_option maxRecDepth 20000 in
theorem ggX4_put_X1_hasRoomFor : GoodIn wsX4_put wsX1_hasRoomFor := goodIn_r _ [6, 7, 8, 24, 25] (by decide +kernel) (by decide +kernel)
set_option maxRecDepth 20000 in
theorem gX4_put_X1_hasRoomFor : GoodIn wsX4_put (wsV RX4 44 RX1 yX1_hasRoomFor wsX1_hasRoomFor) := goodIn_app (goodIn_of _ (by decide +kernel)) ggX4_put_X1_hasRoomFor
set_option maxRecDepth 20000 in
theorem ggX4_put_X1_appendLowest : GoodIn wsX4_put wsX1_appendLowest := goodIn_r _ [12, 13, 14, 15, 5, 16, 8, 7, 24, 25] (by decide +kernel) (by decide +kernel)
set_option maxRecDepth 20000 in
theorem gX4_put_X1_appendLowest : GoodIn wsX4_put (wsV RX4 48 RX1 yX1_appendLowest wsX1_appendLowest) := goodIn_app (goodIn_of _ (by decide +kernel)) ggX4_put_X1_appendLowest
theorem dX4_put_0 : decode cX4_put 0 = .ok (.iload_n 3, 1) := by decide +kernel
theorem dX4_put_1 : decode cX4_put 1 = .ok (.iconst 1, 1) := by decide +kernel
theorem dX4_put_2 : decode cX4_put 2 = .ok (.if_icmp .lt 20, 3) := by decide +kernel
theorem dX4_put_5 : decode cX4_put 5 = .ok (.iload_n 3, 1) := by decide +kernel
theorem dX4_put_6 : decode cX4_put 6 = .ok (.bipush 8, 2) := by decide +kernel
theorem dX4_put_8 : decode cX4_put 8 = .ok (.if_icmp .gt 14, 3) := by decide +kernel
theorem dX4_put_11 : decode cX4_put 11 = .ok (.aload_n 0, 1) := by decide +kernel
theorem dX4_put_12 : decode cX4_put 12 = .ok (.getfield 14, 3) := by decide +kernel
theorem dX4_put_15 : decode cX4_put 15 = .ok (.iload_n 3, 1) := by decide +kernel
theorem dX4_put_16 : decode cX4_put 16 = .ok (.invokevirtual 44, 3) := by decide +kernel
theorem dX4_put_19 : decode cX4_put 19 = .ok (.ifCond .ne 5, 3) := by decide +kernel
theorem dX4_put_22 : decode cX4_put 22 = .ok (.iconst 0, 1) := by decide +kernel
theorem dX4_put_23 : decode cX4_put 23 = .ok (.ireturn, 1) := by decide +kernel
theorem dX4_put_24 : decode cX4_put 24 = .ok (.aload_n 0, 1) := by decide +kernel
theorem dX4_put_25 : decode cX4_put 25 = .ok (.getfield 14, 3) := by decide +kernel
theorem dX4_put_28 : decode cX4_put 28 = .ok (.lload_n 1, 1) := by decide +kernel
theorem dX4_put_29 : decode cX4_put 29 = .ok (.iload_n 3, 1) := by decide +kernel
theorem dX4_put_30 : decode cX4_put 30 = .ok (.invokevirtual 48, 3) := by decide +kernel
theorem dX4_put_33 : decode cX4_put 33 = .ok (.iconst 1, 1) := by decide +kernel
theorem dX4_put_34 : decode cX4_put 34 = .ok (.ireturn, 1) := by decide +kernel
set_option maxRecDepth 20000 in
theorem ggX4_cut_X1_size : GoodIn wsX4_cut wsX1_size := goodIn_r _ [6, 7, 19, 20] (by decide +kernel) (by decide +kernel)
set_option maxRecDepth 20000 in
theorem gX4_cut_X1_size : GoodIn wsX4_cut (wsV RX4 52 RX1 yX1_size wsX1_size) := goodIn_app (goodIn_of _ (by decide +kernel)) ggX4_cut_X1_size
set_option maxRecDepth 20000 in
theorem ggX4_cut_X1_keepFirst : GoodIn wsX4_cut wsX1_keepFirst := goodIn_r _ [11, 7, 19, 20] (by decide +kernel) (by decide +kernel)
set_option maxRecDepth 20000 in
theorem gX4_cut_X1_keepFirst : GoodIn wsX4_cut (wsV RX4 56 RX1 yX1_keepFirst wsX1_keepFirst) := goodIn_app (goodIn_of _ (by decide +kernel)) ggX4_cut_X1_keepFirst
theorem dX4_cut_0 : decode cX4_cut 0 = .ok (.iload_n 1, 1) := by decide +kernel
theorem dX4_cut_1 : decode cX4_cut 1 = .ok (.ifCond .lt 14, 3) := by decide +kernel
theorem dX4_cut_4 : decode cX4_cut 4 = .ok (.iload_n 1, 1) := by decide +kernel
theorem dX4_cut_5 : decode cX4_cut 5 = .ok (.aload_n 0, 1) := by decide +kernel
theorem dX4_cut_6 : decode cX4_cut 6 = .ok (.getfield 14, 3) := by decide +kernel
theorem dX4_cut_9 : decode cX4_cut 9 = .ok (.invokevirtual 52, 3) := by decide +kernel
theorem dX4_cut_12 : decode cX4_cut 12 = .ok (.if_icmp .le 5, 3) := by decide +kernel
theorem dX4_cut_15 : decode cX4_cut 15 = .ok (.iconst 0, 1) := by decide +kernel
theorem dX4_cut_16 : decode cX4_cut 16 = .ok (.ireturn, 1) := by decide +kernel
theorem dX4_cut_17 : decode cX4_cut 17 = .ok (.aload_n 0, 1) := by decide +kernel
theorem dX4_cut_18 : decode cX4_cut 18 = .ok (.getfield 14, 3) := by decide +kernel
theorem dX4_cut_21 : decode cX4_cut 21 = .ok (.iload_n 1, 1) := by decide +kernel
theorem dX4_cut_22 : decode cX4_cut 22 = .ok (.invokevirtual 56, 3) := by decide +kernel
theorem dX4_cut_25 : decode cX4_cut 25 = .ok (.iconst 1, 1) := by decide +kernel
theorem dX4_cut_26 : decode cX4_cut 26 = .ok (.ireturn, 1) := by decide +kernel
set_option maxRecDepth 20000 in
theorem ggX4_alter_X1_has : GoodIn wsX4_alter wsX1_has := goodIn_r _ [6, 7, 20, 21] (by decide +kernel) (by decide +kernel)
set_option maxRecDepth 20000 in
theorem gX4_alter_X1_has : GoodIn wsX4_alter (wsV RX4 59 RX1 yX1_has wsX1_has) := goodIn_app (goodIn_of _ (by decide +kernel)) ggX4_alter_X1_has
set_option maxRecDepth 20000 in
theorem ggX4_alter_X1_replace : GoodIn wsX4_alter wsX1_replace := goodIn_r _ [11, 7, 12, 20, 21] (by decide +kernel) (by decide +kernel)
set_option maxRecDepth 20000 in
theorem gX4_alter_X1_replace : GoodIn wsX4_alter (wsV RX4 62 RX1 yX1_replace wsX1_replace) := goodIn_app (goodIn_of _ (by decide +kernel)) ggX4_alter_X1_replace
theorem dX4_alter_0 : decode cX4_alter 0 = .ok (.aload_n 0, 1) := by decide +kernel
theorem dX4_alter_1 : decode cX4_alter 1 = .ok (.getfield 14, 3) := by decide +kernel
theorem dX4_alter_4 : decode cX4_alter 4 = .ok (.iload_n 1, 1) := by decide +kernel
theorem dX4_alter_5 : decode cX4_alter 5 = .ok (.invokevirtual 59, 3) := by decide +kernel
theorem dX4_alter_8 : decode cX4_alter 8 = .ok (.ifCond .ne 5, 3) := by decide +kernel
theorem dX4_alter_11 : decode cX4_alter 11 = .ok (.iconst 0, 1) := by decide +kernel
theorem dX4_alter_12 : decode cX4_alter 12 = .ok (.ireturn, 1) := by decide +kernel
theorem dX4_alter_13 : decode cX4_alter 13 = .ok (.aload_n 0, 1) := by decide +kernel
theorem dX4_alter_14 : decode cX4_alter 14 = .ok (.getfield 14, 3) := by decide +kernel
theorem dX4_alter_17 : decode cX4_alter 17 = .ok (.iload_n 1, 1) := by decide +kernel
theorem dX4_alter_18 : decode cX4_alter 18 = .ok (.iload_n 2, 1) := by decide +kernel
theorem dX4_alter_19 : decode cX4_alter 19 = .ok (.invokevirtual 62, 3) := by decide +kernel
theorem dX4_alter_22 : decode cX4_alter 22 = .ok (.iconst 1, 1) := by decide +kernel
theorem dX4_alter_23 : decode cX4_alter 23 = .ok (.ireturn, 1) := by decide +kernel
set_option maxRecDepth 20000 in
theorem ggX4_length_X1_size : GoodIn wsX4_length wsX1_size := goodIn_r _ [6, 7, 15, 16] (by decide +kernel) (by decide +kernel)
set_option maxRecDepth 20000 in
theorem gX4_length_X1_size : GoodIn wsX4_length (wsV RX4 52 RX1 yX1_size wsX1_size) := goodIn_app (goodIn_of _ (by decide +kernel)) ggX4_length_X1_size
theorem dX4_length_0 : decode cX4_length 0 = .ok (.aload_n 0, 1) := by decide +kernel
theorem dX4_length_1 : decode cX4_length 1 = .ok (.getfield 14, 3) := by decide +kernel
theorem dX4_length_4 : decode cX4_length 4 = .ok (.invokevirtual 52, 3) := by decide +kernel
theorem dX4_length_7 : decode cX4_length 7 = .ok (.ireturn, 1) := by decide +kernel
set_option maxRecDepth 20000 in
theorem ggX4_at_X1_has : GoodIn wsX4_at wsX1_has := goodIn_r _ [8, 9, 22, 23] (by decide +kernel) (by decide +kernel)
set_option maxRecDepth 20000 in
theorem gX4_at_X1_has : GoodIn wsX4_at (wsV RX4 59 RX1 yX1_has wsX1_has) := goodIn_app (goodIn_of _ (by decide +kernel)) ggX4_at_X1_has
set_option maxRecDepth 20000 in
theorem ggX4_at_X1_byteAt : GoodIn wsX4_at wsX1_byteAt := goodIn_r _ [13, 9, 14, 22, 23] (by decide +kernel) (by decide +kernel)
set_option maxRecDepth 20000 in
theorem gX4_at_X1_byteAt : GoodIn wsX4_at (wsV RX4 69 RX1 yX1_byteAt wsX1_byteAt) := goodIn_app (goodIn_of _ (by decide +kernel)) ggX4_at_X1_byteAt
theorem dX4_at_0 : decode cX4_at 0 = .ok (.aload_n 0, 1) := by decide +kernel
theorem dX4_at_1 : decode cX4_at 1 = .ok (.getfield 14, 3) := by decide +kernel
theorem dX4_at_4 : decode cX4_at 4 = .ok (.iload_n 1, 1) := by decide +kernel
theorem dX4_at_5 : decode cX4_at 5 = .ok (.invokevirtual 59, 3) := by decide +kernel
theorem dX4_at_8 : decode cX4_at 8 = .ok (.ifCond .ne 11, 3) := by decide +kernel
theorem dX4_at_11 : decode cX4_at 11 = .ok (.new 66, 3) := by decide +kernel
theorem dX4_at_14 : decode cX4_at 14 = .ok (.dup, 1) := by decide +kernel
theorem dX4_at_15 : decode cX4_at 15 = .ok (.invokespecial 68, 3) := by decide +kernel
theorem dX4_at_18 : decode cX4_at 18 = .ok (.athrow, 1) := by decide +kernel
theorem dX4_at_19 : decode cX4_at 19 = .ok (.aload_n 0, 1) := by decide +kernel
theorem dX4_at_20 : decode cX4_at 20 = .ok (.getfield 14, 3) := by decide +kernel
theorem dX4_at_23 : decode cX4_at 23 = .ok (.iload_n 1, 1) := by decide +kernel
theorem dX4_at_24 : decode cX4_at 24 = .ok (.invokevirtual 69, 3) := by decide +kernel
theorem dX4_at_27 : decode cX4_at 27 = .ok (.ireturn, 1) := by decide +kernel
set_option maxRecDepth 20000 in
theorem ggX4_mix_X1_size : GoodIn wsX4_mix wsX1_size := goodIn_r _ [6, 7, 22, 23] (by decide +kernel) (by decide +kernel)
set_option maxRecDepth 20000 in
theorem gX4_mix_X1_size : GoodIn wsX4_mix (wsV RX4 52 RX1 yX1_size wsX1_size) := goodIn_app (goodIn_of _ (by decide +kernel)) ggX4_mix_X1_size
set_option maxRecDepth 20000 in
theorem ggX4_mix_X1_mixOfFirst : GoodIn wsX4_mix wsX1_mixOfFirst := goodIn_r _ [11, 12, 7, 13, 14, 22, 23] (by decide +kernel) (by decide +kernel)
set_option maxRecDepth 20000 in
theorem gX4_mix_X1_mixOfFirst : GoodIn wsX4_mix (wsV RX4 73 RX1 yX1_mixOfFirst wsX1_mixOfFirst) := goodIn_app (goodIn_of _ (by decide +kernel)) ggX4_mix_X1_mixOfFirst
theorem dX4_mix_0 : decode cX4_mix 0 = .ok (.aload_n 0, 1) := by decide +kernel
theorem dX4_mix_1 : decode cX4_mix 1 = .ok (.getfield 14, 3) := by decide +kernel
theorem dX4_mix_4 : decode cX4_mix 4 = .ok (.aload_n 0, 1) := by decide +kernel
theorem dX4_mix_5 : decode cX4_mix 5 = .ok (.getfield 14, 3) := by decide +kernel
theorem dX4_mix_8 : decode cX4_mix 8 = .ok (.invokevirtual 52, 3) := by decide +kernel
theorem dX4_mix_11 : decode cX4_mix 11 = .ok (.iload_n 1, 1) := by decide +kernel
theorem dX4_mix_12 : decode cX4_mix 12 = .ok (.invokevirtual 73, 3) := by decide +kernel
theorem dX4_mix_15 : decode cX4_mix 15 = .ok (.ireturn, 1) := by decide +kernel
set_option maxRecDepth 20000 in
theorem ggX4_digest_X1_hasRoomFor : GoodIn wsX4_digest wsX1_hasRoomFor := goodIn_r _ [7, 8, 9, 35, 36] (by decide +kernel) (by decide +kernel)
set_option maxRecDepth 20000 in
theorem gX4_digest_X1_hasRoomFor : GoodIn wsX4_digest (wsV RX4 44 RX1 yX1_hasRoomFor wsX1_hasRoomFor) := goodIn_app (goodIn_of _ (by decide +kernel)) ggX4_digest_X1_hasRoomFor
set_option maxRecDepth 20000 in
theorem ggX4_digest_X1_wholeDigest : GoodIn wsX4_digest wsX1_wholeDigest := goodIn_r _ [13, 9, 14, 15, 16, 6, 17, 18, 8, 19, 35, 36] (by decide +kernel) (by decide +kernel)
set_option maxRecDepth 20000 in
theorem gX4_digest_X1_wholeDigest : GoodIn wsX4_digest (wsV RX4 77 RX1 yX1_wholeDigest wsX1_wholeDigest) := goodIn_app (goodIn_of _ (by decide +kernel)) ggX4_digest_X1_wholeDigest
set_option maxRecDepth 20000 in
theorem ggX4_digest_X1_appendWord : GoodIn wsX4_digest wsX1_appendWord := goodIn_r _ [23, 24, 25, 26, 6, 27, 9, 8, 35, 36] (by decide +kernel) (by decide +kernel)
set_option maxRecDepth 20000 in
theorem gX4_digest_X1_appendWord : GoodIn wsX4_digest (wsV RX4 80 RX1 yX1_appendWord wsX1_appendWord) := goodIn_app (goodIn_of _ (by decide +kernel)) ggX4_digest_X1_appendWord
theorem dX4_digest_0 : decode cX4_digest 0 = .ok (.aload_n 0, 1) := by decide +kernel
theorem dX4_digest_1 : decode cX4_digest 1 = .ok (.getfield 14, 3) := by decide +kernel
theorem dX4_digest_4 : decode cX4_digest 4 = .ok (.iconst 4, 1) := by decide +kernel
theorem dX4_digest_5 : decode cX4_digest 5 = .ok (.invokevirtual 44, 3) := by decide +kernel
theorem dX4_digest_8 : decode cX4_digest 8 = .ok (.ifCond .ne 5, 3) := by decide +kernel
theorem dX4_digest_11 : decode cX4_digest 11 = .ok (.iconst 0, 1) := by decide +kernel
theorem dX4_digest_12 : decode cX4_digest 12 = .ok (.ireturn, 1) := by decide +kernel
theorem dX4_digest_13 : decode cX4_digest 13 = .ok (.aload_n 0, 1) := by decide +kernel
theorem dX4_digest_14 : decode cX4_digest 14 = .ok (.getfield 14, 3) := by decide +kernel
theorem dX4_digest_17 : decode cX4_digest 17 = .ok (.aload_n 0, 1) := by decide +kernel
theorem dX4_digest_18 : decode cX4_digest 18 = .ok (.getfield 18, 3) := by decide +kernel
theorem dX4_digest_21 : decode cX4_digest 21 = .ok (.invokevirtual 77, 3) := by decide +kernel
theorem dX4_digest_24 : decode cX4_digest 24 = .ok (.invokevirtual 80, 3) := by decide +kernel
theorem dX4_digest_27 : decode cX4_digest 27 = .ok (.iconst 1, 1) := by decide +kernel
theorem dX4_digest_28 : decode cX4_digest 28 = .ok (.ireturn, 1) := by decide +kernel
set_option maxRecDepth 20000 in
theorem ggX4_sign_X0_read : GoodIn wsX4_sign wsX0_read := goodIn_r _ [13, 14, 15, 16, 17, 18, 19, 20, 21, 22, 23, 24, 25, 26, 27, 28, 29, 30, 31, 32, 33, 12, 34, 35, 36, 37, 38, 39, 40, 41, 42, 43, 44, 45, 46, 47, 48, 49, 50, 51, 52, 53, 54, 55, 56, 57, 58, 59, 60, 61, 62, 63, 64, 65, 66, 67, 68, 69, 70, 71, 72, 73, 74, 75, 76, 77, 78, 79, 80, 81, 82, 83, 84, 85, 86, 87, 88, 89, 90, 91, 92, 93, 94, 95, 96, 147, 148, 149, 150, 151, 152, 153, 154, 155, 156, 157, 158, 159, 160, 161, 162, 163] (by decide +kernel) (by decide +kernel)
set_option maxRecDepth 20000 in
theorem gX4_sign_X0_read : GoodIn wsX4_sign (wsV RX4 83 RX0 yX0_read wsX0_read) := goodIn_app (goodIn_of _ (by decide +kernel)) ggX4_sign_X0_read
set_option maxRecDepth 20000 in
theorem ggX4_sign_X0_isBare : GoodIn wsX4_sign wsX0_isBare := goodIn_r _ [100, 18, 147, 148, 149, 150, 151, 152, 153, 154, 155, 156, 157, 158, 159, 160, 161] (by decide +kernel) (by decide +kernel)
set_option maxRecDepth 20000 in
theorem gX4_sign_X0_isBare : GoodIn wsX4_sign (wsV RX4 87 RX0 yX0_isBare wsX0_isBare) := goodIn_app (goodIn_of _ (by decide +kernel)) ggX4_sign_X0_isBare
set_option maxRecDepth 20000 in
theorem ggX4_sign_X0_isWhole : GoodIn wsX4_sign wsX0_isWhole := goodIn_r _ [104, 19, 147, 148, 149, 150, 151, 152, 153, 154, 155, 156, 157, 158, 159, 160, 161] (by decide +kernel) (by decide +kernel)
set_option maxRecDepth 20000 in
theorem gX4_sign_X0_isWhole : GoodIn wsX4_sign (wsV RX4 91 RX0 yX0_isWhole wsX0_isWhole) := goodIn_app (goodIn_of _ (by decide +kernel)) ggX4_sign_X0_isWhole
set_option maxRecDepth 20000 in
theorem ggX4_sign_X0_signatureCount : GoodIn wsX4_sign wsX0_signatureCount := goodIn_r _ [108, 14, 17, 42, 43, 44, 23, 45, 25, 26, 147, 148, 149, 150, 151, 152, 153, 154, 155, 156, 157, 158, 159, 160, 161, 162, 163] (by decide +kernel) (by decide +kernel)
set_option maxRecDepth 20000 in
theorem gX4_sign_X0_signatureCount : GoodIn wsX4_sign (wsV RX4 97 RX0 yX0_signatureCount wsX0_signatureCount) := goodIn_app (goodIn_of _ (by decide +kernel)) ggX4_sign_X0_signatureCount
set_option maxRecDepth 20000 in
theorem ggX4_sign_X1_hasRoomFor : GoodIn wsX4_sign wsX1_hasRoomFor := goodIn_r _ [112, 26, 25, 162, 163] (by decide +kernel) (by decide +kernel)
set_option maxRecDepth 20000 in
theorem gX4_sign_X1_hasRoomFor : GoodIn wsX4_sign (wsV RX4 44 RX1 yX1_hasRoomFor wsX1_hasRoomFor) := goodIn_app (goodIn_of _ (by decide +kernel)) ggX4_sign_X1_hasRoomFor
set_option maxRecDepth 20000 in
theorem ggX4_sign_X1_append : GoodIn wsX4_sign wsX1_append := goodIn_r _ [116, 25, 26, 162, 163] (by decide +kernel) (by decide +kernel)
set_option maxRecDepth 20000 in
theorem gX4_sign_X1_append : GoodIn wsX4_sign (wsV RX4 103 RX1 yX1_append wsX1_append) := goodIn_app (goodIn_of _ (by decide +kernel)) ggX4_sign_X1_append
set_option maxRecDepth 20000 in
theorem ggX4_sign_X0_signedSize : GoodIn wsX4_sign wsX0_signedSize := goodIn_r _ [120, 17, 147, 148, 149, 150, 151, 152, 153, 154, 155, 156, 157, 158, 159, 160, 161] (by decide +kernel) (by decide +kernel)
set_option maxRecDepth 20000 in
theorem gX4_sign_X0_signedSize : GoodIn wsX4_sign (wsV RX4 106 RX0 yX0_signedSize wsX0_signedSize) := goodIn_app (goodIn_of _ (by decide +kernel)) ggX4_sign_X0_signedSize
set_option maxRecDepth 20000 in
theorem ggX4_sign_X1_replace : GoodIn wsX4_sign wsX1_replace := goodIn_r _ [124, 25, 26, 162, 163] (by decide +kernel) (by decide +kernel)
set_option maxRecDepth 20000 in
theorem gX4_sign_X1_replace : GoodIn wsX4_sign (wsV RX4 62 RX1 yX1_replace wsX1_replace) := goodIn_app (goodIn_of _ (by decide +kernel)) ggX4_sign_X1_replace
set_option maxRecDepth 20000 in
theorem ggX4_sign_X0_signatureOf : GoodIn wsX4_sign wsX0_signatureOf := goodIn_r _ [128, 14, 17, 129, 130, 131, 23, 132, 133, 25, 26, 134, 147, 148, 149, 150, 151, 152, 153, 154, 155, 156, 157, 158, 159, 160, 161, 162, 163] (by decide +kernel) (by decide +kernel)
set_option maxRecDepth 20000 in
theorem gX4_sign_X0_signatureOf : GoodIn wsX4_sign (wsV RX4 109 RX0 yX0_signatureOf wsX0_signatureOf) := goodIn_app (goodIn_of _ (by decide +kernel)) ggX4_sign_X0_signatureOf
set_option maxRecDepth 20000 in
theorem ggX4_sign_X1_appendWord : GoodIn wsX4_sign wsX1_appendWord := goodIn_r _ [138, 139, 114, 115, 23, 116, 25, 26, 162, 163] (by decide +kernel) (by decide +kernel)
set_option maxRecDepth 20000 in
theorem gX4_sign_X1_appendWord : GoodIn wsX4_sign (wsV RX4 80 RX1 yX1_appendWord wsX1_appendWord) := goodIn_app (goodIn_of _ (by decide +kernel)) ggX4_sign_X1_appendWord
theorem dX4_sign_0 : decode cX4_sign 0 = .ok (.iload_n 1, 1) := by decide +kernel
theorem dX4_sign_1 : decode cX4_sign 1 = .ok (.ifCond .lt 9, 3) := by decide +kernel
theorem dX4_sign_4 : decode cX4_sign 4 = .ok (.iload_n 1, 1) := by decide +kernel
theorem dX4_sign_5 : decode cX4_sign 5 = .ok (.bipush 9, 2) := by decide +kernel
theorem dX4_sign_7 : decode cX4_sign 7 = .ok (.if_icmp .le 11, 3) := by decide +kernel
theorem dX4_sign_10 : decode cX4_sign 10 = .ok (.new 66, 3) := by decide +kernel
theorem dX4_sign_13 : decode cX4_sign 13 = .ok (.dup, 1) := by decide +kernel
theorem dX4_sign_14 : decode cX4_sign 14 = .ok (.invokespecial 68, 3) := by decide +kernel
theorem dX4_sign_17 : decode cX4_sign 17 = .ok (.athrow, 1) := by decide +kernel
theorem dX4_sign_18 : decode cX4_sign 18 = .ok (.aload_n 0, 1) := by decide +kernel
theorem dX4_sign_19 : decode cX4_sign 19 = .ok (.getfield 24, 3) := by decide +kernel
theorem dX4_sign_22 : decode cX4_sign 22 = .ok (.aload_n 0, 1) := by decide +kernel
theorem dX4_sign_23 : decode cX4_sign 23 = .ok (.getfield 14, 3) := by decide +kernel
theorem dX4_sign_26 : decode cX4_sign 26 = .ok (.invokevirtual 83, 3) := by decide +kernel
theorem dX4_sign_29 : decode cX4_sign 29 = .ok (.aload_n 0, 1) := by decide +kernel
theorem dX4_sign_30 : decode cX4_sign 30 = .ok (.getfield 24, 3) := by decide +kernel
theorem dX4_sign_33 : decode cX4_sign 33 = .ok (.invokevirtual 87, 3) := by decide +kernel
theorem dX4_sign_36 : decode cX4_sign 36 = .ok (.istore_n 2, 1) := by decide +kernel
theorem dX4_sign_37 : decode cX4_sign 37 = .ok (.iload_n 2, 1) := by decide +kernel
theorem dX4_sign_38 : decode cX4_sign 38 = .ok (.ifCond .ne 21, 3) := by decide +kernel
theorem dX4_sign_41 : decode cX4_sign 41 = .ok (.aload_n 0, 1) := by decide +kernel
theorem dX4_sign_42 : decode cX4_sign 42 = .ok (.getfield 24, 3) := by decide +kernel
theorem dX4_sign_45 : decode cX4_sign 45 = .ok (.invokevirtual 91, 3) := by decide +kernel
theorem dX4_sign_48 : decode cX4_sign 48 = .ok (.ifCond .ne 11, 3) := by decide +kernel
theorem dX4_sign_51 : decode cX4_sign 51 = .ok (.new 94, 3) := by decide +kernel
theorem dX4_sign_54 : decode cX4_sign 54 = .ok (.dup, 1) := by decide +kernel
theorem dX4_sign_55 : decode cX4_sign 55 = .ok (.invokespecial 96, 3) := by decide +kernel
theorem dX4_sign_58 : decode cX4_sign 58 = .ok (.athrow, 1) := by decide +kernel
theorem dX4_sign_59 : decode cX4_sign 59 = .ok (.iload_n 2, 1) := by decide +kernel
theorem dX4_sign_60 : decode cX4_sign 60 = .ok (.ifCond .eq 7, 3) := by decide +kernel
theorem dX4_sign_63 : decode cX4_sign 63 = .ok (.iconst 0, 1) := by decide +kernel
theorem dX4_sign_64 : decode cX4_sign 64 = .ok (.goto 10, 3) := by decide +kernel
theorem dX4_sign_67 : decode cX4_sign 67 = .ok (.aload_n 0, 1) := by decide +kernel
theorem dX4_sign_68 : decode cX4_sign 68 = .ok (.getfield 24, 3) := by decide +kernel
theorem dX4_sign_71 : decode cX4_sign 71 = .ok (.invokevirtual 97, 3) := by decide +kernel
theorem dX4_sign_74 : decode cX4_sign 74 = .ok (.istore_n 3, 1) := by decide +kernel
theorem dX4_sign_75 : decode cX4_sign 75 = .ok (.iload_n 2, 1) := by decide +kernel
theorem dX4_sign_76 : decode cX4_sign 76 = .ok (.ifCond .eq 8, 3) := by decide +kernel
theorem dX4_sign_79 : decode cX4_sign 79 = .ok (.bipush 6, 2) := by decide +kernel
theorem dX4_sign_81 : decode cX4_sign 81 = .ok (.goto 4, 3) := by decide +kernel
theorem dX4_sign_84 : decode cX4_sign 84 = .ok (.iconst 5, 1) := by decide +kernel
theorem dX4_sign_85 : decode cX4_sign 85 = .ok (.istore 4, 2) := by decide +kernel
theorem dX4_sign_87 : decode cX4_sign 87 = .ok (.iload_n 3, 1) := by decide +kernel
theorem dX4_sign_88 : decode cX4_sign 88 = .ok (.bipush 6, 2) := by decide +kernel
theorem dX4_sign_90 : decode cX4_sign 90 = .ok (.if_icmp .ge 15, 3) := by decide +kernel
theorem dX4_sign_93 : decode cX4_sign 93 = .ok (.aload_n 0, 1) := by decide +kernel
theorem dX4_sign_94 : decode cX4_sign 94 = .ok (.getfield 14, 3) := by decide +kernel
theorem dX4_sign_97 : decode cX4_sign 97 = .ok (.iload 4, 2) := by decide +kernel
theorem dX4_sign_99 : decode cX4_sign 99 = .ok (.invokevirtual 44, 3) := by decide +kernel
theorem dX4_sign_102 : decode cX4_sign 102 = .ok (.ifCond .ne 11, 3) := by decide +kernel
theorem dX4_sign_105 : decode cX4_sign 105 = .ok (.new 100, 3) := by decide +kernel
theorem dX4_sign_108 : decode cX4_sign 108 = .ok (.dup, 1) := by decide +kernel
theorem dX4_sign_109 : decode cX4_sign 109 = .ok (.invokespecial 102, 3) := by decide +kernel
theorem dX4_sign_112 : decode cX4_sign 112 = .ok (.athrow, 1) := by decide +kernel
theorem dX4_sign_113 : decode cX4_sign 113 = .ok (.iload_n 2, 1) := by decide +kernel
theorem dX4_sign_114 : decode cX4_sign 114 = .ok (.ifCond .eq 14, 3) := by decide +kernel
theorem dX4_sign_117 : decode cX4_sign 117 = .ok (.aload_n 0, 1) := by decide +kernel
theorem dX4_sign_118 : decode cX4_sign 118 = .ok (.getfield 14, 3) := by decide +kernel
theorem dX4_sign_121 : decode cX4_sign 121 = .ok (.iconst 1, 1) := by decide +kernel
theorem dX4_sign_122 : decode cX4_sign 122 = .ok (.invokevirtual 103, 3) := by decide +kernel
theorem dX4_sign_125 : decode cX4_sign 125 = .ok (.goto 20, 3) := by decide +kernel
theorem dX4_sign_128 : decode cX4_sign 128 = .ok (.aload_n 0, 1) := by decide +kernel
theorem dX4_sign_129 : decode cX4_sign 129 = .ok (.getfield 14, 3) := by decide +kernel
theorem dX4_sign_132 : decode cX4_sign 132 = .ok (.aload_n 0, 1) := by decide +kernel
theorem dX4_sign_133 : decode cX4_sign 133 = .ok (.getfield 24, 3) := by decide +kernel
theorem dX4_sign_136 : decode cX4_sign 136 = .ok (.invokevirtual 106, 3) := by decide +kernel
theorem dX4_sign_139 : decode cX4_sign 139 = .ok (.iload_n 3, 1) := by decide +kernel
theorem dX4_sign_140 : decode cX4_sign 140 = .ok (.iconst 1, 1) := by decide +kernel
theorem dX4_sign_141 : decode cX4_sign 141 = .ok (.iadd, 1) := by decide +kernel
theorem dX4_sign_142 : decode cX4_sign 142 = .ok (.invokevirtual 62, 3) := by decide +kernel
theorem dX4_sign_145 : decode cX4_sign 145 = .ok (.aload_n 0, 1) := by decide +kernel
theorem dX4_sign_146 : decode cX4_sign 146 = .ok (.getfield 14, 3) := by decide +kernel
theorem dX4_sign_149 : decode cX4_sign 149 = .ok (.iload_n 1, 1) := by decide +kernel
theorem dX4_sign_150 : decode cX4_sign 150 = .ok (.invokevirtual 103, 3) := by decide +kernel
theorem dX4_sign_153 : decode cX4_sign 153 = .ok (.aload_n 0, 1) := by decide +kernel
theorem dX4_sign_154 : decode cX4_sign 154 = .ok (.getfield 14, 3) := by decide +kernel
theorem dX4_sign_157 : decode cX4_sign 157 = .ok (.aload_n 0, 1) := by decide +kernel
theorem dX4_sign_158 : decode cX4_sign 158 = .ok (.getfield 24, 3) := by decide +kernel
theorem dX4_sign_161 : decode cX4_sign 161 = .ok (.iload_n 1, 1) := by decide +kernel
theorem dX4_sign_162 : decode cX4_sign 162 = .ok (.invokevirtual 109, 3) := by decide +kernel
theorem dX4_sign_165 : decode cX4_sign 165 = .ok (.invokevirtual 80, 3) := by decide +kernel
theorem dX4_sign_168 : decode cX4_sign 168 = .ok (.iload_n 3, 1) := by decide +kernel
theorem dX4_sign_169 : decode cX4_sign 169 = .ok (.iconst 1, 1) := by decide +kernel
theorem dX4_sign_170 : decode cX4_sign 170 = .ok (.iadd, 1) := by decide +kernel
theorem dX4_sign_171 : decode cX4_sign 171 = .ok (.ireturn, 1) := by decide +kernel
set_option maxRecDepth 20000 in
theorem ggX4_content_X1_become : GoodIn wsX4_content wsX1_become := goodIn_r _ [7, 8, 9, 10, 11, 12, 13, 25, 26] (by decide +kernel) (by decide +kernel)
set_option maxRecDepth 20000 in
theorem gX4_content_X1_become : GoodIn wsX4_content (wsV RX4 112 RX1 yX1_become wsX1_become) := goodIn_app (goodIn_of _ (by decide +kernel)) ggX4_content_X1_become
set_option maxRecDepth 20000 in
theorem ggX4_content_X1_size : GoodIn wsX4_content wsX1_size := goodIn_r _ [17, 8, 25, 26] (by decide +kernel) (by decide +kernel)
set_option maxRecDepth 20000 in
theorem gX4_content_X1_size : GoodIn wsX4_content (wsV RX4 52 RX1 yX1_size wsX1_size) := goodIn_app (goodIn_of _ (by decide +kernel)) ggX4_content_X1_size
theorem dX4_content_0 : decode cX4_content 0 = .ok (.aload_n 0, 1) := by decide +kernel
theorem dX4_content_1 : decode cX4_content 1 = .ok (.getfield 18, 3) := by decide +kernel
theorem dX4_content_4 : decode cX4_content 4 = .ok (.aload_n 0, 1) := by decide +kernel
theorem dX4_content_5 : decode cX4_content 5 = .ok (.getfield 14, 3) := by decide +kernel
theorem dX4_content_8 : decode cX4_content 8 = .ok (.invokevirtual 112, 3) := by decide +kernel
theorem dX4_content_11 : decode cX4_content 11 = .ok (.aload_n 0, 1) := by decide +kernel
theorem dX4_content_12 : decode cX4_content 12 = .ok (.getfield 18, 3) := by decide +kernel
theorem dX4_content_15 : decode cX4_content 15 = .ok (.invokevirtual 52, 3) := by decide +kernel
theorem dX4_content_18 : decode cX4_content 18 = .ok (.ireturn, 1) := by decide +kernel
set_option maxRecDepth 20000 in
theorem ggX4_tick_X3_advanceClock : GoodIn wsX4_tick wsX3_advanceClock := goodIn_r _ [8, 9, 17, 18, 19] (by decide +kernel) (by decide +kernel)
set_option maxRecDepth 20000 in
theorem gX4_tick_X3_advanceClock : GoodIn wsX4_tick (wsV RX4 115 RX3 yX3_advanceClock wsX3_advanceClock) := goodIn_app (goodIn_of _ (by decide +kernel)) ggX4_tick_X3_advanceClock
theorem dX4_tick_0 : decode cX4_tick 0 = .ok (.iload_n 1, 1) := by decide +kernel
theorem dX4_tick_1 : decode cX4_tick 1 = .ok (.ifCond .lt 10, 3) := by decide +kernel
theorem dX4_tick_4 : decode cX4_tick 4 = .ok (.iload_n 1, 1) := by decide +kernel
theorem dX4_tick_5 : decode cX4_tick 5 = .ok (.sipush 10000, 3) := by decide +kernel
theorem dX4_tick_8 : decode cX4_tick 8 = .ok (.if_icmp .le 11, 3) := by decide +kernel
theorem dX4_tick_11 : decode cX4_tick 11 = .ok (.new 94, 3) := by decide +kernel
theorem dX4_tick_14 : decode cX4_tick 14 = .ok (.dup, 1) := by decide +kernel
theorem dX4_tick_15 : decode cX4_tick 15 = .ok (.invokespecial 96, 3) := by decide +kernel
theorem dX4_tick_18 : decode cX4_tick 18 = .ok (.athrow, 1) := by decide +kernel
theorem dX4_tick_19 : decode cX4_tick 19 = .ok (.aload_n 0, 1) := by decide +kernel
theorem dX4_tick_20 : decode cX4_tick 20 = .ok (.getfield 31, 3) := by decide +kernel
theorem dX4_tick_23 : decode cX4_tick 23 = .ok (.iload_n 1, 1) := by decide +kernel
theorem dX4_tick_24 : decode cX4_tick 24 = .ok (.invokevirtual 115, 3) := by decide +kernel
theorem dX4_tick_27 : decode cX4_tick 27 = .ok (.ireturn, 1) := by decide +kernel
set_option maxRecDepth 20000 in
theorem ggX4_begin_X0_read : GoodIn wsX4_begin wsX0_read := goodIn_r _ [10, 11, 12, 13, 14, 15, 16, 17, 18, 19, 20, 21, 22, 23, 24, 25, 26, 27, 28, 29, 30, 9, 31, 32, 33, 34, 35, 36, 37, 38, 39, 40, 41, 42, 43, 44, 45, 46, 47, 48, 49, 50, 51, 52, 53, 54, 55, 56, 57, 58, 59, 60, 61, 62, 63, 64, 65, 66, 67, 68, 69, 70, 71, 72, 73, 74, 75, 76, 77, 78, 79, 80, 81, 82, 83, 84, 85, 86, 87, 88, 89, 90, 91, 92, 93, 129, 130, 131, 132, 133, 134, 135, 136, 137, 138, 139, 140, 141, 142, 143, 144, 145] (by decide +kernel) (by decide +kernel)
set_option maxRecDepth 20000 in
theorem gX4_begin_X0_read : GoodIn wsX4_begin (wsV RX4 83 RX0 yX0_read wsX0_read) := goodIn_app (goodIn_of _ (by decide +kernel)) ggX4_begin_X0_read
set_option maxRecDepth 20000 in
theorem ggX4_begin_X0_isWhole : GoodIn wsX4_begin wsX0_isWhole := goodIn_r _ [97, 16, 129, 130, 131, 132, 133, 134, 135, 136, 137, 138, 139, 140, 141, 142, 143] (by decide +kernel) (by decide +kernel)
set_option maxRecDepth 20000 in
theorem gX4_begin_X0_isWhole : GoodIn wsX4_begin (wsV RX4 91 RX0 yX0_isWhole wsX0_isWhole) := goodIn_app (goodIn_of _ (by decide +kernel)) ggX4_begin_X0_isWhole
set_option maxRecDepth 20000 in
theorem ggX4_begin_X0_role : GoodIn wsX4_begin wsX0_role := goodIn_r _ [101, 32, 129, 130, 131, 132, 133, 134, 135, 136, 137, 138, 139, 140, 141, 142, 143] (by decide +kernel) (by decide +kernel)
set_option maxRecDepth 20000 in
theorem gX4_begin_X0_role : GoodIn wsX4_begin (wsV RX4 118 RX0 yX0_role wsX0_role) := goodIn_app (goodIn_of _ (by decide +kernel)) ggX4_begin_X0_role
set_option maxRecDepth 20000 in
theorem ggX4_begin_X3_startFrom : GoodIn wsX4_begin wsX3_startFrom := goodIn_r _ [106, 107, 108, 109, 105, 110, 111, 112, 113, 114, 115, 9, 116, 16, 117, 118, 119, 120, 11, 121, 7, 8, 10, 12, 13, 14, 15, 17, 18, 19, 20, 21, 22, 23, 24, 25, 26, 27, 28, 29, 30, 31, 32, 33, 34, 35, 36, 37, 38, 39, 40, 41, 42, 43, 44, 45, 46, 47, 48, 49, 50, 51, 52, 53, 54, 55, 56, 57, 58, 59, 60, 61, 62, 63, 64, 65, 66, 67, 68, 69, 70, 71, 72, 73, 74, 75, 76, 77, 78, 79, 80, 81, 82, 83, 84, 85, 86, 87, 88, 89, 90, 91, 92, 93, 146, 147, 148, 129, 130, 131, 132, 133, 134, 135, 136, 137, 138, 139, 140, 141, 142, 143, 144, 145] (by decide +kernel) (by decide +kernel)
set_option maxRecDepth 20000 in
theorem gX4_begin_X3_startFrom : GoodIn wsX4_begin (wsV RX4 121 RX3 yX3_startFrom wsX3_startFrom) := goodIn_app (goodIn_of _ (by decide +kernel)) ggX4_begin_X3_startFrom
theorem dX4_begin_0 : decode cX4_begin 0 = .ok (.aload_n 0, 1) := by decide +kernel
theorem dX4_begin_1 : decode cX4_begin 1 = .ok (.getfield 24, 3) := by decide +kernel
theorem dX4_begin_4 : decode cX4_begin 4 = .ok (.aload_n 0, 1) := by decide +kernel
theorem dX4_begin_5 : decode cX4_begin 5 = .ok (.getfield 14, 3) := by decide +kernel
theorem dX4_begin_8 : decode cX4_begin 8 = .ok (.invokevirtual 83, 3) := by decide +kernel
theorem dX4_begin_11 : decode cX4_begin 11 = .ok (.aload_n 0, 1) := by decide +kernel
theorem dX4_begin_12 : decode cX4_begin 12 = .ok (.getfield 24, 3) := by decide +kernel
theorem dX4_begin_15 : decode cX4_begin 15 = .ok (.invokevirtual 91, 3) := by decide +kernel
theorem dX4_begin_18 : decode cX4_begin 18 = .ok (.ifCond .eq 13, 3) := by decide +kernel
theorem dX4_begin_21 : decode cX4_begin 21 = .ok (.aload_n 0, 1) := by decide +kernel
theorem dX4_begin_22 : decode cX4_begin 22 = .ok (.getfield 24, 3) := by decide +kernel
theorem dX4_begin_25 : decode cX4_begin 25 = .ok (.invokevirtual 118, 3) := by decide +kernel
theorem dX4_begin_28 : decode cX4_begin 28 = .ok (.ifCond .eq 11, 3) := by decide +kernel
theorem dX4_begin_31 : decode cX4_begin 31 = .ok (.new 94, 3) := by decide +kernel
theorem dX4_begin_34 : decode cX4_begin 34 = .ok (.dup, 1) := by decide +kernel
theorem dX4_begin_35 : decode cX4_begin 35 = .ok (.invokespecial 96, 3) := by decide +kernel
theorem dX4_begin_38 : decode cX4_begin 38 = .ok (.athrow, 1) := by decide +kernel
theorem dX4_begin_39 : decode cX4_begin 39 = .ok (.aload_n 0, 1) := by decide +kernel
theorem dX4_begin_40 : decode cX4_begin 40 = .ok (.getfield 31, 3) := by decide +kernel
theorem dX4_begin_43 : decode cX4_begin 43 = .ok (.aload_n 0, 1) := by decide +kernel
theorem dX4_begin_44 : decode cX4_begin 44 = .ok (.getfield 24, 3) := by decide +kernel
theorem dX4_begin_47 : decode cX4_begin 47 = .ok (.invokevirtual 121, 3) := by decide +kernel
theorem dX4_begin_50 : decode cX4_begin 50 = .ok (.return_, 1) := by decide +kernel
set_option maxRecDepth 20000 in
theorem ggX4_offer_X0_read : GoodIn wsX4_offer wsX0_read := goodIn_r _ [18, 19, 20, 21, 22, 23, 24, 25, 26, 27, 28, 29, 30, 31, 32, 33, 34, 35, 36, 37, 38, 17, 39, 40, 41, 42, 43, 44, 45, 46, 47, 48, 49, 50, 51, 52, 53, 54, 55, 56, 57, 58, 59, 60, 61, 62, 63, 64, 65, 66, 67, 68, 69, 70, 71, 72, 73, 74, 75, 76, 77, 78, 79, 80, 81, 82, 83, 84, 85, 86, 87, 88, 89, 90, 91, 92, 93, 94, 95, 96, 97, 98, 99, 100, 101, 236, 237, 238, 239, 240, 241, 242, 243, 244, 245, 246, 247, 248, 249, 250, 251, 252] (by decide +kernel) (by decide +kernel)
set_option maxRecDepth 20000 in
theorem gX4_offer_X0_read : GoodIn wsX4_offer (wsV RX4 83 RX0 yX0_read wsX0_read) := goodIn_app (goodIn_of _ (by decide +kernel)) ggX4_offer_X0_read
set_option maxRecDepth 20000 in
theorem ggX4_offer_X0_isWhole : GoodIn wsX4_offer wsX0_isWhole := goodIn_r _ [105, 24, 236, 237, 238, 239, 240, 241, 242, 243, 244, 245, 246, 247, 248, 249, 250] (by decide +kernel) (by decide +kernel)
set_option maxRecDepth 20000 in
theorem gX4_offer_X0_isWhole : GoodIn wsX4_offer (wsV RX4 91 RX0 yX0_isWhole wsX0_isWhole) := goodIn_app (goodIn_of _ (by decide +kernel)) ggX4_offer_X0_isWhole
set_option maxRecDepth 20000 in
theorem ggX4_offer_X0_role : GoodIn wsX4_offer wsX0_role := goodIn_r _ [109, 40, 236, 237, 238, 239, 240, 241, 242, 243, 244, 245, 246, 247, 248, 249, 250] (by decide +kernel) (by decide +kernel)
set_option maxRecDepth 20000 in
theorem gX4_offer_X0_role : GoodIn wsX4_offer (wsV RX4 118 RX0 yX0_role wsX0_role) := goodIn_app (goodIn_of _ (by decide +kernel)) ggX4_offer_X0_role
set_option maxRecDepth 20000 in
theorem ggX4_offer_X3_hasGroundFor : GoodIn wsX4_offer wsX3_hasGroundFor := goodIn_r _ [114, 115, 116, 117, 113, 118, 119, 120, 121, 103, 104, 17, 105, 24, 122, 123, 124, 125, 126, 127, 128, 129, 130, 131, 132, 133, 134, 42, 135, 136, 137, 138, 68, 253, 254, 255, 236, 237, 238, 239, 240, 241, 242, 243, 244, 245, 246, 247, 248, 249, 250] (by decide +kernel) (by decide +kernel)
set_option maxRecDepth 20000 in
theorem gX4_offer_X3_hasGroundFor : GoodIn wsX4_offer (wsV RX4 125 RX3 yX3_hasGroundFor wsX3_hasGroundFor) := goodIn_app (goodIn_of _ (by decide +kernel)) ggX4_offer_X3_hasGroundFor
set_option maxRecDepth 20000 in
theorem ggX4_offer_X3_findsSigned : GoodIn wsX4_offer wsX3_findsSigned := goodIn_r _ [142, 143, 107, 108, 17, 109, 40, 115, 116, 117, 113, 118, 119, 120, 144, 145, 146, 147, 19, 55, 148, 149, 150, 151, 47, 48, 49, 28, 50, 30, 31, 152, 153, 154, 155, 22, 156, 157, 158, 159, 160, 161, 162, 163, 164, 165, 166, 167, 168, 169, 170, 171, 172, 173, 236, 237, 238, 239, 240, 241, 242, 243, 244, 245, 246, 247, 248, 249, 250, 253, 254, 255, 251, 252] (by decide +kernel) (by decide +kernel)
set_option maxRecDepth 20000 in
theorem gX4_offer_X3_findsSigned : GoodIn wsX4_offer (wsV RX4 128 RX3 yX3_findsSigned wsX3_findsSigned) := goodIn_app (goodIn_of _ (by decide +kernel)) ggX4_offer_X3_findsSigned
set_option maxRecDepth 20000 in
theorem ggX4_offer_X3_findsVersionsRight : GoodIn wsX4_offer wsX3_findsVersionsRight := goodIn_r _ [177, 143, 107, 108, 17, 109, 40, 178, 179, 180, 181, 41, 115, 116, 117, 113, 118, 119, 120, 182, 183, 184, 185, 121, 103, 104, 105, 24, 186, 187, 188, 189, 19, 47, 48, 49, 28, 50, 30, 31, 190, 191, 192, 193, 194, 195, 196, 197, 198, 199, 200, 201, 202, 161, 162, 163, 164, 165, 203, 204, 205, 206, 170, 171, 172, 173, 207, 208, 209, 210, 135, 136, 137, 138, 68, 236, 237, 238, 239, 240, 241, 242, 243, 244, 245, 246, 247, 248, 249, 250, 253, 254, 255, 251, 252] (by decide +kernel) (by decide +kernel)
set_option maxRecDepth 20000 in
theorem gX4_offer_X3_findsVersionsRight : GoodIn wsX4_offer (wsV RX4 135 RX3 yX3_findsVersionsRight wsX3_findsVersionsRight) := goodIn_app (goodIn_of _ (by decide +kernel)) ggX4_offer_X3_findsVersionsRight
set_option maxRecDepth 20000 in
theorem ggX4_offer_X3_findsEnded : GoodIn wsX4_offer wsX3_findsEnded := goodIn_r _ [129, 130, 131, 132, 133, 17, 134, 42, 253, 254, 255, 236, 237, 238, 239, 240, 241, 242, 243, 244, 245, 246, 247, 248, 249, 250] (by decide +kernel) (by decide +kernel)
set_option maxRecDepth 20000 in
theorem gX4_offer_X3_findsEnded : GoodIn wsX4_offer (wsV RX4 138 RX3 yX3_findsEnded wsX3_findsEnded) := goodIn_app (goodIn_of _ (by decide +kernel)) ggX4_offer_X3_findsEnded
set_option maxRecDepth 20000 in
theorem ggX4_offer_X3_take : GoodIn wsX4_offer wsX3_take := goodIn_r _ [215, 143, 107, 108, 17, 109, 40, 216, 217, 218, 113, 219, 115, 116, 117, 118, 119, 120, 220, 221, 222, 223, 55, 19, 47, 48, 49, 28, 50, 30, 31, 83, 84, 85, 86, 87, 224, 225, 226, 227, 24, 194, 195, 196, 197, 228, 15, 16, 18, 20, 21, 22, 23, 25, 26, 27, 29, 32, 33, 34, 35, 36, 37, 38, 39, 41, 42, 43, 44, 45, 46, 51, 52, 53, 54, 56, 57, 58, 59, 60, 61, 62, 63, 64, 65, 66, 67, 68, 69, 70, 71, 72, 73, 74, 75, 76, 77, 78, 79, 80, 81, 82, 88, 89, 90, 91, 92, 93, 94, 95, 96, 97, 98, 99, 100, 101, 236, 237, 238, 239, 240, 241, 242, 243, 244, 245, 246, 247, 248, 249, 250, 253, 254, 255, 251, 252] (by decide +kernel) (by decide +kernel)
set_option maxRecDepth 20000 in
theorem gX4_offer_X3_take : GoodIn wsX4_offer (wsV RX4 144 RX3 yX3_take wsX3_take) := goodIn_app (goodIn_of _ (by decide +kernel)) ggX4_offer_X3_take
theorem dX4_offer_0 : decode cX4_offer 0 = .ok (.aload_n 0, 1) := by decide +kernel
theorem dX4_offer_1 : decode cX4_offer 1 = .ok (.getfield 24, 3) := by decide +kernel
theorem dX4_offer_4 : decode cX4_offer 4 = .ok (.aload_n 0, 1) := by decide +kernel
theorem dX4_offer_5 : decode cX4_offer 5 = .ok (.getfield 14, 3) := by decide +kernel
theorem dX4_offer_8 : decode cX4_offer 8 = .ok (.invokevirtual 83, 3) := by decide +kernel
theorem dX4_offer_11 : decode cX4_offer 11 = .ok (.aload_n 0, 1) := by decide +kernel
theorem dX4_offer_12 : decode cX4_offer 12 = .ok (.getfield 24, 3) := by decide +kernel
theorem dX4_offer_15 : decode cX4_offer 15 = .ok (.invokevirtual 91, 3) := by decide +kernel
theorem dX4_offer_18 : decode cX4_offer 18 = .ok (.ifCond .ne 11, 3) := by decide +kernel
theorem dX4_offer_21 : decode cX4_offer 21 = .ok (.new 94, 3) := by decide +kernel
theorem dX4_offer_24 : decode cX4_offer 24 = .ok (.dup, 1) := by decide +kernel
theorem dX4_offer_25 : decode cX4_offer 25 = .ok (.invokespecial 96, 3) := by decide +kernel
theorem dX4_offer_28 : decode cX4_offer 28 = .ok (.athrow, 1) := by decide +kernel
theorem dX4_offer_29 : decode cX4_offer 29 = .ok (.aload_n 0, 1) := by decide +kernel
theorem dX4_offer_30 : decode cX4_offer 30 = .ok (.getfield 31, 3) := by decide +kernel
theorem dX4_offer_33 : decode cX4_offer 33 = .ok (.aload_n 0, 1) := by decide +kernel
theorem dX4_offer_34 : decode cX4_offer 34 = .ok (.getfield 24, 3) := by decide +kernel
theorem dX4_offer_37 : decode cX4_offer 37 = .ok (.invokevirtual 118, 3) := by decide +kernel
theorem dX4_offer_40 : decode cX4_offer 40 = .ok (.invokevirtual 125, 3) := by decide +kernel
theorem dX4_offer_43 : decode cX4_offer 43 = .ok (.ifCond .ne 11, 3) := by decide +kernel
theorem dX4_offer_46 : decode cX4_offer 46 = .ok (.new 66, 3) := by decide +kernel
theorem dX4_offer_49 : decode cX4_offer 49 = .ok (.dup, 1) := by decide +kernel
theorem dX4_offer_50 : decode cX4_offer 50 = .ok (.invokespecial 68, 3) := by decide +kernel
theorem dX4_offer_53 : decode cX4_offer 53 = .ok (.athrow, 1) := by decide +kernel
theorem dX4_offer_54 : decode cX4_offer 54 = .ok (.aload_n 0, 1) := by decide +kernel
theorem dX4_offer_55 : decode cX4_offer 55 = .ok (.getfield 31, 3) := by decide +kernel
theorem dX4_offer_58 : decode cX4_offer 58 = .ok (.aload_n 0, 1) := by decide +kernel
theorem dX4_offer_59 : decode cX4_offer 59 = .ok (.getfield 24, 3) := by decide +kernel
theorem dX4_offer_62 : decode cX4_offer 62 = .ok (.invokevirtual 128, 3) := by decide +kernel
theorem dX4_offer_65 : decode cX4_offer 65 = .ok (.ifCond .ne 11, 3) := by decide +kernel
theorem dX4_offer_68 : decode cX4_offer 68 = .ok (.new 132, 3) := by decide +kernel
theorem dX4_offer_71 : decode cX4_offer 71 = .ok (.dup, 1) := by decide +kernel
theorem dX4_offer_72 : decode cX4_offer 72 = .ok (.invokespecial 134, 3) := by decide +kernel
theorem dX4_offer_75 : decode cX4_offer 75 = .ok (.athrow, 1) := by decide +kernel
theorem dX4_offer_76 : decode cX4_offer 76 = .ok (.aload_n 0, 1) := by decide +kernel
theorem dX4_offer_77 : decode cX4_offer 77 = .ok (.getfield 31, 3) := by decide +kernel
theorem dX4_offer_80 : decode cX4_offer 80 = .ok (.aload_n 0, 1) := by decide +kernel
theorem dX4_offer_81 : decode cX4_offer 81 = .ok (.getfield 24, 3) := by decide +kernel
theorem dX4_offer_84 : decode cX4_offer 84 = .ok (.invokevirtual 135, 3) := by decide +kernel
theorem dX4_offer_87 : decode cX4_offer 87 = .ok (.ifCond .ne 11, 3) := by decide +kernel
theorem dX4_offer_90 : decode cX4_offer 90 = .ok (.new 100, 3) := by decide +kernel
theorem dX4_offer_93 : decode cX4_offer 93 = .ok (.dup, 1) := by decide +kernel
theorem dX4_offer_94 : decode cX4_offer 94 = .ok (.invokespecial 102, 3) := by decide +kernel
theorem dX4_offer_97 : decode cX4_offer 97 = .ok (.athrow, 1) := by decide +kernel
theorem dX4_offer_98 : decode cX4_offer 98 = .ok (.aload_n 0, 1) := by decide +kernel
theorem dX4_offer_99 : decode cX4_offer 99 = .ok (.getfield 24, 3) := by decide +kernel
theorem dX4_offer_102 : decode cX4_offer 102 = .ok (.invokevirtual 118, 3) := by decide +kernel
theorem dX4_offer_105 : decode cX4_offer 105 = .ok (.ifCond .eq 25, 3) := by decide +kernel
theorem dX4_offer_108 : decode cX4_offer 108 = .ok (.aload_n 0, 1) := by decide +kernel
theorem dX4_offer_109 : decode cX4_offer 109 = .ok (.getfield 31, 3) := by decide +kernel
theorem dX4_offer_112 : decode cX4_offer 112 = .ok (.aload_n 0, 1) := by decide +kernel
theorem dX4_offer_113 : decode cX4_offer 113 = .ok (.getfield 24, 3) := by decide +kernel
theorem dX4_offer_116 : decode cX4_offer 116 = .ok (.invokevirtual 138, 3) := by decide +kernel
theorem dX4_offer_119 : decode cX4_offer 119 = .ok (.ifCond .eq 11, 3) := by decide +kernel
theorem dX4_offer_122 : decode cX4_offer 122 = .ok (.new 141, 3) := by decide +kernel
theorem dX4_offer_125 : decode cX4_offer 125 = .ok (.dup, 1) := by decide +kernel
theorem dX4_offer_126 : decode cX4_offer 126 = .ok (.invokespecial 143, 3) := by decide +kernel
theorem dX4_offer_129 : decode cX4_offer 129 = .ok (.athrow, 1) := by decide +kernel
theorem dX4_offer_130 : decode cX4_offer 130 = .ok (.aload_n 0, 1) := by decide +kernel
theorem dX4_offer_131 : decode cX4_offer 131 = .ok (.getfield 31, 3) := by decide +kernel
theorem dX4_offer_134 : decode cX4_offer 134 = .ok (.aload_n 0, 1) := by decide +kernel
theorem dX4_offer_135 : decode cX4_offer 135 = .ok (.getfield 24, 3) := by decide +kernel
theorem dX4_offer_138 : decode cX4_offer 138 = .ok (.invokevirtual 144, 3) := by decide +kernel
theorem dX4_offer_141 : decode cX4_offer 141 = .ok (.aload_n 0, 1) := by decide +kernel
theorem dX4_offer_142 : decode cX4_offer 142 = .ok (.getfield 24, 3) := by decide +kernel
theorem dX4_offer_145 : decode cX4_offer 145 = .ok (.invokevirtual 118, 3) := by decide +kernel
theorem dX4_offer_148 : decode cX4_offer 148 = .ok (.ireturn, 1) := by decide +kernel
set_option maxRecDepth 20000 in
theorem ggX4_trusted_X3_documentOf : GoodIn wsX4_trusted wsX3_documentOf := goodIn_r _ [8, 9, 10, 34, 35, 36] (by decide +kernel) (by decide +kernel)
set_option maxRecDepth 20000 in
theorem gX4_trusted_X3_documentOf : GoodIn wsX4_trusted (wsV RX4 147 RX3 yX3_documentOf wsX3_documentOf) := goodIn_app (goodIn_of _ (by decide +kernel)) ggX4_trusted_X3_documentOf
set_option maxRecDepth 20000 in
theorem ggX4_trusted_X0_isWhole : GoodIn wsX4_trusted wsX0_isWhole := goodIn_r _ [15, 16, 37, 38, 39, 40, 41, 42, 43, 44, 45, 46, 47, 48, 49, 50, 51] (by decide +kernel) (by decide +kernel)
set_option maxRecDepth 20000 in
theorem gX4_trusted_X0_isWhole : GoodIn wsX4_trusted (wsV RX4 91 RX0 yX0_isWhole wsX0_isWhole) := goodIn_app (goodIn_of _ (by decide +kernel)) ggX4_trusted_X0_isWhole
set_option maxRecDepth 20000 in
theorem ggX4_trusted_X0_end : GoodIn wsX4_trusted wsX0_end := goodIn_r _ [20, 21, 37, 38, 39, 40, 41, 42, 43, 44, 45, 46, 47, 48, 49, 50, 51] (by decide +kernel) (by decide +kernel)
set_option maxRecDepth 20000 in
theorem gX4_trusted_X0_end : GoodIn wsX4_trusted (wsV RX4 151 RX0 yX0_end wsX0_end) := goodIn_app (goodIn_of _ (by decide +kernel)) ggX4_trusted_X0_end
set_option maxRecDepth 20000 in
theorem ggX4_trusted_X0_version : GoodIn wsX4_trusted wsX0_version := goodIn_r _ [25, 26, 37, 38, 39, 40, 41, 42, 43, 44, 45, 46, 47, 48, 49, 50, 51] (by decide +kernel) (by decide +kernel)
set_option maxRecDepth 20000 in
theorem gX4_trusted_X0_version : GoodIn wsX4_trusted (wsV RX4 154 RX0 yX0_version wsX0_version) := goodIn_app (goodIn_of _ (by decide +kernel)) ggX4_trusted_X0_version
theorem dX4_trusted_0 : decode cX4_trusted 0 = .ok (.iload_n 1, 1) := by decide +kernel
theorem dX4_trusted_1 : decode cX4_trusted 1 = .ok (.ifCond .lt 9, 3) := by decide +kernel
theorem dX4_trusted_4 : decode cX4_trusted 4 = .ok (.iload_n 1, 1) := by decide +kernel
theorem dX4_trusted_5 : decode cX4_trusted 5 = .ok (.bipush 6, 2) := by decide +kernel
theorem dX4_trusted_7 : decode cX4_trusted 7 = .ok (.if_icmp .le 11, 3) := by decide +kernel
theorem dX4_trusted_10 : decode cX4_trusted 10 = .ok (.new 66, 3) := by decide +kernel
theorem dX4_trusted_13 : decode cX4_trusted 13 = .ok (.dup, 1) := by decide +kernel
theorem dX4_trusted_14 : decode cX4_trusted 14 = .ok (.invokespecial 68, 3) := by decide +kernel
theorem dX4_trusted_17 : decode cX4_trusted 17 = .ok (.athrow, 1) := by decide +kernel
theorem dX4_trusted_18 : decode cX4_trusted 18 = .ok (.aload_n 0, 1) := by decide +kernel
theorem dX4_trusted_19 : decode cX4_trusted 19 = .ok (.getfield 31, 3) := by decide +kernel
theorem dX4_trusted_22 : decode cX4_trusted 22 = .ok (.iload_n 1, 1) := by decide +kernel
theorem dX4_trusted_23 : decode cX4_trusted 23 = .ok (.invokevirtual 147, 3) := by decide +kernel
theorem dX4_trusted_26 : decode cX4_trusted 26 = .ok (.astore_n 3, 1) := by decide +kernel
theorem dX4_trusted_27 : decode cX4_trusted 27 = .ok (.aload_n 3, 1) := by decide +kernel
theorem dX4_trusted_28 : decode cX4_trusted 28 = .ok (.invokevirtual 91, 3) := by decide +kernel
theorem dX4_trusted_31 : decode cX4_trusted 31 = .ok (.ifCond .ne 5, 3) := by decide +kernel
theorem dX4_trusted_34 : decode cX4_trusted 34 = .ok (.iconst (-1), 1) := by decide +kernel
theorem dX4_trusted_35 : decode cX4_trusted 35 = .ok (.ireturn, 1) := by decide +kernel
theorem dX4_trusted_36 : decode cX4_trusted 36 = .ok (.iload_n 2, 1) := by decide +kernel
theorem dX4_trusted_37 : decode cX4_trusted 37 = .ok (.ifCond .eq 10, 3) := by decide +kernel
theorem dX4_trusted_40 : decode cX4_trusted 40 = .ok (.aload_n 3, 1) := by decide +kernel
theorem dX4_trusted_41 : decode cX4_trusted 41 = .ok (.invokevirtual 151, 3) := by decide +kernel
theorem dX4_trusted_44 : decode cX4_trusted 44 = .ok (.goto 7, 3) := by decide +kernel
theorem dX4_trusted_47 : decode cX4_trusted 47 = .ok (.aload_n 3, 1) := by decide +kernel
theorem dX4_trusted_48 : decode cX4_trusted 48 = .ok (.invokevirtual 154, 3) := by decide +kernel
theorem dX4_trusted_51 : decode cX4_trusted 51 = .ok (.ireturn, 1) := by decide +kernel
set_option maxRecDepth 20000 in
theorem ggX4_seek_X4_refuseUnlessSearchable : GoodIn wsX4_seek wsX4_refuseUnlessSearchable := goodIn_ca (goodIn_ca (goodIn_r _ [7, 8, 9, 10, 11, 12, 13, 14, 6, 15, 16, 17, 18, 19, 20, 21, 22, 23, 24, 25, 26, 27, 28, 29, 30, 31, 32, 33, 34, 35, 36, 37, 38, 39, 40, 41, 42, 43, 44, 45, 46, 47, 48, 49, 50, 51, 52, 53, 54, 55, 56, 57, 58, 59, 60, 184, 185, 186, 187, 188, 189, 190, 191, 192, 193, 194, 195, 196, 197, 198, 199, 200, 201, 202, 203, 204, 205, 206, 207, 208] (by decide +kernel) (by decide +kernel)) (goodIn_sub (fun _ h => List.mem_cons_of_mem _ (List.mem_append_left _ (List.mem_append_right _ h))) (by decide +kernel))) (goodIn_sub (fun _ h => List.mem_cons_of_mem _ (List.mem_append_right _ h)) (by decide +kernel))
set_option maxRecDepth 20000 in
theorem gX4_seek_X4_refuseUnlessSearchable : GoodIn wsX4_seek (wsV RX4 157 RX4 yX4_refuseUnlessSearchable wsX4_refuseUnlessSearchable) := goodIn_app (goodIn_of _ (by decide +kernel)) ggX4_seek_X4_refuseUnlessSearchable
set_option maxRecDepth 20000 in
theorem ggX4_seek_X2_run : GoodIn wsX4_seek wsX2_run := goodIn_r _ [65, 66, 67, 68, 69, 70, 71, 72, 73, 74, 75, 76, 77, 78, 79, 80, 81, 82, 83, 84, 85, 86, 87, 88, 64, 89, 90, 91, 92, 26, 27, 19, 28, 29, 30, 93, 94, 95, 34, 96, 97, 98, 99, 100, 101, 102, 103, 104, 105, 106, 107, 108, 109, 110, 111, 112, 113, 114, 115, 116, 117, 118, 119, 120, 121, 122, 123, 124, 125, 126, 127, 128, 129, 130, 131, 132, 133, 134, 135, 136, 137, 138, 139, 48, 49, 50, 21, 22, 23, 24, 25, 31, 32, 33, 35, 36, 37, 38, 39, 40, 41, 42, 43, 44, 45, 46, 51, 52, 53, 54, 55, 56, 57, 58, 59, 60, 140, 141, 142, 143, 144, 145, 146, 147, 148, 149, 150, 151, 152, 153, 154, 155, 156, 157, 158, 159, 160, 161, 162, 163, 164, 165, 166, 167, 168, 169, 170, 171, 172, 173, 174, 175, 209, 210, 211, 212, 213, 214, 215, 216, 217, 191, 192, 193, 194, 195, 196, 197, 198, 199, 200, 201, 202, 203, 204, 205, 206, 207, 208] (by decide +kernel) (by decide +kernel)
set_option maxRecDepth 20000 in
theorem gX4_seek_X2_run : GoodIn wsX4_seek (wsV RX4 160 RX2 yX2_run wsX2_run) := goodIn_app (goodIn_of _ (by decide +kernel)) ggX4_seek_X2_run
set_option maxRecDepth 20000 in
theorem ggX4_seek_X2_visitCount : GoodIn wsX4_seek wsX2_visitCount := goodIn_r _ [179, 68, 209, 210, 211, 212, 213, 214, 215] (by decide +kernel) (by decide +kernel)
set_option maxRecDepth 20000 in
theorem gX4_seek_X2_visitCount : GoodIn wsX4_seek (wsV RX4 163 RX2 yX2_visitCount wsX2_visitCount) := goodIn_app (goodIn_of _ (by decide +kernel)) ggX4_seek_X2_visitCount
set_option maxRecDepth 20000 in
theorem ggX4_seek_X2_foundRole : GoodIn wsX4_seek wsX2_foundRole := goodIn_r _ [183, 69, 209, 210, 211, 212, 213, 214, 215] (by decide +kernel) (by decide +kernel)
set_option maxRecDepth 20000 in
theorem gX4_seek_X2_foundRole : GoodIn wsX4_seek (wsV RX4 170 RX2 yX2_foundRole wsX2_foundRole) := goodIn_app (goodIn_of _ (by decide +kernel)) ggX4_seek_X2_foundRole
theorem dX4_seek_0 : decode cX4_seek 0 = .ok (.aload_n 0, 1) := by decide +kernel
theorem dX4_seek_1 : decode cX4_seek 1 = .ok (.lload_n 1, 1) := by decide +kernel
theorem dX4_seek_2 : decode cX4_seek 2 = .ok (.iload_n 3, 1) := by decide +kernel
theorem dX4_seek_3 : decode cX4_seek 3 = .ok (.invokevirtual 157, 3) := by decide +kernel
theorem dX4_seek_6 : decode cX4_seek 6 = .ok (.aload_n 0, 1) := by decide +kernel
theorem dX4_seek_7 : decode cX4_seek 7 = .ok (.getfield 40, 3) := by decide +kernel
theorem dX4_seek_10 : decode cX4_seek 10 = .ok (.lload_n 1, 1) := by decide +kernel
theorem dX4_seek_11 : decode cX4_seek 11 = .ok (.iload_n 3, 1) := by decide +kernel
theorem dX4_seek_12 : decode cX4_seek 12 = .ok (.invokevirtual 160, 3) := by decide +kernel
theorem dX4_seek_15 : decode cX4_seek 15 = .ok (.aload_n 0, 1) := by decide +kernel
theorem dX4_seek_16 : decode cX4_seek 16 = .ok (.aload_n 0, 1) := by decide +kernel
theorem dX4_seek_17 : decode cX4_seek 17 = .ok (.getfield 40, 3) := by decide +kernel
theorem dX4_seek_20 : decode cX4_seek 20 = .ok (.invokevirtual 163, 3) := by decide +kernel
theorem dX4_seek_23 : decode cX4_seek 23 = .ok (.putfield 166, 3) := by decide +kernel
theorem dX4_seek_26 : decode cX4_seek 26 = .ok (.aload_n 0, 1) := by decide +kernel
theorem dX4_seek_27 : decode cX4_seek 27 = .ok (.getfield 40, 3) := by decide +kernel
theorem dX4_seek_30 : decode cX4_seek 30 = .ok (.invokevirtual 170, 3) := by decide +kernel
theorem dX4_seek_33 : decode cX4_seek 33 = .ok (.ireturn, 1) := by decide +kernel
theorem dX4_visits_0 : decode cX4_visits 0 = .ok (.aload_n 0, 1) := by decide +kernel
theorem dX4_visits_1 : decode cX4_visits 1 = .ok (.getfield 166, 3) := by decide +kernel
theorem dX4_visits_4 : decode cX4_visits 4 = .ok (.ireturn, 1) := by decide +kernel
set_option maxRecDepth 20000 in
theorem ggX4_install_X4_refuseUnlessSearchable : GoodIn wsX4_install wsX4_refuseUnlessSearchable := goodIn_ca (goodIn_ca (goodIn_r _ [13, 14, 15, 16, 17, 18, 19, 20, 12, 21, 22, 23, 24, 25, 26, 27, 28, 29, 30, 31, 32, 33, 34, 35, 36, 37, 38, 39, 40, 41, 42, 43, 44, 45, 46, 47, 48, 49, 50, 51, 52, 53, 54, 55, 56, 57, 58, 59, 60, 61, 62, 63, 64, 65, 66, 202, 203, 204, 205, 206, 207, 208, 209, 210, 211, 212, 213, 214, 215, 216, 217, 218, 219, 220, 221, 222, 223, 224, 225, 226] (by decide +kernel) (by decide +kernel)) (goodIn_sub (fun _ h => List.mem_cons_of_mem _ (List.mem_append_left _ (List.mem_append_right _ h))) (by decide +kernel))) (goodIn_sub (fun _ h => List.mem_cons_of_mem _ (List.mem_append_right _ h)) (by decide +kernel))
set_option maxRecDepth 20000 in
theorem gX4_install_X4_refuseUnlessSearchable : GoodIn wsX4_install (wsV RX4 157 RX4 yX4_refuseUnlessSearchable wsX4_refuseUnlessSearchable) := goodIn_app (goodIn_of _ (by decide +kernel)) ggX4_install_X4_refuseUnlessSearchable
set_option maxRecDepth 20000 in
theorem ggX4_install_X2_run : GoodIn wsX4_install wsX2_run := goodIn_r _ [71, 72, 73, 74, 75, 76, 77, 78, 79, 80, 81, 82, 83, 84, 85, 86, 87, 88, 89, 90, 91, 92, 93, 94, 70, 95, 96, 97, 98, 32, 33, 25, 34, 35, 36, 99, 100, 101, 40, 102, 103, 104, 105, 106, 107, 108, 109, 110, 111, 112, 113, 114, 115, 116, 117, 118, 119, 120, 121, 122, 123, 124, 125, 126, 127, 128, 129, 130, 131, 132, 133, 134, 135, 136, 137, 138, 139, 140, 141, 142, 143, 144, 145, 54, 55, 56, 27, 28, 29, 30, 31, 37, 38, 39, 41, 42, 43, 44, 45, 46, 47, 48, 49, 50, 51, 52, 57, 58, 59, 60, 61, 62, 63, 64, 65, 66, 146, 147, 148, 149, 150, 151, 152, 153, 154, 155, 156, 157, 158, 159, 160, 161, 162, 163, 164, 165, 166, 167, 168, 169, 170, 171, 172, 173, 174, 175, 176, 177, 178, 179, 180, 181, 227, 228, 229, 230, 231, 232, 233, 234, 235, 209, 210, 211, 212, 213, 214, 215, 216, 217, 218, 219, 220, 221, 222, 223, 224, 225, 226] (by decide +kernel) (by decide +kernel)
set_option maxRecDepth 20000 in
theorem gX4_install_X2_run : GoodIn wsX4_install (wsV RX4 160 RX2 yX2_run wsX2_run) := goodIn_app (goodIn_of _ (by decide +kernel)) ggX4_install_X2_run
set_option maxRecDepth 20000 in
theorem ggX4_install_X2_foundRole : GoodIn wsX4_install wsX2_foundRole := goodIn_r _ [185, 75, 227, 228, 229, 230, 231, 232, 233] (by decide +kernel) (by decide +kernel)
set_option maxRecDepth 20000 in
theorem gX4_install_X2_foundRole : GoodIn wsX4_install (wsV RX4 170 RX2 yX2_foundRole wsX2_foundRole) := goodIn_app (goodIn_of _ (by decide +kernel)) ggX4_install_X2_foundRole
set_option maxRecDepth 20000 in
theorem ggX4_install_X2_foundTargetIs : GoodIn wsX4_install wsX2_foundTargetIs := goodIn_r _ [189, 96, 75, 97, 98, 32, 33, 25, 34, 35, 36, 146, 147, 148, 40, 149, 105, 190, 107, 108, 80, 109, 82, 91, 191, 111, 112, 113, 192, 175, 176, 177, 193, 194, 195, 196, 197, 165, 166, 167, 168, 169, 227, 228, 229, 230, 231, 232, 233, 209, 210, 211, 212, 213, 214, 215, 216, 217, 218, 219, 220, 221, 222, 223, 224, 225, 226, 234, 235] (by decide +kernel) (by decide +kernel)
set_option maxRecDepth 20000 in
theorem gX4_install_X2_foundTargetIs : GoodIn wsX4_install (wsV RX4 173 RX2 yX2_foundTargetIs wsX2_foundTargetIs) := goodIn_app (goodIn_of _ (by decide +kernel)) ggX4_install_X2_foundTargetIs
set_option maxRecDepth 20000 in
theorem ggX4_install_X2_visitCount : GoodIn wsX4_install wsX2_visitCount := goodIn_r _ [201, 74, 227, 228, 229, 230, 231, 232, 233] (by decide +kernel) (by decide +kernel)
set_option maxRecDepth 20000 in
theorem gX4_install_X2_visitCount : GoodIn wsX4_install (wsV RX4 163 RX2 yX2_visitCount wsX2_visitCount) := goodIn_app (goodIn_of _ (by decide +kernel)) ggX4_install_X2_visitCount
theorem dX4_install_0 : decode cX4_install 0 = .ok (.aload_n 0, 1) := by decide +kernel
theorem dX4_install_1 : decode cX4_install 1 = .ok (.lload_n 1, 1) := by decide +kernel
theorem dX4_install_2 : decode cX4_install 2 = .ok (.iload_n 3, 1) := by decide +kernel
theorem dX4_install_3 : decode cX4_install 3 = .ok (.invokevirtual 157, 3) := by decide +kernel
theorem dX4_install_6 : decode cX4_install 6 = .ok (.aload_n 0, 1) := by decide +kernel
theorem dX4_install_7 : decode cX4_install 7 = .ok (.getfield 40, 3) := by decide +kernel
theorem dX4_install_10 : decode cX4_install 10 = .ok (.lload_n 1, 1) := by decide +kernel
theorem dX4_install_11 : decode cX4_install 11 = .ok (.iload_n 3, 1) := by decide +kernel
theorem dX4_install_12 : decode cX4_install 12 = .ok (.invokevirtual 160, 3) := by decide +kernel
theorem dX4_install_15 : decode cX4_install 15 = .ok (.aload_n 0, 1) := by decide +kernel
theorem dX4_install_16 : decode cX4_install 16 = .ok (.getfield 40, 3) := by decide +kernel
theorem dX4_install_19 : decode cX4_install 19 = .ok (.invokevirtual 170, 3) := by decide +kernel
theorem dX4_install_22 : decode cX4_install 22 = .ok (.iconst (-1), 1) := by decide +kernel
theorem dX4_install_23 : decode cX4_install 23 = .ok (.if_icmp .ne 11, 3) := by decide +kernel
theorem dX4_install_26 : decode cX4_install 26 = .ok (.new 141, 3) := by decide +kernel
theorem dX4_install_29 : decode cX4_install 29 = .ok (.dup, 1) := by decide +kernel
theorem dX4_install_30 : decode cX4_install 30 = .ok (.invokespecial 143, 3) := by decide +kernel
theorem dX4_install_33 : decode cX4_install 33 = .ok (.athrow, 1) := by decide +kernel
theorem dX4_install_34 : decode cX4_install 34 = .ok (.aload_n 0, 1) := by decide +kernel
theorem dX4_install_35 : decode cX4_install 35 = .ok (.getfield 40, 3) := by decide +kernel
theorem dX4_install_38 : decode cX4_install 38 = .ok (.aload_n 0, 1) := by decide +kernel
theorem dX4_install_39 : decode cX4_install 39 = .ok (.getfield 18, 3) := by decide +kernel
theorem dX4_install_42 : decode cX4_install 42 = .ok (.invokevirtual 173, 3) := by decide +kernel
theorem dX4_install_45 : decode cX4_install 45 = .ok (.ifCond .ne 11, 3) := by decide +kernel
theorem dX4_install_48 : decode cX4_install 48 = .ok (.new 100, 3) := by decide +kernel
theorem dX4_install_51 : decode cX4_install 51 = .ok (.dup, 1) := by decide +kernel
theorem dX4_install_52 : decode cX4_install 52 = .ok (.invokespecial 102, 3) := by decide +kernel
theorem dX4_install_55 : decode cX4_install 55 = .ok (.athrow, 1) := by decide +kernel
theorem dX4_install_56 : decode cX4_install 56 = .ok (.aload_n 0, 1) := by decide +kernel
theorem dX4_install_57 : decode cX4_install 57 = .ok (.aload_n 0, 1) := by decide +kernel
theorem dX4_install_58 : decode cX4_install 58 = .ok (.getfield 40, 3) := by decide +kernel
theorem dX4_install_61 : decode cX4_install 61 = .ok (.invokevirtual 163, 3) := by decide +kernel
theorem dX4_install_64 : decode cX4_install 64 = .ok (.putfield 166, 3) := by decide +kernel
theorem dX4_install_67 : decode cX4_install 67 = .ok (.aload_n 0, 1) := by decide +kernel
theorem dX4_install_68 : decode cX4_install 68 = .ok (.dup, 1) := by decide +kernel
theorem dX4_install_69 : decode cX4_install 69 = .ok (.getfield 177, 3) := by decide +kernel
theorem dX4_install_72 : decode cX4_install 72 = .ok (.iconst 1, 1) := by decide +kernel
theorem dX4_install_73 : decode cX4_install 73 = .ok (.iadd, 1) := by decide +kernel
theorem dX4_install_74 : decode cX4_install 74 = .ok (.putfield 177, 3) := by decide +kernel
theorem dX4_install_77 : decode cX4_install 77 = .ok (.aload_n 0, 1) := by decide +kernel
theorem dX4_install_78 : decode cX4_install 78 = .ok (.getfield 40, 3) := by decide +kernel
theorem dX4_install_81 : decode cX4_install 81 = .ok (.invokevirtual 170, 3) := by decide +kernel
theorem dX4_install_84 : decode cX4_install 84 = .ok (.ireturn, 1) := by decide +kernel
theorem dX4_installed_0 : decode cX4_installed 0 = .ok (.aload_n 0, 1) := by decide +kernel
theorem dX4_installed_1 : decode cX4_installed 1 = .ok (.getfield 177, 3) := by decide +kernel
theorem dX4_installed_4 : decode cX4_installed 4 = .ok (.ireturn, 1) := by decide +kernel
set_option maxRecDepth 20000 in
theorem ggX4_refuseUnlessSearchable_X4_isName : GoodIn wsX4_refuseUnlessSearchable wsX4_isName := goodIn_r _ [9] (by decide +kernel) (by decide +kernel)
set_option maxRecDepth 20000 in
theorem gX4_refuseUnlessSearchable_X4_isName : GoodIn wsX4_refuseUnlessSearchable (va_wsS RX4 180 yX4_isName wsX4_isName) := goodIn_app (goodIn_of _ (by decide +kernel)) ggX4_refuseUnlessSearchable_X4_isName
set_option maxRecDepth 20000 in
theorem ggX4_refuseUnlessSearchable_X3_allowsSeeking : GoodIn wsX4_refuseUnlessSearchable wsX3_allowsSeeking := goodIn_r _ [14, 15, 16, 17, 13, 18, 19, 20, 21, 22, 23, 24, 25, 26, 27, 28, 29, 30, 31, 32, 33, 34, 35, 36, 37, 38, 39, 40, 41, 42, 43, 44, 45, 46, 47, 48, 49, 50, 51, 52, 53, 54, 62, 63, 64, 65, 66, 67, 68, 69, 70, 71, 72, 73, 74, 75, 76, 77, 78, 79] (by decide +kernel) (by decide +kernel)
set_option maxRecDepth 20000 in
theorem gX4_refuseUnlessSearchable_X3_allowsSeeking : GoodIn wsX4_refuseUnlessSearchable (wsV RX4 184 RX3 yX3_allowsSeeking wsX3_allowsSeeking) := goodIn_app (goodIn_of _ (by decide +kernel)) ggX4_refuseUnlessSearchable_X3_allowsSeeking
theorem dX4_refuseUnlessSearchable_0 : decode cX4_refuseUnlessSearchable 0 = .ok (.lload_n 1, 1) := by decide +kernel
theorem dX4_refuseUnlessSearchable_1 : decode cX4_refuseUnlessSearchable 1 = .ok (.iload_n 3, 1) := by decide +kernel
theorem dX4_refuseUnlessSearchable_2 : decode cX4_refuseUnlessSearchable 2 = .ok (.invokestatic 180, 3) := by decide +kernel
theorem dX4_refuseUnlessSearchable_5 : decode cX4_refuseUnlessSearchable 5 = .ok (.ifCond .ne 11, 3) := by decide +kernel
theorem dX4_refuseUnlessSearchable_8 : decode cX4_refuseUnlessSearchable 8 = .ok (.new 94, 3) := by decide +kernel
theorem dX4_refuseUnlessSearchable_11 : decode cX4_refuseUnlessSearchable 11 = .ok (.dup, 1) := by decide +kernel
theorem dX4_refuseUnlessSearchable_12 : decode cX4_refuseUnlessSearchable 12 = .ok (.invokespecial 96, 3) := by decide +kernel
theorem dX4_refuseUnlessSearchable_15 : decode cX4_refuseUnlessSearchable 15 = .ok (.athrow, 1) := by decide +kernel
theorem dX4_refuseUnlessSearchable_16 : decode cX4_refuseUnlessSearchable 16 = .ok (.aload_n 0, 1) := by decide +kernel
theorem dX4_refuseUnlessSearchable_17 : decode cX4_refuseUnlessSearchable 17 = .ok (.getfield 31, 3) := by decide +kernel
theorem dX4_refuseUnlessSearchable_20 : decode cX4_refuseUnlessSearchable 20 = .ok (.invokevirtual 184, 3) := by decide +kernel
theorem dX4_refuseUnlessSearchable_23 : decode cX4_refuseUnlessSearchable 23 = .ok (.ifCond .ne 11, 3) := by decide +kernel
theorem dX4_refuseUnlessSearchable_26 : decode cX4_refuseUnlessSearchable 26 = .ok (.new 132, 3) := by decide +kernel
theorem dX4_refuseUnlessSearchable_29 : decode cX4_refuseUnlessSearchable 29 = .ok (.dup, 1) := by decide +kernel
theorem dX4_refuseUnlessSearchable_30 : decode cX4_refuseUnlessSearchable 30 = .ok (.invokespecial 134, 3) := by decide +kernel
theorem dX4_refuseUnlessSearchable_33 : decode cX4_refuseUnlessSearchable 33 = .ok (.athrow, 1) := by decide +kernel
theorem dX4_refuseUnlessSearchable_34 : decode cX4_refuseUnlessSearchable 34 = .ok (.return_, 1) := by decide +kernel
theorem dX4_isName_0 : decode cX4_isName 0 = .ok (.iload_n 2, 1) := by decide +kernel
theorem dX4_isName_1 : decode cX4_isName 1 = .ok (.iconst 1, 1) := by decide +kernel
theorem dX4_isName_2 : decode cX4_isName 2 = .ok (.if_icmp .lt 8, 3) := by decide +kernel
theorem dX4_isName_5 : decode cX4_isName 5 = .ok (.iload_n 2, 1) := by decide +kernel
theorem dX4_isName_6 : decode cX4_isName 6 = .ok (.iconst 4, 1) := by decide +kernel
theorem dX4_isName_7 : decode cX4_isName 7 = .ok (.if_icmp .le 5, 3) := by decide +kernel
theorem dX4_isName_10 : decode cX4_isName 10 = .ok (.iconst 0, 1) := by decide +kernel
theorem dX4_isName_11 : decode cX4_isName 11 = .ok (.ireturn, 1) := by decide +kernel
theorem dX4_isName_12 : decode cX4_isName 12 = .ok (.iconst 0, 1) := by decide +kernel
theorem dX4_isName_13 : decode cX4_isName 13 = .ok (.istore_n 3, 1) := by decide +kernel
theorem dX4_isName_14 : decode cX4_isName 14 = .ok (.iload_n 3, 1) := by decide +kernel
theorem dX4_isName_15 : decode cX4_isName 15 = .ok (.iload_n 2, 1) := by decide +kernel
theorem dX4_isName_16 : decode cX4_isName 16 = .ok (.if_icmp .ge 38, 3) := by decide +kernel
theorem dX4_isName_19 : decode cX4_isName 19 = .ok (.lload_n 0, 1) := by decide +kernel
theorem dX4_isName_20 : decode cX4_isName 20 = .ok (.bipush 8, 2) := by decide +kernel
theorem dX4_isName_22 : decode cX4_isName 22 = .ok (.iload_n 3, 1) := by decide +kernel
theorem dX4_isName_23 : decode cX4_isName 23 = .ok (.imul, 1) := by decide +kernel
theorem dX4_isName_24 : decode cX4_isName 24 = .ok (.lushr, 1) := by decide +kernel
theorem dX4_isName_25 : decode cX4_isName 25 = .ok (.l2i, 1) := by decide +kernel
theorem dX4_isName_26 : decode cX4_isName 26 = .ok (.sipush 255, 3) := by decide +kernel
theorem dX4_isName_29 : decode cX4_isName 29 = .ok (.iand, 1) := by decide +kernel
theorem dX4_isName_30 : decode cX4_isName 30 = .ok (.istore 4, 2) := by decide +kernel
theorem dX4_isName_32 : decode cX4_isName 32 = .ok (.iload 4, 2) := by decide +kernel
theorem dX4_isName_34 : decode cX4_isName 34 = .ok (.bipush 97, 2) := by decide +kernel
theorem dX4_isName_36 : decode cX4_isName 36 = .ok (.if_icmp .lt 10, 3) := by decide +kernel
theorem dX4_isName_39 : decode cX4_isName 39 = .ok (.iload 4, 2) := by decide +kernel
theorem dX4_isName_41 : decode cX4_isName 41 = .ok (.bipush 122, 2) := by decide +kernel
theorem dX4_isName_43 : decode cX4_isName 43 = .ok (.if_icmp .le 5, 3) := by decide +kernel
theorem dX4_isName_46 : decode cX4_isName 46 = .ok (.iconst 0, 1) := by decide +kernel
theorem dX4_isName_47 : decode cX4_isName 47 = .ok (.ireturn, 1) := by decide +kernel
theorem dX4_isName_48 : decode cX4_isName 48 = .ok (.iinc 3 1, 3) := by decide +kernel
theorem dX4_isName_51 : decode cX4_isName 51 = .ok (.goto (-37), 3) := by decide +kernel
theorem dX4_isName_54 : decode cX4_isName 54 = .ok (.iconst 1, 1) := by decide +kernel
theorem dX4_isName_55 : decode cX4_isName 55 = .ok (.ireturn, 1) := by decide +kernel
theorem dX5_init_0 : decode cX5_init 0 = .ok (.aload_n 0, 1) := by decide +kernel
theorem dX5_init_1 : decode cX5_init 1 = .ok (.invokespecial 1, 3) := by decide +kernel
theorem dX5_init_4 : decode cX5_init 4 = .ok (.aload_n 0, 1) := by decide +kernel
theorem dX5_init_5 : decode cX5_init 5 = .ok (.sipush 1080, 3) := by decide +kernel
theorem dX5_init_8 : decode cX5_init 8 = .ok (.newarray .int, 2) := by decide +kernel
theorem dX5_init_10 : decode cX5_init 10 = .ok (.putfield 7, 3) := by decide +kernel
theorem dX5_init_13 : decode cX5_init 13 = .ok (.aload_n 0, 1) := by decide +kernel
theorem dX5_init_14 : decode cX5_init 14 = .ok (.bipush 9, 2) := by decide +kernel
theorem dX5_init_16 : decode cX5_init 16 = .ok (.newarray .int, 2) := by decide +kernel
theorem dX5_init_18 : decode cX5_init 18 = .ok (.putfield 13, 3) := by decide +kernel
theorem dX5_init_21 : decode cX5_init 21 = .ok (.aload_n 0, 1) := by decide +kernel
theorem dX5_init_22 : decode cX5_init 22 = .ok (.bipush 7, 2) := by decide +kernel
theorem dX5_init_24 : decode cX5_init 24 = .ok (.newarray .boolean, 2) := by decide +kernel
theorem dX5_init_26 : decode cX5_init 26 = .ok (.putfield 16, 3) := by decide +kernel
theorem dX5_init_29 : decode cX5_init 29 = .ok (.aload_n 0, 1) := by decide +kernel
theorem dX5_init_30 : decode cX5_init 30 = .ok (.bipush 8, 2) := by decide +kernel
theorem dX5_init_32 : decode cX5_init 32 = .ok (.newarray .int, 2) := by decide +kernel
theorem dX5_init_34 : decode cX5_init 34 = .ok (.putfield 20, 3) := by decide +kernel
theorem dX5_init_37 : decode cX5_init 37 = .ok (.aload_n 0, 1) := by decide +kernel
theorem dX5_init_38 : decode cX5_init 38 = .ok (.bipush 8, 2) := by decide +kernel
theorem dX5_init_40 : decode cX5_init 40 = .ok (.newarray .int, 2) := by decide +kernel
theorem dX5_init_42 : decode cX5_init 42 = .ok (.putfield 23, 3) := by decide +kernel
theorem dX5_init_45 : decode cX5_init 45 = .ok (.return_, 1) := by decide +kernel
theorem dX5_thrown_0 : decode cX5_thrown 0 = .ok (.aload_n 0, 1) := by decide +kernel
theorem dX5_thrown_1 : decode cX5_thrown 1 = .ok (.getfield 26, 3) := by decide +kernel
theorem dX5_thrown_4 : decode cX5_thrown 4 = .ok (.ireturn, 1) := by decide +kernel
theorem dX5_fail_0 : decode cX5_fail 0 = .ok (.aload_n 0, 1) := by decide +kernel
theorem dX5_fail_1 : decode cX5_fail 1 = .ok (.iload_n 1, 1) := by decide +kernel
theorem dX5_fail_2 : decode cX5_fail 2 = .ok (.putfield 26, 3) := by decide +kernel
theorem dX5_fail_5 : decode cX5_fail 5 = .ok (.iconst 0, 1) := by decide +kernel
theorem dX5_fail_6 : decode cX5_fail 6 = .ok (.ireturn, 1) := by decide +kernel
theorem dX5_add_0 : decode cX5_add 0 = .ok (.aload_n 0, 1) := by decide +kernel
theorem dX5_add_1 : decode cX5_add 1 = .ok (.getfield 7, 3) := by decide +kernel
theorem dX5_add_4 : decode cX5_add 4 = .ok (.sipush 840, 3) := by decide +kernel
theorem dX5_add_7 : decode cX5_add 7 = .ok (.aload_n 0, 1) := by decide +kernel
theorem dX5_add_8 : decode cX5_add 8 = .ok (.getfield 13, 3) := by decide +kernel
theorem dX5_add_11 : decode cX5_add 11 = .ok (.bipush 7, 2) := by decide +kernel
theorem dX5_add_13 : decode cX5_add 13 = .ok (.iaload, 1) := by decide +kernel
theorem dX5_add_14 : decode cX5_add 14 = .ok (.iadd, 1) := by decide +kernel
theorem dX5_add_15 : decode cX5_add 15 = .ok (.iload_n 1, 1) := by decide +kernel
theorem dX5_add_16 : decode cX5_add 16 = .ok (.sipush 255, 3) := by decide +kernel
theorem dX5_add_19 : decode cX5_add 19 = .ok (.iand, 1) := by decide +kernel
theorem dX5_add_20 : decode cX5_add 20 = .ok (.iastore, 1) := by decide +kernel
theorem dX5_add_21 : decode cX5_add 21 = .ok (.aload_n 0, 1) := by decide +kernel
theorem dX5_add_22 : decode cX5_add 22 = .ok (.getfield 13, 3) := by decide +kernel
theorem dX5_add_25 : decode cX5_add 25 = .ok (.bipush 7, 2) := by decide +kernel
theorem dX5_add_27 : decode cX5_add 27 = .ok (.dup2, 1) := by decide +kernel
theorem dX5_add_28 : decode cX5_add 28 = .ok (.iaload, 1) := by decide +kernel
theorem dX5_add_29 : decode cX5_add 29 = .ok (.iconst 1, 1) := by decide +kernel
theorem dX5_add_30 : decode cX5_add 30 = .ok (.iadd, 1) := by decide +kernel
theorem dX5_add_31 : decode cX5_add 31 = .ok (.iastore, 1) := by decide +kernel
theorem dX5_add_32 : decode cX5_add 32 = .ok (.return_, 1) := by decide +kernel
set_option maxRecDepth 20000 in
theorem ggX5_put_X5_add : GoodIn wsX5_put wsX5_add := goodIn_r _ [8, 9, 2, 10, 11, 12, 13, 14, 15, 16, 17, 18, 19, 20, 21, 22, 23, 24, 25, 26, 27] (by decide +kernel) (by decide +kernel)
set_option maxRecDepth 20000 in
theorem gX5_put_X5_add : GoodIn wsX5_put (wsV RX5 32 RX5 yX5_add wsX5_add) := goodIn_app (goodIn_of _ (by decide +kernel)) ggX5_put_X5_add
theorem dX5_put_0 : decode cX5_put 0 = .ok (.aload_n 0, 1) := by decide +kernel
theorem dX5_put_1 : decode cX5_put 1 = .ok (.iconst 0, 1) := by decide +kernel
theorem dX5_put_2 : decode cX5_put 2 = .ok (.putfield 26, 3) := by decide +kernel
theorem dX5_put_5 : decode cX5_put 5 = .ok (.iload_n 3, 1) := by decide +kernel
theorem dX5_put_6 : decode cX5_put 6 = .ok (.iconst 1, 1) := by decide +kernel
theorem dX5_put_7 : decode cX5_put 7 = .ok (.if_icmp .lt 23, 3) := by decide +kernel
theorem dX5_put_10 : decode cX5_put 10 = .ok (.iload_n 3, 1) := by decide +kernel
