theorem dX5_trusted_34 : decode cX5_trusted 34 = .ok (.iload_n 1, 1) := by decide +kernel
theorem dX5_trusted_35 : decode cX5_trusted 35 = .ok (.baload, 1) := by decide +kernel
theorem dX5_trusted_36 : decode cX5_trusted 36 = .ok (.ifCond .ne 7, 3) := by decide +kernel
theorem dX5_trusted_39 : decode cX5_trusted 39 = .ok (.iconst (-1), 1) := by decide +kernel
theorem dX5_trusted_40 : decode cX5_trusted 40 = .ok (.goto 20, 3) := by decide +kernel
theorem dX5_trusted_43 : decode cX5_trusted 43 = .ok (.iload_n 2, 1) := by decide +kernel
theorem dX5_trusted_44 : decode cX5_trusted 44 = .ok (.ifCond .eq 11, 3) := by decide +kernel
theorem dX5_trusted_47 : decode cX5_trusted 47 = .ok (.aload_n 0, 1) := by decide +kernel
theorem dX5_trusted_48 : decode cX5_trusted 48 = .ok (.iload_n 1, 1) := by decide +kernel
theorem dX5_trusted_49 : decode cX5_trusted 49 = .ok (.invokevirtual 103, 3) := by decide +kernel
theorem dX5_trusted_52 : decode cX5_trusted 52 = .ok (.goto 8, 3) := by decide +kernel
theorem dX5_trusted_55 : decode cX5_trusted 55 = .ok (.aload_n 0, 1) := by decide +kernel
theorem dX5_trusted_56 : decode cX5_trusted 56 = .ok (.iload_n 1, 1) := by decide +kernel
theorem dX5_trusted_57 : decode cX5_trusted 57 = .ok (.invokevirtual 130, 3) := by decide +kernel
theorem dX5_trusted_60 : decode cX5_trusted 60 = .ok (.ireturn, 1) := by decide +kernel
theorem dX5_letter_0 : decode cX5_letter 0 = .ok (.lload_n 0, 1) := by decide +kernel
theorem dX5_letter_1 : decode cX5_letter 1 = .ok (.bipush 8, 2) := by decide +kernel
theorem dX5_letter_3 : decode cX5_letter 3 = .ok (.iload_n 2, 1) := by decide +kernel
theorem dX5_letter_4 : decode cX5_letter 4 = .ok (.imul, 1) := by decide +kernel
theorem dX5_letter_5 : decode cX5_letter 5 = .ok (.lshr, 1) := by decide +kernel
theorem dX5_letter_6 : decode cX5_letter 6 = .ok (.ldc2_w 30, 3) := by decide +kernel
theorem dX5_letter_9 : decode cX5_letter 9 = .ok (.land, 1) := by decide +kernel
theorem dX5_letter_10 : decode cX5_letter 10 = .ok (.l2i, 1) := by decide +kernel
theorem dX5_letter_11 : decode cX5_letter 11 = .ok (.ireturn, 1) := by decide +kernel
set_option maxRecDepth 20000 in
theorem ggX5_isName_X5_letter : GoodIn wsX5_isName wsX5_letter := goodIn_r _ [4, 5] (by decide +kernel) (by decide +kernel)
set_option maxRecDepth 20000 in
theorem gX5_isName_X5_letter : GoodIn wsX5_isName (va_wsS RX5 154 yX5_letter wsX5_letter) := goodIn_app (goodIn_of _ (by decide +kernel)) ggX5_isName_X5_letter
theorem dX5_isName_0 : decode cX5_isName 0 = .ok (.iload_n 2, 1) := by decide +kernel
theorem dX5_isName_1 : decode cX5_isName 1 = .ok (.ifCond .le 12, 3) := by decide +kernel
theorem dX5_isName_4 : decode cX5_isName 4 = .ok (.iload_n 2, 1) := by decide +kernel
theorem dX5_isName_5 : decode cX5_isName 5 = .ok (.iconst 5, 1) := by decide +kernel
theorem dX5_isName_6 : decode cX5_isName 6 = .ok (.if_icmp .ge 7, 3) := by decide +kernel
theorem dX5_isName_9 : decode cX5_isName 9 = .ok (.iconst 1, 1) := by decide +kernel
theorem dX5_isName_10 : decode cX5_isName 10 = .ok (.goto 4, 3) := by decide +kernel
theorem dX5_isName_13 : decode cX5_isName 13 = .ok (.iconst 0, 1) := by decide +kernel
theorem dX5_isName_14 : decode cX5_isName 14 = .ok (.istore_n 3, 1) := by decide +kernel
theorem dX5_isName_15 : decode cX5_isName 15 = .ok (.iconst 0, 1) := by decide +kernel
theorem dX5_isName_16 : decode cX5_isName 16 = .ok (.istore 4, 2) := by decide +kernel
theorem dX5_isName_18 : decode cX5_isName 18 = .ok (.iload 4, 2) := by decide +kernel
theorem dX5_isName_20 : decode cX5_isName 20 = .ok (.iload_n 2, 1) := by decide +kernel
theorem dX5_isName_21 : decode cX5_isName 21 = .ok (.if_icmp .ge 41, 3) := by decide +kernel
theorem dX5_isName_24 : decode cX5_isName 24 = .ok (.iload_n 3, 1) := by decide +kernel
theorem dX5_isName_25 : decode cX5_isName 25 = .ok (.ifCond .eq 37, 3) := by decide +kernel
theorem dX5_isName_28 : decode cX5_isName 28 = .ok (.lload_n 0, 1) := by decide +kernel
theorem dX5_isName_29 : decode cX5_isName 29 = .ok (.iload 4, 2) := by decide +kernel
theorem dX5_isName_31 : decode cX5_isName 31 = .ok (.invokestatic 154, 3) := by decide +kernel
theorem dX5_isName_34 : decode cX5_isName 34 = .ok (.bipush 97, 2) := by decide +kernel
theorem dX5_isName_36 : decode cX5_isName 36 = .ok (.if_icmp .lt 18, 3) := by decide +kernel
theorem dX5_isName_39 : decode cX5_isName 39 = .ok (.lload_n 0, 1) := by decide +kernel
theorem dX5_isName_40 : decode cX5_isName 40 = .ok (.iload 4, 2) := by decide +kernel
theorem dX5_isName_42 : decode cX5_isName 42 = .ok (.invokestatic 154, 3) := by decide +kernel
theorem dX5_isName_45 : decode cX5_isName 45 = .ok (.bipush 122, 2) := by decide +kernel
theorem dX5_isName_47 : decode cX5_isName 47 = .ok (.if_icmp .gt 7, 3) := by decide +kernel
theorem dX5_isName_50 : decode cX5_isName 50 = .ok (.iconst 1, 1) := by decide +kernel
theorem dX5_isName_51 : decode cX5_isName 51 = .ok (.goto 4, 3) := by decide +kernel
theorem dX5_isName_54 : decode cX5_isName 54 = .ok (.iconst 0, 1) := by decide +kernel
theorem dX5_isName_55 : decode cX5_isName 55 = .ok (.istore_n 3, 1) := by decide +kernel
theorem dX5_isName_56 : decode cX5_isName 56 = .ok (.iinc 4 1, 3) := by decide +kernel
theorem dX5_isName_59 : decode cX5_isName 59 = .ok (.goto (-41), 3) := by decide +kernel
theorem dX5_isName_62 : decode cX5_isName 62 = .ok (.iload_n 3, 1) := by decide +kernel
theorem dX5_isName_63 : decode cX5_isName 63 = .ok (.ireturn, 1) := by decide +kernel
set_option maxRecDepth 20000 in
theorem ggX5_begins_X5_letter : GoodIn wsX5_begins wsX5_letter := goodIn_r _ [5, 6] (by decide +kernel) (by decide +kernel)
set_option maxRecDepth 20000 in
theorem gX5_begins_X5_letter : GoodIn wsX5_begins (va_wsS RX5 154 yX5_letter wsX5_letter) := goodIn_app (goodIn_of _ (by decide +kernel)) ggX5_begins_X5_letter
theorem dX5_begins_0 : decode cX5_begins 0 = .ok (.iconst 1, 1) := by decide +kernel
theorem dX5_begins_1 : decode cX5_begins 1 = .ok (.istore 5, 2) := by decide +kernel
theorem dX5_begins_3 : decode cX5_begins 3 = .ok (.iconst 0, 1) := by decide +kernel
theorem dX5_begins_4 : decode cX5_begins 4 = .ok (.istore 6, 2) := by decide +kernel
theorem dX5_begins_6 : decode cX5_begins 6 = .ok (.iload 6, 2) := by decide +kernel
theorem dX5_begins_8 : decode cX5_begins 8 = .ok (.iload_n 2, 1) := by decide +kernel
theorem dX5_begins_9 : decode cX5_begins 9 = .ok (.if_icmp .ge 39, 3) := by decide +kernel
theorem dX5_begins_12 : decode cX5_begins 12 = .ok (.iload 5, 2) := by decide +kernel
theorem dX5_begins_14 : decode cX5_begins 14 = .ok (.ifCond .eq 25, 3) := by decide +kernel
theorem dX5_begins_17 : decode cX5_begins 17 = .ok (.aload_n 0, 1) := by decide +kernel
theorem dX5_begins_18 : decode cX5_begins 18 = .ok (.getfield 7, 3) := by decide +kernel
theorem dX5_begins_21 : decode cX5_begins 21 = .ok (.iload_n 1, 1) := by decide +kernel
theorem dX5_begins_22 : decode cX5_begins 22 = .ok (.iload 6, 2) := by decide +kernel
theorem dX5_begins_24 : decode cX5_begins 24 = .ok (.iadd, 1) := by decide +kernel
theorem dX5_begins_25 : decode cX5_begins 25 = .ok (.iaload, 1) := by decide +kernel
theorem dX5_begins_26 : decode cX5_begins 26 = .ok (.lload_n 3, 1) := by decide +kernel
theorem dX5_begins_27 : decode cX5_begins 27 = .ok (.iload 6, 2) := by decide +kernel
theorem dX5_begins_29 : decode cX5_begins 29 = .ok (.invokestatic 154, 3) := by decide +kernel
theorem dX5_begins_32 : decode cX5_begins 32 = .ok (.if_icmp .ne 7, 3) := by decide +kernel
theorem dX5_begins_35 : decode cX5_begins 35 = .ok (.iconst 1, 1) := by decide +kernel
theorem dX5_begins_36 : decode cX5_begins 36 = .ok (.goto 4, 3) := by decide +kernel
theorem dX5_begins_39 : decode cX5_begins 39 = .ok (.iconst 0, 1) := by decide +kernel
theorem dX5_begins_40 : decode cX5_begins 40 = .ok (.istore 5, 2) := by decide +kernel
theorem dX5_begins_42 : decode cX5_begins 42 = .ok (.iinc 6 1, 3) := by decide +kernel
theorem dX5_begins_45 : decode cX5_begins 45 = .ok (.goto (-39), 3) := by decide +kernel
theorem dX5_begins_48 : decode cX5_begins 48 = .ok (.iload 5, 2) := by decide +kernel
theorem dX5_begins_50 : decode cX5_begins 50 = .ok (.ireturn, 1) := by decide +kernel
set_option maxRecDepth 20000 in
theorem ggX5_isFresh_X5_stands : GoodIn wsX5_isFresh wsX5_stands := goodIn_r _ [5, 6, 7, 8, 9, 4, 10, 11, 12, 13, 14, 15, 16, 25, 26, 27, 28, 29, 30, 31, 32, 33, 34, 35, 36, 37, 38, 39, 40, 41, 42] (by decide +kernel) (by decide +kernel)
set_option maxRecDepth 20000 in
theorem gX5_isFresh_X5_stands : GoodIn wsX5_isFresh (wsV RX5 136 RX5 yX5_stands wsX5_stands) := goodIn_app (goodIn_of _ (by decide +kernel)) ggX5_isFresh_X5_stands
set_option maxRecDepth 20000 in
theorem ggX5_isFresh_X5_versionOf : GoodIn wsX5_isFresh wsX5_versionOf := goodIn_r _ [20, 16, 25, 26, 27, 28, 29, 30, 31, 32, 33, 34, 35, 36, 37, 38, 39, 40, 41, 42] (by decide +kernel) (by decide +kernel)
set_option maxRecDepth 20000 in
theorem gX5_isFresh_X5_versionOf : GoodIn wsX5_isFresh (wsV RX5 130 RX5 yX5_versionOf wsX5_versionOf) := goodIn_app (goodIn_of _ (by decide +kernel)) ggX5_isFresh_X5_versionOf
set_option maxRecDepth 20000 in
theorem ggX5_isFresh_X5_said : GoodIn wsX5_isFresh wsX5_said := goodIn_r _ [24, 16, 25, 26, 27, 28, 29, 30, 31, 32, 33, 34, 35, 36, 37, 38, 39, 40, 41, 42] (by decide +kernel) (by decide +kernel)
set_option maxRecDepth 20000 in
theorem gX5_isFresh_X5_said : GoodIn wsX5_isFresh (wsV RX5 139 RX5 yX5_said wsX5_said) := goodIn_app (goodIn_of _ (by decide +kernel)) ggX5_isFresh_X5_said
theorem dX5_isFresh_0 : decode cX5_isFresh 0 = .ok (.aload_n 0, 1) := by decide +kernel
theorem dX5_isFresh_1 : decode cX5_isFresh 1 = .ok (.iload_n 1, 1) := by decide +kernel
theorem dX5_isFresh_2 : decode cX5_isFresh 2 = .ok (.invokevirtual 136, 3) := by decide +kernel
theorem dX5_isFresh_5 : decode cX5_isFresh 5 = .ok (.ifCond .eq 21, 3) := by decide +kernel
theorem dX5_isFresh_8 : decode cX5_isFresh 8 = .ok (.aload_n 0, 1) := by decide +kernel
theorem dX5_isFresh_9 : decode cX5_isFresh 9 = .ok (.iload_n 1, 1) := by decide +kernel
theorem dX5_isFresh_10 : decode cX5_isFresh 10 = .ok (.invokevirtual 130, 3) := by decide +kernel
theorem dX5_isFresh_13 : decode cX5_isFresh 13 = .ok (.aload_n 0, 1) := by decide +kernel
theorem dX5_isFresh_14 : decode cX5_isFresh 14 = .ok (.iconst 2, 1) := by decide +kernel
theorem dX5_isFresh_15 : decode cX5_isFresh 15 = .ok (.iload_n 1, 1) := by decide +kernel
theorem dX5_isFresh_16 : decode cX5_isFresh 16 = .ok (.invokevirtual 139, 3) := by decide +kernel
theorem dX5_isFresh_19 : decode cX5_isFresh 19 = .ok (.if_icmp .ne 7, 3) := by decide +kernel
theorem dX5_isFresh_22 : decode cX5_isFresh 22 = .ok (.iconst 1, 1) := by decide +kernel
theorem dX5_isFresh_23 : decode cX5_isFresh 23 = .ok (.goto 4, 3) := by decide +kernel
theorem dX5_isFresh_26 : decode cX5_isFresh 26 = .ok (.iconst 0, 1) := by decide +kernel
theorem dX5_isFresh_27 : decode cX5_isFresh 27 = .ok (.ireturn, 1) := by decide +kernel
set_option maxRecDepth 20000 in
theorem ggX5_hasTarget_X5_begins : GoodIn wsX5_hasTarget wsX5_begins := goodIn_r _ [8, 1, 9, 10, 7, 11, 12, 17, 18, 19, 20, 21, 22, 23, 24, 25, 26, 27, 28, 29, 30, 31, 32, 33, 34] (by decide +kernel) (by decide +kernel)
set_option maxRecDepth 20000 in
theorem gX5_hasTarget_X5_begins : GoodIn wsX5_hasTarget (wsV RX5 158 RX5 yX5_begins wsX5_begins) := goodIn_app (goodIn_of _ (by decide +kernel)) ggX5_hasTarget_X5_begins
set_option maxRecDepth 20000 in
theorem ggX5_hasTarget_X5_four : GoodIn wsX5_hasTarget wsX5_four := goodIn_r _ [16, 1, 17, 18, 19, 20, 21, 22, 23, 24, 25, 26, 27, 28, 29, 30, 31, 32, 33, 34] (by decide +kernel) (by decide +kernel)
set_option maxRecDepth 20000 in
theorem gX5_hasTarget_X5_four : GoodIn wsX5_hasTarget (wsV RX5 93 RX5 yX5_four wsX5_four) := goodIn_app (goodIn_of _ (by decide +kernel)) ggX5_hasTarget_X5_four
theorem dX5_hasTarget_0 : decode cX5_hasTarget 0 = .ok (.bipush 120, 2) := by decide +kernel
theorem dX5_hasTarget_2 : decode cX5_hasTarget 2 = .ok (.iload_n 1, 1) := by decide +kernel
theorem dX5_hasTarget_3 : decode cX5_hasTarget 3 = .ok (.imul, 1) := by decide +kernel
theorem dX5_hasTarget_4 : decode cX5_hasTarget 4 = .ok (.iconst 5, 1) := by decide +kernel
theorem dX5_hasTarget_5 : decode cX5_hasTarget 5 = .ok (.iadd, 1) := by decide +kernel
theorem dX5_hasTarget_6 : decode cX5_hasTarget 6 = .ok (.istore 5, 2) := by decide +kernel
theorem dX5_hasTarget_8 : decode cX5_hasTarget 8 = .ok (.iconst 0, 1) := by decide +kernel
theorem dX5_hasTarget_9 : decode cX5_hasTarget 9 = .ok (.istore 6, 2) := by decide +kernel
theorem dX5_hasTarget_11 : decode cX5_hasTarget 11 = .ok (.iload 6, 2) := by decide +kernel
theorem dX5_hasTarget_13 : decode cX5_hasTarget 13 = .ok (.aload_n 0, 1) := by decide +kernel
theorem dX5_hasTarget_14 : decode cX5_hasTarget 14 = .ok (.getfield 7, 3) := by decide +kernel
theorem dX5_hasTarget_17 : decode cX5_hasTarget 17 = .ok (.bipush 120, 2) := by decide +kernel
theorem dX5_hasTarget_19 : decode cX5_hasTarget 19 = .ok (.iload_n 1, 1) := by decide +kernel
theorem dX5_hasTarget_20 : decode cX5_hasTarget 20 = .ok (.imul, 1) := by decide +kernel
theorem dX5_hasTarget_21 : decode cX5_hasTarget 21 = .ok (.iconst 4, 1) := by decide +kernel
theorem dX5_hasTarget_22 : decode cX5_hasTarget 22 = .ok (.iadd, 1) := by decide +kernel
theorem dX5_hasTarget_23 : decode cX5_hasTarget 23 = .ok (.iaload, 1) := by decide +kernel
theorem dX5_hasTarget_24 : decode cX5_hasTarget 24 = .ok (.if_icmp .ge 83, 3) := by decide +kernel
theorem dX5_hasTarget_27 : decode cX5_hasTarget 27 = .ok (.aload_n 0, 1) := by decide +kernel
theorem dX5_hasTarget_28 : decode cX5_hasTarget 28 = .ok (.getfield 7, 3) := by decide +kernel
theorem dX5_hasTarget_31 : decode cX5_hasTarget 31 = .ok (.iload 5, 2) := by decide +kernel
theorem dX5_hasTarget_33 : decode cX5_hasTarget 33 = .ok (.iaload, 1) := by decide +kernel
theorem dX5_hasTarget_34 : decode cX5_hasTarget 34 = .ok (.iload 4, 2) := by decide +kernel
theorem dX5_hasTarget_36 : decode cX5_hasTarget 36 = .ok (.if_icmp .ne 50, 3) := by decide +kernel
theorem dX5_hasTarget_39 : decode cX5_hasTarget 39 = .ok (.aload_n 0, 1) := by decide +kernel
theorem dX5_hasTarget_40 : decode cX5_hasTarget 40 = .ok (.iload 5, 2) := by decide +kernel
theorem dX5_hasTarget_42 : decode cX5_hasTarget 42 = .ok (.iconst 1, 1) := by decide +kernel
theorem dX5_hasTarget_43 : decode cX5_hasTarget 43 = .ok (.iadd, 1) := by decide +kernel
theorem dX5_hasTarget_44 : decode cX5_hasTarget 44 = .ok (.iload 4, 2) := by decide +kernel
theorem dX5_hasTarget_46 : decode cX5_hasTarget 46 = .ok (.lload_n 2, 1) := by decide +kernel
theorem dX5_hasTarget_47 : decode cX5_hasTarget 47 = .ok (.invokevirtual 158, 3) := by decide +kernel
theorem dX5_hasTarget_50 : decode cX5_hasTarget 50 = .ok (.ifCond .eq 36, 3) := by decide +kernel
theorem dX5_hasTarget_53 : decode cX5_hasTarget 53 = .ok (.aload_n 0, 1) := by decide +kernel
theorem dX5_hasTarget_54 : decode cX5_hasTarget 54 = .ok (.aload_n 0, 1) := by decide +kernel
theorem dX5_hasTarget_55 : decode cX5_hasTarget 55 = .ok (.getfield 7, 3) := by decide +kernel
theorem dX5_hasTarget_58 : decode cX5_hasTarget 58 = .ok (.iload 5, 2) := by decide +kernel
theorem dX5_hasTarget_60 : decode cX5_hasTarget 60 = .ok (.iconst 1, 1) := by decide +kernel
theorem dX5_hasTarget_61 : decode cX5_hasTarget 61 = .ok (.iadd, 1) := by decide +kernel
theorem dX5_hasTarget_62 : decode cX5_hasTarget 62 = .ok (.iload 4, 2) := by decide +kernel
theorem dX5_hasTarget_64 : decode cX5_hasTarget 64 = .ok (.iadd, 1) := by decide +kernel
theorem dX5_hasTarget_65 : decode cX5_hasTarget 65 = .ok (.iaload, 1) := by decide +kernel
theorem dX5_hasTarget_66 : decode cX5_hasTarget 66 = .ok (.putfield 162, 3) := by decide +kernel
theorem dX5_hasTarget_69 : decode cX5_hasTarget 69 = .ok (.aload_n 0, 1) := by decide +kernel
theorem dX5_hasTarget_70 : decode cX5_hasTarget 70 = .ok (.aload_n 0, 1) := by decide +kernel
theorem dX5_hasTarget_71 : decode cX5_hasTarget 71 = .ok (.iload 5, 2) := by decide +kernel
theorem dX5_hasTarget_73 : decode cX5_hasTarget 73 = .ok (.iconst 2, 1) := by decide +kernel
theorem dX5_hasTarget_74 : decode cX5_hasTarget 74 = .ok (.iadd, 1) := by decide +kernel
theorem dX5_hasTarget_75 : decode cX5_hasTarget 75 = .ok (.iload 4, 2) := by decide +kernel
theorem dX5_hasTarget_77 : decode cX5_hasTarget 77 = .ok (.iadd, 1) := by decide +kernel
theorem dX5_hasTarget_78 : decode cX5_hasTarget 78 = .ok (.invokevirtual 93, 3) := by decide +kernel
theorem dX5_hasTarget_81 : decode cX5_hasTarget 81 = .ok (.putfield 165, 3) := by decide +kernel
theorem dX5_hasTarget_84 : decode cX5_hasTarget 84 = .ok (.iconst 1, 1) := by decide +kernel
theorem dX5_hasTarget_85 : decode cX5_hasTarget 85 = .ok (.ireturn, 1) := by decide +kernel
theorem dX5_hasTarget_86 : decode cX5_hasTarget 86 = .ok (.iload 5, 2) := by decide +kernel
theorem dX5_hasTarget_88 : decode cX5_hasTarget 88 = .ok (.aload_n 0, 1) := by decide +kernel
theorem dX5_hasTarget_89 : decode cX5_hasTarget 89 = .ok (.getfield 7, 3) := by decide +kernel
theorem dX5_hasTarget_92 : decode cX5_hasTarget 92 = .ok (.iload 5, 2) := by decide +kernel
theorem dX5_hasTarget_94 : decode cX5_hasTarget 94 = .ok (.iaload, 1) := by decide +kernel
theorem dX5_hasTarget_95 : decode cX5_hasTarget 95 = .ok (.iadd, 1) := by decide +kernel
theorem dX5_hasTarget_96 : decode cX5_hasTarget 96 = .ok (.bipush 6, 2) := by decide +kernel
theorem dX5_hasTarget_98 : decode cX5_hasTarget 98 = .ok (.iadd, 1) := by decide +kernel
theorem dX5_hasTarget_99 : decode cX5_hasTarget 99 = .ok (.istore 5, 2) := by decide +kernel
theorem dX5_hasTarget_101 : decode cX5_hasTarget 101 = .ok (.iinc 6 1, 3) := by decide +kernel
theorem dX5_hasTarget_104 : decode cX5_hasTarget 104 = .ok (.goto (-93), 3) := by decide +kernel
theorem dX5_hasTarget_107 : decode cX5_hasTarget 107 = .ok (.iconst 0, 1) := by decide +kernel
theorem dX5_hasTarget_108 : decode cX5_hasTarget 108 = .ok (.ireturn, 1) := by decide +kernel
theorem dX5_delegation_0 : decode cX5_delegation 0 = .ok (.bipush 120, 2) := by decide +kernel
theorem dX5_delegation_2 : decode cX5_delegation 2 = .ok (.iload_n 1, 1) := by decide +kernel
theorem dX5_delegation_3 : decode cX5_delegation 3 = .ok (.imul, 1) := by decide +kernel
theorem dX5_delegation_4 : decode cX5_delegation 4 = .ok (.iconst 5, 1) := by decide +kernel
theorem dX5_delegation_5 : decode cX5_delegation 5 = .ok (.iadd, 1) := by decide +kernel
theorem dX5_delegation_6 : decode cX5_delegation 6 = .ok (.istore_n 3, 1) := by decide +kernel
theorem dX5_delegation_7 : decode cX5_delegation 7 = .ok (.iconst 0, 1) := by decide +kernel
theorem dX5_delegation_8 : decode cX5_delegation 8 = .ok (.istore 4, 2) := by decide +kernel
theorem dX5_delegation_10 : decode cX5_delegation 10 = .ok (.iload 4, 2) := by decide +kernel
theorem dX5_delegation_12 : decode cX5_delegation 12 = .ok (.aload_n 0, 1) := by decide +kernel
theorem dX5_delegation_13 : decode cX5_delegation 13 = .ok (.getfield 7, 3) := by decide +kernel
theorem dX5_delegation_16 : decode cX5_delegation 16 = .ok (.bipush 120, 2) := by decide +kernel
theorem dX5_delegation_18 : decode cX5_delegation 18 = .ok (.iload_n 1, 1) := by decide +kernel
theorem dX5_delegation_19 : decode cX5_delegation 19 = .ok (.imul, 1) := by decide +kernel
theorem dX5_delegation_20 : decode cX5_delegation 20 = .ok (.iconst 4, 1) := by decide +kernel
theorem dX5_delegation_21 : decode cX5_delegation 21 = .ok (.iadd, 1) := by decide +kernel
theorem dX5_delegation_22 : decode cX5_delegation 22 = .ok (.iaload, 1) := by decide +kernel
theorem dX5_delegation_23 : decode cX5_delegation 23 = .ok (.if_icmp .ge 21, 3) := by decide +kernel
theorem dX5_delegation_26 : decode cX5_delegation 26 = .ok (.iload_n 3, 1) := by decide +kernel
theorem dX5_delegation_27 : decode cX5_delegation 27 = .ok (.aload_n 0, 1) := by decide +kernel
theorem dX5_delegation_28 : decode cX5_delegation 28 = .ok (.getfield 7, 3) := by decide +kernel
theorem dX5_delegation_31 : decode cX5_delegation 31 = .ok (.iload_n 3, 1) := by decide +kernel
theorem dX5_delegation_32 : decode cX5_delegation 32 = .ok (.iaload, 1) := by decide +kernel
theorem dX5_delegation_33 : decode cX5_delegation 33 = .ok (.iadd, 1) := by decide +kernel
theorem dX5_delegation_34 : decode cX5_delegation 34 = .ok (.bipush 6, 2) := by decide +kernel
theorem dX5_delegation_36 : decode cX5_delegation 36 = .ok (.iadd, 1) := by decide +kernel
theorem dX5_delegation_37 : decode cX5_delegation 37 = .ok (.istore_n 3, 1) := by decide +kernel
theorem dX5_delegation_38 : decode cX5_delegation 38 = .ok (.iinc 4 1, 3) := by decide +kernel
theorem dX5_delegation_41 : decode cX5_delegation 41 = .ok (.goto (-31), 3) := by decide +kernel
theorem dX5_delegation_44 : decode cX5_delegation 44 = .ok (.iload_n 2, 1) := by decide +kernel
theorem dX5_delegation_45 : decode cX5_delegation 45 = .ok (.aload_n 0, 1) := by decide +kernel
theorem dX5_delegation_46 : decode cX5_delegation 46 = .ok (.getfield 7, 3) := by decide +kernel
theorem dX5_delegation_49 : decode cX5_delegation 49 = .ok (.iload_n 3, 1) := by decide +kernel
theorem dX5_delegation_50 : decode cX5_delegation 50 = .ok (.iaload, 1) := by decide +kernel
theorem dX5_delegation_51 : decode cX5_delegation 51 = .ok (.if_icmp .lt 5, 3) := by decide +kernel
theorem dX5_delegation_54 : decode cX5_delegation 54 = .ok (.iconst (-1), 1) := by decide +kernel
theorem dX5_delegation_55 : decode cX5_delegation 55 = .ok (.ireturn, 1) := by decide +kernel
theorem dX5_delegation_56 : decode cX5_delegation 56 = .ok (.iinc 3 1, 3) := by decide +kernel
theorem dX5_delegation_59 : decode cX5_delegation 59 = .ok (.iconst 0, 1) := by decide +kernel
theorem dX5_delegation_60 : decode cX5_delegation 60 = .ok (.istore 4, 2) := by decide +kernel
theorem dX5_delegation_62 : decode cX5_delegation 62 = .ok (.iload 4, 2) := by decide +kernel
theorem dX5_delegation_64 : decode cX5_delegation 64 = .ok (.iload_n 2, 1) := by decide +kernel
theorem dX5_delegation_65 : decode cX5_delegation 65 = .ok (.if_icmp .ge 36, 3) := by decide +kernel
theorem dX5_delegation_68 : decode cX5_delegation 68 = .ok (.iload_n 3, 1) := by decide +kernel
theorem dX5_delegation_69 : decode cX5_delegation 69 = .ok (.iconst 4, 1) := by decide +kernel
theorem dX5_delegation_70 : decode cX5_delegation 70 = .ok (.iadd, 1) := by decide +kernel
theorem dX5_delegation_71 : decode cX5_delegation 71 = .ok (.aload_n 0, 1) := by decide +kernel
theorem dX5_delegation_72 : decode cX5_delegation 72 = .ok (.getfield 7, 3) := by decide +kernel
theorem dX5_delegation_75 : decode cX5_delegation 75 = .ok (.iload_n 3, 1) := by decide +kernel
theorem dX5_delegation_76 : decode cX5_delegation 76 = .ok (.iconst 3, 1) := by decide +kernel
theorem dX5_delegation_77 : decode cX5_delegation 77 = .ok (.iadd, 1) := by decide +kernel
theorem dX5_delegation_78 : decode cX5_delegation 78 = .ok (.iaload, 1) := by decide +kernel
theorem dX5_delegation_79 : decode cX5_delegation 79 = .ok (.iadd, 1) := by decide +kernel
theorem dX5_delegation_80 : decode cX5_delegation 80 = .ok (.istore 5, 2) := by decide +kernel
theorem dX5_delegation_82 : decode cX5_delegation 82 = .ok (.iload 5, 2) := by decide +kernel
theorem dX5_delegation_84 : decode cX5_delegation 84 = .ok (.iconst 1, 1) := by decide +kernel
theorem dX5_delegation_85 : decode cX5_delegation 85 = .ok (.iadd, 1) := by decide +kernel
theorem dX5_delegation_86 : decode cX5_delegation 86 = .ok (.aload_n 0, 1) := by decide +kernel
theorem dX5_delegation_87 : decode cX5_delegation 87 = .ok (.getfield 7, 3) := by decide +kernel
theorem dX5_delegation_90 : decode cX5_delegation 90 = .ok (.iload 5, 2) := by decide +kernel
theorem dX5_delegation_92 : decode cX5_delegation 92 = .ok (.iaload, 1) := by decide +kernel
theorem dX5_delegation_93 : decode cX5_delegation 93 = .ok (.iadd, 1) := by decide +kernel
theorem dX5_delegation_94 : decode cX5_delegation 94 = .ok (.istore_n 3, 1) := by decide +kernel
theorem dX5_delegation_95 : decode cX5_delegation 95 = .ok (.iinc 4 1, 3) := by decide +kernel
theorem dX5_delegation_98 : decode cX5_delegation 98 = .ok (.goto (-36), 3) := by decide +kernel
theorem dX5_delegation_101 : decode cX5_delegation 101 = .ok (.iload_n 3, 1) := by decide +kernel
theorem dX5_delegation_102 : decode cX5_delegation 102 = .ok (.ireturn, 1) := by decide +kernel
theorem dX5_visit_0 : decode cX5_visit 0 = .ok (.aload_n 0, 1) := by decide +kernel
theorem dX5_visit_1 : decode cX5_visit 1 = .ok (.getfield 20, 3) := by decide +kernel
theorem dX5_visit_4 : decode cX5_visit 4 = .ok (.aload_n 0, 1) := by decide +kernel
theorem dX5_visit_5 : decode cX5_visit 5 = .ok (.getfield 168, 3) := by decide +kernel
theorem dX5_visit_8 : decode cX5_visit 8 = .ok (.iload_n 1, 1) := by decide +kernel
theorem dX5_visit_9 : decode cX5_visit 9 = .ok (.iastore, 1) := by decide +kernel
theorem dX5_visit_10 : decode cX5_visit 10 = .ok (.aload_n 0, 1) := by decide +kernel
theorem dX5_visit_11 : decode cX5_visit 11 = .ok (.getfield 23, 3) := by decide +kernel
theorem dX5_visit_14 : decode cX5_visit 14 = .ok (.aload_n 0, 1) := by decide +kernel
theorem dX5_visit_15 : decode cX5_visit 15 = .ok (.getfield 168, 3) := by decide +kernel
theorem dX5_visit_18 : decode cX5_visit 18 = .ok (.iconst 0, 1) := by decide +kernel
theorem dX5_visit_19 : decode cX5_visit 19 = .ok (.iastore, 1) := by decide +kernel
theorem dX5_visit_20 : decode cX5_visit 20 = .ok (.aload_n 0, 1) := by decide +kernel
theorem dX5_visit_21 : decode cX5_visit 21 = .ok (.dup, 1) := by decide +kernel
theorem dX5_visit_22 : decode cX5_visit 22 = .ok (.getfield 168, 3) := by decide +kernel
theorem dX5_visit_25 : decode cX5_visit 25 = .ok (.iconst 1, 1) := by decide +kernel
theorem dX5_visit_26 : decode cX5_visit 26 = .ok (.iadd, 1) := by decide +kernel
theorem dX5_visit_27 : decode cX5_visit 27 = .ok (.putfield 168, 3) := by decide +kernel
theorem dX5_visit_30 : decode cX5_visit 30 = .ok (.aload_n 0, 1) := by decide +kernel
theorem dX5_visit_31 : decode cX5_visit 31 = .ok (.dup, 1) := by decide +kernel
theorem dX5_visit_32 : decode cX5_visit 32 = .ok (.getfield 171, 3) := by decide +kernel
theorem dX5_visit_35 : decode cX5_visit 35 = .ok (.iconst 1, 1) := by decide +kernel
theorem dX5_visit_36 : decode cX5_visit 36 = .ok (.iadd, 1) := by decide +kernel
theorem dX5_visit_37 : decode cX5_visit 37 = .ok (.putfield 171, 3) := by decide +kernel
theorem dX5_visit_40 : decode cX5_visit 40 = .ok (.aload_n 0, 1) := by decide +kernel
theorem dX5_visit_41 : decode cX5_visit 41 = .ok (.aload_n 0, 1) := by decide +kernel
theorem dX5_visit_42 : decode cX5_visit 42 = .ok (.getfield 174, 3) := by decide +kernel
theorem dX5_visit_45 : decode cX5_visit 45 = .ok (.iconst 1, 1) := by decide +kernel
theorem dX5_visit_46 : decode cX5_visit 46 = .ok (.iload_n 1, 1) := by decide +kernel
theorem dX5_visit_47 : decode cX5_visit 47 = .ok (.ishl, 1) := by decide +kernel
theorem dX5_visit_48 : decode cX5_visit 48 = .ok (.ior, 1) := by decide +kernel
theorem dX5_visit_49 : decode cX5_visit 49 = .ok (.putfield 174, 3) := by decide +kernel
theorem dX5_visit_52 : decode cX5_visit 52 = .ok (.return_, 1) := by decide +kernel
set_option maxRecDepth 20000 in
theorem ggX5_find_X5_visit : GoodIn wsX5_find wsX5_visit := goodIn_r _ [11, 4, 1, 5, 2, 3, 120, 121, 122, 123, 124, 125, 126, 127, 128, 129, 130, 131, 132, 133, 134, 135, 136, 137] (by decide +kernel) (by decide +kernel)
set_option maxRecDepth 20000 in
theorem gX5_find_X5_visit : GoodIn wsX5_find (wsV RX5 177 RX5 yX5_visit wsX5_visit) := goodIn_app (goodIn_of _ (by decide +kernel)) ggX5_find_X5_visit
set_option maxRecDepth 20000 in
theorem ggX5_find_X5_hasTarget : GoodIn wsX5_find wsX5_hasTarget := goodIn_r _ [15, 6, 16, 17, 18, 19, 20, 10, 21, 22, 23, 24, 25, 26, 27, 28, 29, 120, 121, 122, 123, 124, 125, 126, 127, 128, 129, 130, 131, 132, 133, 134, 135, 136, 137] (by decide +kernel) (by decide +kernel)
set_option maxRecDepth 20000 in
theorem gX5_find_X5_hasTarget : GoodIn wsX5_find (wsV RX5 180 RX5 yX5_hasTarget wsX5_hasTarget) := goodIn_app (goodIn_of _ (by decide +kernel)) ggX5_find_X5_hasTarget
set_option maxRecDepth 20000 in
theorem ggX5_find_X5_delegation : GoodIn wsX5_find wsX5_delegation := goodIn_r _ [33, 6, 120, 121, 122, 123, 124, 125, 126, 127, 128, 129, 130, 131, 132, 133, 134, 135, 136, 137] (by decide +kernel) (by decide +kernel)
set_option maxRecDepth 20000 in
theorem gX5_find_X5_delegation : GoodIn wsX5_find (wsV RX5 184 RX5 yX5_delegation wsX5_delegation) := goodIn_app (goodIn_of _ (by decide +kernel)) ggX5_find_X5_delegation
set_option maxRecDepth 20000 in
theorem ggX5_find_X5_begins : GoodIn wsX5_find wsX5_begins := goodIn_r _ [21, 6, 22, 23, 10, 24, 25, 120, 121, 122, 123, 124, 125, 126, 127, 128, 129, 130, 131, 132, 133, 134, 135, 136, 137] (by decide +kernel) (by decide +kernel)
set_option maxRecDepth 20000 in
theorem gX5_find_X5_begins : GoodIn wsX5_find (wsV RX5 158 RX5 yX5_begins wsX5_begins) := goodIn_app (goodIn_of _ (by decide +kernel)) ggX5_find_X5_begins
set_option maxRecDepth 20000 in
theorem ggX5_find_X5_isFresh : GoodIn wsX5_find wsX5_isFresh := goodIn_r _ [37, 38, 39, 40, 10, 41, 42, 43, 44, 45, 46, 47, 48, 49, 50, 51, 6, 52, 53, 54, 55, 56, 57, 58, 59, 120, 121, 122, 123, 124, 125, 126, 127, 128, 129, 130, 131, 132, 133, 134, 135, 136, 137] (by decide +kernel) (by decide +kernel)
set_option maxRecDepth 20000 in
theorem gX5_find_X5_isFresh : GoodIn wsX5_find (wsV RX5 187 RX5 yX5_isFresh wsX5_isFresh) := goodIn_app (goodIn_of _ (by decide +kernel)) ggX5_find_X5_isFresh
set_option maxRecDepth 20000 in
theorem ggX5_find_X5_isSigned : GoodIn wsX5_find wsX5_isSigned := goodIn_r _ [63, 6, 64, 65, 66, 10, 67, 68, 69, 70, 71, 72, 73, 74, 75, 76, 77, 78, 79, 80, 81, 82, 83, 84, 85, 86, 87, 88, 89, 90, 91, 92, 93, 94, 95, 96, 97, 98, 99, 100, 101, 102, 103, 104, 105, 106, 107, 108, 109, 110, 111, 112, 113, 114, 115, 116, 117, 118, 119, 26, 27, 28, 29, 120, 121, 122, 123, 124, 125, 126, 127, 128, 129, 130, 131, 132, 133, 134, 135, 136, 137] (by decide +kernel) (by decide +kernel)
set_option maxRecDepth 20000 in
theorem gX5_find_X5_isSigned : GoodIn wsX5_find (wsV RX5 127 RX5 yX5_isSigned wsX5_isSigned) := goodIn_app (goodIn_of _ (by decide +kernel)) ggX5_find_X5_isSigned
theorem dX5_find_0 : decode cX5_find 0 = .ok (.aload_n 0, 1) := by decide +kernel
theorem dX5_find_1 : decode cX5_find 1 = .ok (.iconst 0, 1) := by decide +kernel
theorem dX5_find_2 : decode cX5_find 2 = .ok (.putfield 168, 3) := by decide +kernel
theorem dX5_find_5 : decode cX5_find 5 = .ok (.aload_n 0, 1) := by decide +kernel
theorem dX5_find_6 : decode cX5_find 6 = .ok (.iconst 0, 1) := by decide +kernel
theorem dX5_find_7 : decode cX5_find 7 = .ok (.putfield 171, 3) := by decide +kernel
theorem dX5_find_10 : decode cX5_find 10 = .ok (.aload_n 0, 1) := by decide +kernel
theorem dX5_find_11 : decode cX5_find 11 = .ok (.iconst 0, 1) := by decide +kernel
theorem dX5_find_12 : decode cX5_find 12 = .ok (.putfield 174, 3) := by decide +kernel
theorem dX5_find_15 : decode cX5_find 15 = .ok (.aload_n 0, 1) := by decide +kernel
theorem dX5_find_16 : decode cX5_find 16 = .ok (.iconst 3, 1) := by decide +kernel
theorem dX5_find_17 : decode cX5_find 17 = .ok (.invokevirtual 177, 3) := by decide +kernel
theorem dX5_find_20 : decode cX5_find 20 = .ok (.aload_n 0, 1) := by decide +kernel
theorem dX5_find_21 : decode cX5_find 21 = .ok (.getfield 168, 3) := by decide +kernel
theorem dX5_find_24 : decode cX5_find 24 = .ok (.ifCond .le 279, 3) := by decide +kernel
theorem dX5_find_27 : decode cX5_find 27 = .ok (.aload_n 0, 1) := by decide +kernel
theorem dX5_find_28 : decode cX5_find 28 = .ok (.getfield 20, 3) := by decide +kernel
theorem dX5_find_31 : decode cX5_find 31 = .ok (.aload_n 0, 1) := by decide +kernel
theorem dX5_find_32 : decode cX5_find 32 = .ok (.getfield 168, 3) := by decide +kernel
theorem dX5_find_35 : decode cX5_find 35 = .ok (.iconst 1, 1) := by decide +kernel
theorem dX5_find_36 : decode cX5_find 36 = .ok (.isub, 1) := by decide +kernel
theorem dX5_find_37 : decode cX5_find 37 = .ok (.iaload, 1) := by decide +kernel
theorem dX5_find_38 : decode cX5_find 38 = .ok (.istore 4, 2) := by decide +kernel
theorem dX5_find_40 : decode cX5_find 40 = .ok (.aload_n 0, 1) := by decide +kernel
theorem dX5_find_41 : decode cX5_find 41 = .ok (.getfield 23, 3) := by decide +kernel
theorem dX5_find_44 : decode cX5_find 44 = .ok (.aload_n 0, 1) := by decide +kernel
theorem dX5_find_45 : decode cX5_find 45 = .ok (.getfield 168, 3) := by decide +kernel
theorem dX5_find_48 : decode cX5_find 48 = .ok (.iconst 1, 1) := by decide +kernel
theorem dX5_find_49 : decode cX5_find 49 = .ok (.isub, 1) := by decide +kernel
theorem dX5_find_50 : decode cX5_find 50 = .ok (.iaload, 1) := by decide +kernel
theorem dX5_find_51 : decode cX5_find 51 = .ok (.ifCond .ne 17, 3) := by decide +kernel
theorem dX5_find_54 : decode cX5_find 54 = .ok (.aload_n 0, 1) := by decide +kernel
theorem dX5_find_55 : decode cX5_find 55 = .ok (.iload 4, 2) := by decide +kernel
theorem dX5_find_57 : decode cX5_find 57 = .ok (.lload_n 1, 1) := by decide +kernel
theorem dX5_find_58 : decode cX5_find 58 = .ok (.iload_n 3, 1) := by decide +kernel
theorem dX5_find_59 : decode cX5_find 59 = .ok (.invokevirtual 180, 3) := by decide +kernel
theorem dX5_find_62 : decode cX5_find 62 = .ok (.ifCond .eq 6, 3) := by decide +kernel
theorem dX5_find_65 : decode cX5_find 65 = .ok (.iload 4, 2) := by decide +kernel
theorem dX5_find_67 : decode cX5_find 67 = .ok (.ireturn, 1) := by decide +kernel
theorem dX5_find_68 : decode cX5_find 68 = .ok (.aload_n 0, 1) := by decide +kernel
theorem dX5_find_69 : decode cX5_find 69 = .ok (.iload 4, 2) := by decide +kernel
theorem dX5_find_71 : decode cX5_find 71 = .ok (.aload_n 0, 1) := by decide +kernel
theorem dX5_find_72 : decode cX5_find 72 = .ok (.getfield 23, 3) := by decide +kernel
theorem dX5_find_75 : decode cX5_find 75 = .ok (.aload_n 0, 1) := by decide +kernel
theorem dX5_find_76 : decode cX5_find 76 = .ok (.getfield 168, 3) := by decide +kernel
theorem dX5_find_79 : decode cX5_find 79 = .ok (.iconst 1, 1) := by decide +kernel
theorem dX5_find_80 : decode cX5_find 80 = .ok (.isub, 1) := by decide +kernel
theorem dX5_find_81 : decode cX5_find 81 = .ok (.iaload, 1) := by decide +kernel
theorem dX5_find_82 : decode cX5_find 82 = .ok (.invokevirtual 184, 3) := by decide +kernel
theorem dX5_find_85 : decode cX5_find 85 = .ok (.istore 5, 2) := by decide +kernel
theorem dX5_find_87 : decode cX5_find 87 = .ok (.iload 5, 2) := by decide +kernel
theorem dX5_find_89 : decode cX5_find 89 = .ok (.ifCond .ge 78, 3) := by decide +kernel
theorem dX5_find_92 : decode cX5_find 92 = .ok (.aload_n 0, 1) := by decide +kernel
theorem dX5_find_93 : decode cX5_find 93 = .ok (.dup, 1) := by decide +kernel
theorem dX5_find_94 : decode cX5_find 94 = .ok (.getfield 168, 3) := by decide +kernel
theorem dX5_find_97 : decode cX5_find 97 = .ok (.iconst 1, 1) := by decide +kernel
theorem dX5_find_98 : decode cX5_find 98 = .ok (.isub, 1) := by decide +kernel
theorem dX5_find_99 : decode cX5_find 99 = .ok (.putfield 168, 3) := by decide +kernel
theorem dX5_find_102 : decode cX5_find 102 = .ok (.aload_n 0, 1) := by decide +kernel
theorem dX5_find_103 : decode cX5_find 103 = .ok (.getfield 168, 3) := by decide +kernel
theorem dX5_find_106 : decode cX5_find 106 = .ok (.ifCond .le 194, 3) := by decide +kernel
theorem dX5_find_109 : decode cX5_find 109 = .ok (.aload_n 0, 1) := by decide +kernel
theorem dX5_find_110 : decode cX5_find 110 = .ok (.aload_n 0, 1) := by decide +kernel
theorem dX5_find_111 : decode cX5_find 111 = .ok (.getfield 20, 3) := by decide +kernel
theorem dX5_find_114 : decode cX5_find 114 = .ok (.aload_n 0, 1) := by decide +kernel
theorem dX5_find_115 : decode cX5_find 115 = .ok (.getfield 168, 3) := by decide +kernel
theorem dX5_find_118 : decode cX5_find 118 = .ok (.iconst 1, 1) := by decide +kernel
theorem dX5_find_119 : decode cX5_find 119 = .ok (.isub, 1) := by decide +kernel
theorem dX5_find_120 : decode cX5_find 120 = .ok (.iaload, 1) := by decide +kernel
theorem dX5_find_121 : decode cX5_find 121 = .ok (.aload_n 0, 1) := by decide +kernel
theorem dX5_find_122 : decode cX5_find 122 = .ok (.getfield 23, 3) := by decide +kernel
theorem dX5_find_125 : decode cX5_find 125 = .ok (.aload_n 0, 1) := by decide +kernel
theorem dX5_find_126 : decode cX5_find 126 = .ok (.getfield 168, 3) := by decide +kernel
theorem dX5_find_129 : decode cX5_find 129 = .ok (.iconst 1, 1) := by decide +kernel
theorem dX5_find_130 : decode cX5_find 130 = .ok (.isub, 1) := by decide +kernel
theorem dX5_find_131 : decode cX5_find 131 = .ok (.iaload, 1) := by decide +kernel
theorem dX5_find_132 : decode cX5_find 132 = .ok (.iconst 1, 1) := by decide +kernel
theorem dX5_find_133 : decode cX5_find 133 = .ok (.isub, 1) := by decide +kernel
theorem dX5_find_134 : decode cX5_find 134 = .ok (.invokevirtual 184, 3) := by decide +kernel
theorem dX5_find_137 : decode cX5_find 137 = .ok (.istore 6, 2) := by decide +kernel
theorem dX5_find_139 : decode cX5_find 139 = .ok (.aload_n 0, 1) := by decide +kernel
theorem dX5_find_140 : decode cX5_find 140 = .ok (.aload_n 0, 1) := by decide +kernel
theorem dX5_find_141 : decode cX5_find 141 = .ok (.getfield 7, 3) := by decide +kernel
theorem dX5_find_144 : decode cX5_find 144 = .ok (.iload 6, 2) := by decide +kernel
theorem dX5_find_146 : decode cX5_find 146 = .ok (.iconst 1, 1) := by decide +kernel
theorem dX5_find_147 : decode cX5_find 147 = .ok (.iadd, 1) := by decide +kernel
theorem dX5_find_148 : decode cX5_find 148 = .ok (.iaload, 1) := by decide +kernel
theorem dX5_find_149 : decode cX5_find 149 = .ok (.iconst 1, 1) := by decide +kernel
theorem dX5_find_150 : decode cX5_find 150 = .ok (.if_icmp .ne 7, 3) := by decide +kernel
theorem dX5_find_153 : decode cX5_find 153 = .ok (.iconst 0, 1) := by decide +kernel
theorem dX5_find_154 : decode cX5_find 154 = .ok (.goto 7, 3) := by decide +kernel
theorem dX5_find_157 : decode cX5_find 157 = .ok (.aload_n 0, 1) := by decide +kernel
theorem dX5_find_158 : decode cX5_find 158 = .ok (.getfield 168, 3) := by decide +kernel
theorem dX5_find_161 : decode cX5_find 161 = .ok (.putfield 168, 3) := by decide +kernel
theorem dX5_find_164 : decode cX5_find 164 = .ok (.goto 136, 3) := by decide +kernel
theorem dX5_find_167 : decode cX5_find 167 = .ok (.aload_n 0, 1) := by decide +kernel
theorem dX5_find_168 : decode cX5_find 168 = .ok (.getfield 23, 3) := by decide +kernel
theorem dX5_find_171 : decode cX5_find 171 = .ok (.aload_n 0, 1) := by decide +kernel
theorem dX5_find_172 : decode cX5_find 172 = .ok (.getfield 168, 3) := by decide +kernel
theorem dX5_find_175 : decode cX5_find 175 = .ok (.iconst 1, 1) := by decide +kernel
theorem dX5_find_176 : decode cX5_find 176 = .ok (.isub, 1) := by decide +kernel
theorem dX5_find_177 : decode cX5_find 177 = .ok (.dup2, 1) := by decide +kernel
theorem dX5_find_178 : decode cX5_find 178 = .ok (.iaload, 1) := by decide +kernel
theorem dX5_find_179 : decode cX5_find 179 = .ok (.iconst 1, 1) := by decide +kernel
theorem dX5_find_180 : decode cX5_find 180 = .ok (.iadd, 1) := by decide +kernel
theorem dX5_find_181 : decode cX5_find 181 = .ok (.iastore, 1) := by decide +kernel
theorem dX5_find_182 : decode cX5_find 182 = .ok (.iload 5, 2) := by decide +kernel
theorem dX5_find_184 : decode cX5_find 184 = .ok (.iconst 4, 1) := by decide +kernel
theorem dX5_find_185 : decode cX5_find 185 = .ok (.iadd, 1) := by decide +kernel
theorem dX5_find_186 : decode cX5_find 186 = .ok (.aload_n 0, 1) := by decide +kernel
theorem dX5_find_187 : decode cX5_find 187 = .ok (.getfield 7, 3) := by decide +kernel
theorem dX5_find_190 : decode cX5_find 190 = .ok (.iload 5, 2) := by decide +kernel
theorem dX5_find_192 : decode cX5_find 192 = .ok (.iconst 3, 1) := by decide +kernel
theorem dX5_find_193 : decode cX5_find 193 = .ok (.iadd, 1) := by decide +kernel
theorem dX5_find_194 : decode cX5_find 194 = .ok (.iaload, 1) := by decide +kernel
theorem dX5_find_195 : decode cX5_find 195 = .ok (.iadd, 1) := by decide +kernel
theorem dX5_find_196 : decode cX5_find 196 = .ok (.istore 6, 2) := by decide +kernel
theorem dX5_find_198 : decode cX5_find 198 = .ok (.aload_n 0, 1) := by decide +kernel
theorem dX5_find_199 : decode cX5_find 199 = .ok (.getfield 7, 3) := by decide +kernel
theorem dX5_find_202 : decode cX5_find 202 = .ok (.iload 6, 2) := by decide +kernel
theorem dX5_find_204 : decode cX5_find 204 = .ok (.iaload, 1) := by decide +kernel
theorem dX5_find_205 : decode cX5_find 205 = .ok (.iload_n 3, 1) := by decide +kernel
theorem dX5_find_206 : decode cX5_find 206 = .ok (.if_icmp .gt 43, 3) := by decide +kernel
theorem dX5_find_209 : decode cX5_find 209 = .ok (.aload_n 0, 1) := by decide +kernel
theorem dX5_find_210 : decode cX5_find 210 = .ok (.iload 6, 2) := by decide +kernel
theorem dX5_find_212 : decode cX5_find 212 = .ok (.iconst 1, 1) := by decide +kernel
theorem dX5_find_213 : decode cX5_find 213 = .ok (.iadd, 1) := by decide +kernel
theorem dX5_find_214 : decode cX5_find 214 = .ok (.aload_n 0, 1) := by decide +kernel
theorem dX5_find_215 : decode cX5_find 215 = .ok (.getfield 7, 3) := by decide +kernel
theorem dX5_find_218 : decode cX5_find 218 = .ok (.iload 6, 2) := by decide +kernel
theorem dX5_find_220 : decode cX5_find 220 = .ok (.iaload, 1) := by decide +kernel
theorem dX5_find_221 : decode cX5_find 221 = .ok (.lload_n 1, 1) := by decide +kernel
theorem dX5_find_222 : decode cX5_find 222 = .ok (.invokevirtual 158, 3) := by decide +kernel
theorem dX5_find_225 : decode cX5_find 225 = .ok (.ifCond .eq 24, 3) := by decide +kernel
theorem dX5_find_228 : decode cX5_find 228 = .ok (.aload_n 0, 1) := by decide +kernel
theorem dX5_find_229 : decode cX5_find 229 = .ok (.getfield 174, 3) := by decide +kernel
theorem dX5_find_232 : decode cX5_find 232 = .ok (.aload_n 0, 1) := by decide +kernel
theorem dX5_find_233 : decode cX5_find 233 = .ok (.getfield 7, 3) := by decide +kernel
theorem dX5_find_236 : decode cX5_find 236 = .ok (.iload 5, 2) := by decide +kernel
theorem dX5_find_238 : decode cX5_find 238 = .ok (.iaload, 1) := by decide +kernel
theorem dX5_find_239 : decode cX5_find 239 = .ok (.ishr, 1) := by decide +kernel
theorem dX5_find_240 : decode cX5_find 240 = .ok (.iconst 1, 1) := by decide +kernel
theorem dX5_find_241 : decode cX5_find 241 = .ok (.iand, 1) := by decide +kernel
theorem dX5_find_242 : decode cX5_find 242 = .ok (.ifCond .ne 7, 3) := by decide +kernel
theorem dX5_find_245 : decode cX5_find 245 = .ok (.iconst 1, 1) := by decide +kernel
theorem dX5_find_246 : decode cX5_find 246 = .ok (.goto 4, 3) := by decide +kernel
theorem dX5_find_249 : decode cX5_find 249 = .ok (.iconst 0, 1) := by decide +kernel
theorem dX5_find_250 : decode cX5_find 250 = .ok (.istore 7, 2) := by decide +kernel
theorem dX5_find_252 : decode cX5_find 252 = .ok (.iload 7, 2) := by decide +kernel
theorem dX5_find_254 : decode cX5_find 254 = .ok (.ifCond .eq 46, 3) := by decide +kernel
theorem dX5_find_257 : decode cX5_find 257 = .ok (.aload_n 0, 1) := by decide +kernel
theorem dX5_find_258 : decode cX5_find 258 = .ok (.aload_n 0, 1) := by decide +kernel
theorem dX5_find_259 : decode cX5_find 259 = .ok (.getfield 7, 3) := by decide +kernel
theorem dX5_find_262 : decode cX5_find 262 = .ok (.iload 5, 2) := by decide +kernel
theorem dX5_find_264 : decode cX5_find 264 = .ok (.iaload, 1) := by decide +kernel
theorem dX5_find_265 : decode cX5_find 265 = .ok (.invokevirtual 187, 3) := by decide +kernel
theorem dX5_find_268 : decode cX5_find 268 = .ok (.ifCond .eq 32, 3) := by decide +kernel
theorem dX5_find_271 : decode cX5_find 271 = .ok (.aload_n 0, 1) := by decide +kernel
theorem dX5_find_272 : decode cX5_find 272 = .ok (.aload_n 0, 1) := by decide +kernel
theorem dX5_find_273 : decode cX5_find 273 = .ok (.getfield 7, 3) := by decide +kernel
theorem dX5_find_276 : decode cX5_find 276 = .ok (.iload 5, 2) := by decide +kernel
theorem dX5_find_278 : decode cX5_find 278 = .ok (.iaload, 1) := by decide +kernel
theorem dX5_find_279 : decode cX5_find 279 = .ok (.iload 5, 2) := by decide +kernel
theorem dX5_find_281 : decode cX5_find 281 = .ok (.iconst 2, 1) := by decide +kernel
theorem dX5_find_282 : decode cX5_find 282 = .ok (.iadd, 1) := by decide +kernel
theorem dX5_find_283 : decode cX5_find 283 = .ok (.invokevirtual 127, 3) := by decide +kernel
theorem dX5_find_286 : decode cX5_find 286 = .ok (.ifCond .eq 14, 3) := by decide +kernel
theorem dX5_find_289 : decode cX5_find 289 = .ok (.aload_n 0, 1) := by decide +kernel
theorem dX5_find_290 : decode cX5_find 290 = .ok (.aload_n 0, 1) := by decide +kernel
theorem dX5_find_291 : decode cX5_find 291 = .ok (.getfield 7, 3) := by decide +kernel
theorem dX5_find_294 : decode cX5_find 294 = .ok (.iload 5, 2) := by decide +kernel
theorem dX5_find_296 : decode cX5_find 296 = .ok (.iaload, 1) := by decide +kernel
theorem dX5_find_297 : decode cX5_find 297 = .ok (.invokevirtual 177, 3) := by decide +kernel
theorem dX5_find_300 : decode cX5_find 300 = .ok (.goto (-280), 3) := by decide +kernel
theorem dX5_find_303 : decode cX5_find 303 = .ok (.iconst (-1), 1) := by decide +kernel
theorem dX5_find_304 : decode cX5_find 304 = .ok (.ireturn, 1) := by decide +kernel
set_option maxRecDepth 20000 in
theorem ggX5_wrongSeek_X5_isName : GoodIn wsX5_wrongSeek wsX5_isName := goodIn_r _ [4, 5, 6, 3, 7, 8] (by decide +kernel) (by decide +kernel)
set_option maxRecDepth 20000 in
theorem gX5_wrongSeek_X5_isName : GoodIn wsX5_wrongSeek (va_wsS RX5 190 yX5_isName wsX5_isName) := goodIn_app (goodIn_of _ (by decide +kernel)) ggX5_wrongSeek_X5_isName
set_option maxRecDepth 20000 in
theorem ggX5_wrongSeek_X5_stands : GoodIn wsX5_wrongSeek wsX5_stands := goodIn_r _ [12, 13, 14, 15, 16, 3, 17, 18, 19, 20, 21, 22, 23, 36, 37, 38, 39, 40, 41, 42, 43, 44, 45, 46, 47, 48, 49, 50, 51, 52, 53] (by decide +kernel) (by decide +kernel)
set_option maxRecDepth 20000 in
theorem gX5_wrongSeek_X5_stands : GoodIn wsX5_wrongSeek (wsV RX5 136 RX5 yX5_stands wsX5_stands) := goodIn_app (goodIn_of _ (by decide +kernel)) ggX5_wrongSeek_X5_stands
set_option maxRecDepth 20000 in
theorem ggX5_wrongSeek_X5_isFresh : GoodIn wsX5_wrongSeek wsX5_isFresh := goodIn_r _ [27, 9, 10, 11, 3, 12, 13, 14, 15, 16, 17, 18, 19, 20, 21, 22, 23, 28, 29, 30, 31, 32, 33, 34, 35, 36, 37, 38, 39, 40, 41, 42, 43, 44, 45, 46, 47, 48, 49, 50, 51, 52, 53] (by decide +kernel) (by decide +kernel)
set_option maxRecDepth 20000 in
theorem gX5_wrongSeek_X5_isFresh : GoodIn wsX5_wrongSeek (wsV RX5 187 RX5 yX5_isFresh wsX5_isFresh) := goodIn_app (goodIn_of _ (by decide +kernel)) ggX5_wrongSeek_X5_isFresh
theorem dX5_wrongSeek_0 : decode cX5_wrongSeek 0 = .ok (.lload_n 1, 1) := by decide +kernel
theorem dX5_wrongSeek_1 : decode cX5_wrongSeek 1 = .ok (.iload_n 3, 1) := by decide +kernel
theorem dX5_wrongSeek_2 : decode cX5_wrongSeek 2 = .ok (.invokestatic 190, 3) := by decide +kernel
theorem dX5_wrongSeek_5 : decode cX5_wrongSeek 5 = .ok (.ifCond .ne 7, 3) := by decide +kernel
theorem dX5_wrongSeek_8 : decode cX5_wrongSeek 8 = .ok (.iconst 1, 1) := by decide +kernel
theorem dX5_wrongSeek_9 : decode cX5_wrongSeek 9 = .ok (.goto 40, 3) := by decide +kernel
theorem dX5_wrongSeek_12 : decode cX5_wrongSeek 12 = .ok (.aload_n 0, 1) := by decide +kernel
theorem dX5_wrongSeek_13 : decode cX5_wrongSeek 13 = .ok (.iconst 0, 1) := by decide +kernel
theorem dX5_wrongSeek_14 : decode cX5_wrongSeek 14 = .ok (.invokevirtual 136, 3) := by decide +kernel
theorem dX5_wrongSeek_17 : decode cX5_wrongSeek 17 = .ok (.ifCond .eq 27, 3) := by decide +kernel
theorem dX5_wrongSeek_20 : decode cX5_wrongSeek 20 = .ok (.aload_n 0, 1) := by decide +kernel
theorem dX5_wrongSeek_21 : decode cX5_wrongSeek 21 = .ok (.iconst 1, 1) := by decide +kernel
theorem dX5_wrongSeek_22 : decode cX5_wrongSeek 22 = .ok (.invokevirtual 136, 3) := by decide +kernel
theorem dX5_wrongSeek_25 : decode cX5_wrongSeek 25 = .ok (.ifCond .eq 19, 3) := by decide +kernel
theorem dX5_wrongSeek_28 : decode cX5_wrongSeek 28 = .ok (.aload_n 0, 1) := by decide +kernel
theorem dX5_wrongSeek_29 : decode cX5_wrongSeek 29 = .ok (.iconst 2, 1) := by decide +kernel
theorem dX5_wrongSeek_30 : decode cX5_wrongSeek 30 = .ok (.invokevirtual 136, 3) := by decide +kernel
theorem dX5_wrongSeek_33 : decode cX5_wrongSeek 33 = .ok (.ifCond .eq 11, 3) := by decide +kernel
theorem dX5_wrongSeek_36 : decode cX5_wrongSeek 36 = .ok (.aload_n 0, 1) := by decide +kernel
theorem dX5_wrongSeek_37 : decode cX5_wrongSeek 37 = .ok (.iconst 3, 1) := by decide +kernel
theorem dX5_wrongSeek_38 : decode cX5_wrongSeek 38 = .ok (.invokevirtual 187, 3) := by decide +kernel
theorem dX5_wrongSeek_41 : decode cX5_wrongSeek 41 = .ok (.ifCond .ne 7, 3) := by decide +kernel
theorem dX5_wrongSeek_44 : decode cX5_wrongSeek 44 = .ok (.iconst 2, 1) := by decide +kernel
theorem dX5_wrongSeek_45 : decode cX5_wrongSeek 45 = .ok (.goto 4, 3) := by decide +kernel
theorem dX5_wrongSeek_48 : decode cX5_wrongSeek 48 = .ok (.iconst 0, 1) := by decide +kernel
theorem dX5_wrongSeek_49 : decode cX5_wrongSeek 49 = .ok (.ireturn, 1) := by decide +kernel
set_option maxRecDepth 20000 in
theorem ggX5_seek_X5_wrongSeek : GoodIn wsX5_seek wsX5_wrongSeek := goodIn_r _ [6, 7, 8, 5, 9, 10, 11, 12, 13, 14, 15, 16, 17, 18, 19, 20, 21, 22, 23, 24, 25, 26, 27, 28, 29, 30, 31, 32, 33, 34, 35, 36, 37, 38, 39, 40, 132, 133, 134, 135, 136, 137, 138, 139, 140, 141, 142, 143, 144, 145, 146, 147, 148, 149] (by decide +kernel) (by decide +kernel)
set_option maxRecDepth 20000 in
theorem gX5_seek_X5_wrongSeek : GoodIn wsX5_seek (wsV RX5 194 RX5 yX5_wrongSeek wsX5_wrongSeek) := goodIn_app (goodIn_of _ (by decide +kernel)) ggX5_seek_X5_wrongSeek
set_option maxRecDepth 20000 in
theorem ggX5_seek_X5_find : GoodIn wsX5_seek wsX5_find := goodIn_r _ [44, 45, 46, 47, 48, 49, 28, 50, 51, 52, 5, 53, 54, 55, 56, 57, 58, 59, 60, 61, 62, 63, 10, 11, 12, 13, 64, 65, 66, 67, 68, 69, 70, 71, 29, 30, 31, 32, 14, 15, 16, 17, 18, 19, 20, 21, 22, 23, 24, 25, 26, 27, 33, 34, 35, 36, 37, 38, 39, 40, 72, 73, 74, 75, 76, 77, 78, 79, 80, 81, 82, 83, 84, 85, 86, 87, 88, 89, 90, 91, 92, 93, 94, 95, 96, 97, 98, 99, 100, 101, 102, 103, 104, 105, 106, 107, 108, 109, 110, 111, 112, 113, 114, 115, 116, 117, 118, 119, 120, 121, 122, 123, 124, 125, 126, 127, 128, 129, 130, 131, 132, 133, 134, 135, 136, 137, 138, 139, 140, 141, 142, 143, 144, 145, 146, 147, 148, 149] (by decide +kernel) (by decide +kernel)
set_option maxRecDepth 20000 in
theorem gX5_seek_X5_find : GoodIn wsX5_seek (wsV RX5 197 RX5 yX5_find wsX5_find) := goodIn_app (goodIn_of _ (by decide +kernel)) ggX5_seek_X5_find
theorem dX5_seek_0 : decode cX5_seek 0 = .ok (.aload_n 0, 1) := by decide +kernel
theorem dX5_seek_1 : decode cX5_seek 1 = .ok (.aload_n 0, 1) := by decide +kernel
theorem dX5_seek_2 : decode cX5_seek 2 = .ok (.lload_n 1, 1) := by decide +kernel
theorem dX5_seek_3 : decode cX5_seek 3 = .ok (.iload_n 3, 1) := by decide +kernel
theorem dX5_seek_4 : decode cX5_seek 4 = .ok (.invokevirtual 194, 3) := by decide +kernel
theorem dX5_seek_7 : decode cX5_seek 7 = .ok (.putfield 26, 3) := by decide +kernel
theorem dX5_seek_10 : decode cX5_seek 10 = .ok (.aload_n 0, 1) := by decide +kernel
theorem dX5_seek_11 : decode cX5_seek 11 = .ok (.getfield 26, 3) := by decide +kernel
theorem dX5_seek_14 : decode cX5_seek 14 = .ok (.ifCond .le 7, 3) := by decide +kernel
theorem dX5_seek_17 : decode cX5_seek 17 = .ok (.iconst 0, 1) := by decide +kernel
theorem dX5_seek_18 : decode cX5_seek 18 = .ok (.goto 9, 3) := by decide +kernel
theorem dX5_seek_21 : decode cX5_seek 21 = .ok (.aload_n 0, 1) := by decide +kernel
theorem dX5_seek_22 : decode cX5_seek 22 = .ok (.lload_n 1, 1) := by decide +kernel
theorem dX5_seek_23 : decode cX5_seek 23 = .ok (.iload_n 3, 1) := by decide +kernel
theorem dX5_seek_24 : decode cX5_seek 24 = .ok (.invokevirtual 197, 3) := by decide +kernel
theorem dX5_seek_27 : decode cX5_seek 27 = .ok (.ireturn, 1) := by decide +kernel
theorem dX5_visits_0 : decode cX5_visits 0 = .ok (.aload_n 0, 1) := by decide +kernel
theorem dX5_visits_1 : decode cX5_visits 1 = .ok (.iconst 0, 1) := by decide +kernel
theorem dX5_visits_2 : decode cX5_visits 2 = .ok (.putfield 26, 3) := by decide +kernel
theorem dX5_visits_5 : decode cX5_visits 5 = .ok (.aload_n 0, 1) := by decide +kernel
theorem dX5_visits_6 : decode cX5_visits 6 = .ok (.getfield 171, 3) := by decide +kernel
theorem dX5_visits_9 : decode cX5_visits 9 = .ok (.ireturn, 1) := by decide +kernel
set_option maxRecDepth 20000 in
theorem ggX5_install_X5_wrongSeek : GoodIn wsX5_install wsX5_wrongSeek := goodIn_r _ [11, 12, 13, 10, 14, 15, 16, 17, 18, 19, 20, 21, 22, 23, 24, 25, 26, 27, 28, 29, 30, 31, 32, 33, 34, 35, 36, 37, 38, 39, 40, 41, 42, 43, 44, 45, 133, 134, 135, 136, 137, 138, 139, 140, 141, 142, 143, 144, 145, 146, 147, 148, 149, 150] (by decide +kernel) (by decide +kernel)
set_option maxRecDepth 20000 in
theorem gX5_install_X5_wrongSeek : GoodIn wsX5_install (wsV RX5 194 RX5 yX5_wrongSeek wsX5_wrongSeek) := goodIn_app (goodIn_of _ (by decide +kernel)) ggX5_install_X5_wrongSeek
set_option maxRecDepth 20000 in
theorem ggX5_install_X5_find : GoodIn wsX5_install wsX5_find := goodIn_r _ [49, 50, 2, 51, 52, 53, 33, 54, 55, 56, 10, 57, 58, 59, 60, 61, 3, 5, 62, 63, 64, 65, 15, 16, 17, 18, 66, 67, 68, 69, 70, 71, 72, 73, 34, 35, 36, 37, 19, 20, 21, 22, 23, 24, 25, 26, 27, 28, 29, 30, 31, 32, 38, 39, 40, 41, 42, 43, 44, 45, 74, 75, 76, 77, 78, 79, 80, 81, 82, 83, 84, 85, 86, 87, 88, 4, 89, 90, 91, 92, 93, 94, 95, 96, 97, 98, 99, 100, 101, 102, 103, 104, 105, 106, 107, 108, 109, 110, 111, 112, 113, 114, 115, 116, 117, 118, 119, 120, 121, 122, 123, 124, 125, 126, 127, 128, 129, 130, 131, 132, 133, 134, 135, 136, 137, 138, 139, 140, 141, 142, 143, 144, 145, 146, 147, 148, 149, 150] (by decide +kernel) (by decide +kernel)
set_option maxRecDepth 20000 in
theorem gX5_install_X5_find : GoodIn wsX5_install (wsV RX5 197 RX5 yX5_find wsX5_find) := goodIn_app (goodIn_of _ (by decide +kernel)) ggX5_install_X5_find
set_option maxRecDepth 20000 in
theorem ggX5_install_X5_mixOf : GoodIn wsX5_install wsX5_mixOf := goodIn_r _ [130, 131, 33, 132, 133, 134, 135, 136, 137, 138, 139, 140, 141, 142, 143, 144, 145, 146, 147, 148, 149, 150] (by decide +kernel) (by decide +kernel)
set_option maxRecDepth 20000 in
theorem gX5_install_X5_mixOf : GoodIn wsX5_install (wsV RX5 38 RX5 yX5_mixOf wsX5_mixOf) := goodIn_app (goodIn_of _ (by decide +kernel)) ggX5_install_X5_mixOf
theorem dX5_install_0 : decode cX5_install 0 = .ok (.aload_n 0, 1) := by decide +kernel
theorem dX5_install_1 : decode cX5_install 1 = .ok (.aload_n 0, 1) := by decide +kernel
theorem dX5_install_2 : decode cX5_install 2 = .ok (.lload_n 1, 1) := by decide +kernel
theorem dX5_install_3 : decode cX5_install 3 = .ok (.iload_n 3, 1) := by decide +kernel
theorem dX5_install_4 : decode cX5_install 4 = .ok (.invokevirtual 194, 3) := by decide +kernel
theorem dX5_install_7 : decode cX5_install 7 = .ok (.putfield 26, 3) := by decide +kernel
theorem dX5_install_10 : decode cX5_install 10 = .ok (.aload_n 0, 1) := by decide +kernel
theorem dX5_install_11 : decode cX5_install 11 = .ok (.getfield 26, 3) := by decide +kernel
theorem dX5_install_14 : decode cX5_install 14 = .ok (.ifCond .le 5, 3) := by decide +kernel
theorem dX5_install_17 : decode cX5_install 17 = .ok (.iconst 0, 1) := by decide +kernel
theorem dX5_install_18 : decode cX5_install 18 = .ok (.ireturn, 1) := by decide +kernel
theorem dX5_install_19 : decode cX5_install 19 = .ok (.aload_n 0, 1) := by decide +kernel
theorem dX5_install_20 : decode cX5_install 20 = .ok (.getfield 171, 3) := by decide +kernel
theorem dX5_install_23 : decode cX5_install 23 = .ok (.istore 4, 2) := by decide +kernel
theorem dX5_install_25 : decode cX5_install 25 = .ok (.aload_n 0, 1) := by decide +kernel
theorem dX5_install_26 : decode cX5_install 26 = .ok (.lload_n 1, 1) := by decide +kernel
theorem dX5_install_27 : decode cX5_install 27 = .ok (.iload_n 3, 1) := by decide +kernel
theorem dX5_install_28 : decode cX5_install 28 = .ok (.invokevirtual 197, 3) := by decide +kernel
theorem dX5_install_31 : decode cX5_install 31 = .ok (.istore 5, 2) := by decide +kernel
theorem dX5_install_33 : decode cX5_install 33 = .ok (.aload_n 0, 1) := by decide +kernel
theorem dX5_install_34 : decode cX5_install 34 = .ok (.iload 5, 2) := by decide +kernel
theorem dX5_install_36 : decode cX5_install 36 = .ok (.ifCond .ge 7, 3) := by decide +kernel
theorem dX5_install_39 : decode cX5_install 39 = .ok (.iconst 3, 1) := by decide +kernel
theorem dX5_install_40 : decode cX5_install 40 = .ok (.goto 44, 3) := by decide +kernel
theorem dX5_install_43 : decode cX5_install 43 = .ok (.aload_n 0, 1) := by decide +kernel
theorem dX5_install_44 : decode cX5_install 44 = .ok (.getfield 162, 3) := by decide +kernel
theorem dX5_install_47 : decode cX5_install 47 = .ok (.aload_n 0, 1) := by decide +kernel
theorem dX5_install_48 : decode cX5_install 48 = .ok (.getfield 13, 3) := by decide +kernel
theorem dX5_install_51 : decode cX5_install 51 = .ok (.bipush 8, 2) := by decide +kernel
theorem dX5_install_53 : decode cX5_install 53 = .ok (.iaload, 1) := by decide +kernel
theorem dX5_install_54 : decode cX5_install 54 = .ok (.if_icmp .ne 25, 3) := by decide +kernel
theorem dX5_install_57 : decode cX5_install 57 = .ok (.aload_n 0, 1) := by decide +kernel
theorem dX5_install_58 : decode cX5_install 58 = .ok (.getfield 165, 3) := by decide +kernel
theorem dX5_install_61 : decode cX5_install 61 = .ok (.aload_n 0, 1) := by decide +kernel
theorem dX5_install_62 : decode cX5_install 62 = .ok (.sipush 960, 3) := by decide +kernel
theorem dX5_install_65 : decode cX5_install 65 = .ok (.aload_n 0, 1) := by decide +kernel
theorem dX5_install_66 : decode cX5_install 66 = .ok (.getfield 13, 3) := by decide +kernel
theorem dX5_install_69 : decode cX5_install 69 = .ok (.bipush 8, 2) := by decide +kernel
theorem dX5_install_71 : decode cX5_install 71 = .ok (.iaload, 1) := by decide +kernel
theorem dX5_install_72 : decode cX5_install 72 = .ok (.iconst 0, 1) := by decide +kernel
theorem dX5_install_73 : decode cX5_install 73 = .ok (.invokevirtual 38, 3) := by decide +kernel
theorem dX5_install_76 : decode cX5_install 76 = .ok (.if_icmp .eq 7, 3) := by decide +kernel
theorem dX5_install_79 : decode cX5_install 79 = .ok (.iconst 4, 1) := by decide +kernel
theorem dX5_install_80 : decode cX5_install 80 = .ok (.goto 4, 3) := by decide +kernel
theorem dX5_install_83 : decode cX5_install 83 = .ok (.iconst 0, 1) := by decide +kernel
theorem dX5_install_84 : decode cX5_install 84 = .ok (.putfield 26, 3) := by decide +kernel
theorem dX5_install_87 : decode cX5_install 87 = .ok (.aload_n 0, 1) := by decide +kernel
theorem dX5_install_88 : decode cX5_install 88 = .ok (.getfield 26, 3) := by decide +kernel
theorem dX5_install_91 : decode cX5_install 91 = .ok (.ifCond .le 11, 3) := by decide +kernel
theorem dX5_install_94 : decode cX5_install 94 = .ok (.aload_n 0, 1) := by decide +kernel
theorem dX5_install_95 : decode cX5_install 95 = .ok (.iload 4, 2) := by decide +kernel
theorem dX5_install_97 : decode cX5_install 97 = .ok (.putfield 171, 3) := by decide +kernel
theorem dX5_install_100 : decode cX5_install 100 = .ok (.iconst 0, 1) := by decide +kernel
theorem dX5_install_101 : decode cX5_install 101 = .ok (.ireturn, 1) := by decide +kernel
theorem dX5_install_102 : decode cX5_install 102 = .ok (.aload_n 0, 1) := by decide +kernel
theorem dX5_install_103 : decode cX5_install 103 = .ok (.dup, 1) := by decide +kernel
theorem dX5_install_104 : decode cX5_install 104 = .ok (.getfield 200, 3) := by decide +kernel
theorem dX5_install_107 : decode cX5_install 107 = .ok (.iconst 1, 1) := by decide +kernel
theorem dX5_install_108 : decode cX5_install 108 = .ok (.iadd, 1) := by decide +kernel
theorem dX5_install_109 : decode cX5_install 109 = .ok (.putfield 200, 3) := by decide +kernel
theorem dX5_install_112 : decode cX5_install 112 = .ok (.iload 5, 2) := by decide +kernel
theorem dX5_install_114 : decode cX5_install 114 = .ok (.ireturn, 1) := by decide +kernel
theorem dX5_installed_0 : decode cX5_installed 0 = .ok (.aload_n 0, 1) := by decide +kernel
theorem dX5_installed_1 : decode cX5_installed 1 = .ok (.iconst 0, 1) := by decide +kernel
theorem dX5_installed_2 : decode cX5_installed 2 = .ok (.putfield 26, 3) := by decide +kernel
theorem dX5_installed_5 : decode cX5_installed 5 = .ok (.aload_n 0, 1) := by decide +kernel
theorem dX5_installed_6 : decode cX5_installed 6 = .ok (.getfield 200, 3) := by decide +kernel
theorem dX5_installed_9 : decode cX5_installed 9 = .ok (.ireturn, 1) := by decide +kernel
abbrev vwCl : List vw_C := [(RX0, TX0, 15), (RX1, TX1, 2), (RX2, TX2, 7), (RX3, TX3, 3), (RX4, TX4, 7), (RX5, TX5, 18)]
