theorem dX5_put_11 : decode cX5_put 11 = .ok (.bipush 8, 2) := by decide +kernel
theorem dX5_put_13 : decode cX5_put 13 = .ok (.if_icmp .gt 17, 3) := by decide +kernel
theorem dX5_put_16 : decode cX5_put 16 = .ok (.aload_n 0, 1) := by decide +kernel
theorem dX5_put_17 : decode cX5_put 17 = .ok (.getfield 13, 3) := by decide +kernel
theorem dX5_put_20 : decode cX5_put 20 = .ok (.bipush 7, 2) := by decide +kernel
theorem dX5_put_22 : decode cX5_put 22 = .ok (.iaload, 1) := by decide +kernel
theorem dX5_put_23 : decode cX5_put 23 = .ok (.iload_n 3, 1) := by decide +kernel
theorem dX5_put_24 : decode cX5_put 24 = .ok (.iadd, 1) := by decide +kernel
theorem dX5_put_25 : decode cX5_put 25 = .ok (.bipush 120, 2) := by decide +kernel
theorem dX5_put_27 : decode cX5_put 27 = .ok (.if_icmp .le 5, 3) := by decide +kernel
theorem dX5_put_30 : decode cX5_put 30 = .ok (.iconst 0, 1) := by decide +kernel
theorem dX5_put_31 : decode cX5_put 31 = .ok (.ireturn, 1) := by decide +kernel
theorem dX5_put_32 : decode cX5_put 32 = .ok (.iconst 0, 1) := by decide +kernel
theorem dX5_put_33 : decode cX5_put 33 = .ok (.istore 4, 2) := by decide +kernel
theorem dX5_put_35 : decode cX5_put 35 = .ok (.iload 4, 2) := by decide +kernel
theorem dX5_put_37 : decode cX5_put 37 = .ok (.iload_n 3, 1) := by decide +kernel
theorem dX5_put_38 : decode cX5_put 38 = .ok (.if_icmp .ge 25, 3) := by decide +kernel
theorem dX5_put_41 : decode cX5_put 41 = .ok (.aload_n 0, 1) := by decide +kernel
theorem dX5_put_42 : decode cX5_put 42 = .ok (.lload_n 1, 1) := by decide +kernel
theorem dX5_put_43 : decode cX5_put 43 = .ok (.bipush 8, 2) := by decide +kernel
theorem dX5_put_45 : decode cX5_put 45 = .ok (.iload 4, 2) := by decide +kernel
theorem dX5_put_47 : decode cX5_put 47 = .ok (.imul, 1) := by decide +kernel
theorem dX5_put_48 : decode cX5_put 48 = .ok (.lshr, 1) := by decide +kernel
theorem dX5_put_49 : decode cX5_put 49 = .ok (.ldc2_w 30, 3) := by decide +kernel
theorem dX5_put_52 : decode cX5_put 52 = .ok (.land, 1) := by decide +kernel
theorem dX5_put_53 : decode cX5_put 53 = .ok (.l2i, 1) := by decide +kernel
theorem dX5_put_54 : decode cX5_put 54 = .ok (.invokevirtual 32, 3) := by decide +kernel
theorem dX5_put_57 : decode cX5_put 57 = .ok (.iinc 4 1, 3) := by decide +kernel
theorem dX5_put_60 : decode cX5_put 60 = .ok (.goto (-25), 3) := by decide +kernel
theorem dX5_put_63 : decode cX5_put 63 = .ok (.iconst 1, 1) := by decide +kernel
theorem dX5_put_64 : decode cX5_put 64 = .ok (.ireturn, 1) := by decide +kernel
theorem dX5_cut_0 : decode cX5_cut 0 = .ok (.aload_n 0, 1) := by decide +kernel
theorem dX5_cut_1 : decode cX5_cut 1 = .ok (.iconst 0, 1) := by decide +kernel
theorem dX5_cut_2 : decode cX5_cut 2 = .ok (.putfield 26, 3) := by decide +kernel
theorem dX5_cut_5 : decode cX5_cut 5 = .ok (.iload_n 1, 1) := by decide +kernel
theorem dX5_cut_6 : decode cX5_cut 6 = .ok (.ifCond .lt 14, 3) := by decide +kernel
theorem dX5_cut_9 : decode cX5_cut 9 = .ok (.iload_n 1, 1) := by decide +kernel
theorem dX5_cut_10 : decode cX5_cut 10 = .ok (.aload_n 0, 1) := by decide +kernel
theorem dX5_cut_11 : decode cX5_cut 11 = .ok (.getfield 13, 3) := by decide +kernel
theorem dX5_cut_14 : decode cX5_cut 14 = .ok (.bipush 7, 2) := by decide +kernel
theorem dX5_cut_16 : decode cX5_cut 16 = .ok (.iaload, 1) := by decide +kernel
theorem dX5_cut_17 : decode cX5_cut 17 = .ok (.if_icmp .le 5, 3) := by decide +kernel
theorem dX5_cut_20 : decode cX5_cut 20 = .ok (.iconst 0, 1) := by decide +kernel
theorem dX5_cut_21 : decode cX5_cut 21 = .ok (.ireturn, 1) := by decide +kernel
theorem dX5_cut_22 : decode cX5_cut 22 = .ok (.aload_n 0, 1) := by decide +kernel
theorem dX5_cut_23 : decode cX5_cut 23 = .ok (.getfield 13, 3) := by decide +kernel
theorem dX5_cut_26 : decode cX5_cut 26 = .ok (.bipush 7, 2) := by decide +kernel
theorem dX5_cut_28 : decode cX5_cut 28 = .ok (.iload_n 1, 1) := by decide +kernel
theorem dX5_cut_29 : decode cX5_cut 29 = .ok (.iastore, 1) := by decide +kernel
theorem dX5_cut_30 : decode cX5_cut 30 = .ok (.iconst 1, 1) := by decide +kernel
theorem dX5_cut_31 : decode cX5_cut 31 = .ok (.ireturn, 1) := by decide +kernel
theorem dX5_alter_0 : decode cX5_alter 0 = .ok (.aload_n 0, 1) := by decide +kernel
theorem dX5_alter_1 : decode cX5_alter 1 = .ok (.iconst 0, 1) := by decide +kernel
theorem dX5_alter_2 : decode cX5_alter 2 = .ok (.putfield 26, 3) := by decide +kernel
theorem dX5_alter_5 : decode cX5_alter 5 = .ok (.iload_n 1, 1) := by decide +kernel
theorem dX5_alter_6 : decode cX5_alter 6 = .ok (.ifCond .lt 14, 3) := by decide +kernel
theorem dX5_alter_9 : decode cX5_alter 9 = .ok (.iload_n 1, 1) := by decide +kernel
theorem dX5_alter_10 : decode cX5_alter 10 = .ok (.aload_n 0, 1) := by decide +kernel
theorem dX5_alter_11 : decode cX5_alter 11 = .ok (.getfield 13, 3) := by decide +kernel
theorem dX5_alter_14 : decode cX5_alter 14 = .ok (.bipush 7, 2) := by decide +kernel
theorem dX5_alter_16 : decode cX5_alter 16 = .ok (.iaload, 1) := by decide +kernel
theorem dX5_alter_17 : decode cX5_alter 17 = .ok (.if_icmp .lt 5, 3) := by decide +kernel
theorem dX5_alter_20 : decode cX5_alter 20 = .ok (.iconst 0, 1) := by decide +kernel
theorem dX5_alter_21 : decode cX5_alter 21 = .ok (.ireturn, 1) := by decide +kernel
theorem dX5_alter_22 : decode cX5_alter 22 = .ok (.aload_n 0, 1) := by decide +kernel
theorem dX5_alter_23 : decode cX5_alter 23 = .ok (.getfield 7, 3) := by decide +kernel
theorem dX5_alter_26 : decode cX5_alter 26 = .ok (.sipush 840, 3) := by decide +kernel
theorem dX5_alter_29 : decode cX5_alter 29 = .ok (.iload_n 1, 1) := by decide +kernel
theorem dX5_alter_30 : decode cX5_alter 30 = .ok (.iadd, 1) := by decide +kernel
theorem dX5_alter_31 : decode cX5_alter 31 = .ok (.iload_n 2, 1) := by decide +kernel
theorem dX5_alter_32 : decode cX5_alter 32 = .ok (.sipush 255, 3) := by decide +kernel
theorem dX5_alter_35 : decode cX5_alter 35 = .ok (.iand, 1) := by decide +kernel
theorem dX5_alter_36 : decode cX5_alter 36 = .ok (.iastore, 1) := by decide +kernel
theorem dX5_alter_37 : decode cX5_alter 37 = .ok (.iconst 1, 1) := by decide +kernel
theorem dX5_alter_38 : decode cX5_alter 38 = .ok (.ireturn, 1) := by decide +kernel
theorem dX5_length_0 : decode cX5_length 0 = .ok (.aload_n 0, 1) := by decide +kernel
theorem dX5_length_1 : decode cX5_length 1 = .ok (.iconst 0, 1) := by decide +kernel
theorem dX5_length_2 : decode cX5_length 2 = .ok (.putfield 26, 3) := by decide +kernel
theorem dX5_length_5 : decode cX5_length 5 = .ok (.aload_n 0, 1) := by decide +kernel
theorem dX5_length_6 : decode cX5_length 6 = .ok (.getfield 13, 3) := by decide +kernel
theorem dX5_length_9 : decode cX5_length 9 = .ok (.bipush 7, 2) := by decide +kernel
theorem dX5_length_11 : decode cX5_length 11 = .ok (.iaload, 1) := by decide +kernel
theorem dX5_length_12 : decode cX5_length 12 = .ok (.ireturn, 1) := by decide +kernel
theorem dX5_at_0 : decode cX5_at 0 = .ok (.aload_n 0, 1) := by decide +kernel
theorem dX5_at_1 : decode cX5_at 1 = .ok (.iload_n 1, 1) := by decide +kernel
theorem dX5_at_2 : decode cX5_at 2 = .ok (.ifCond .lt 14, 3) := by decide +kernel
theorem dX5_at_5 : decode cX5_at 5 = .ok (.iload_n 1, 1) := by decide +kernel
theorem dX5_at_6 : decode cX5_at 6 = .ok (.aload_n 0, 1) := by decide +kernel
theorem dX5_at_7 : decode cX5_at 7 = .ok (.getfield 13, 3) := by decide +kernel
theorem dX5_at_10 : decode cX5_at 10 = .ok (.bipush 7, 2) := by decide +kernel
theorem dX5_at_12 : decode cX5_at 12 = .ok (.iaload, 1) := by decide +kernel
theorem dX5_at_13 : decode cX5_at 13 = .ok (.if_icmp .lt 7, 3) := by decide +kernel
theorem dX5_at_16 : decode cX5_at 16 = .ok (.iconst 1, 1) := by decide +kernel
theorem dX5_at_17 : decode cX5_at 17 = .ok (.goto 4, 3) := by decide +kernel
theorem dX5_at_20 : decode cX5_at 20 = .ok (.iconst 0, 1) := by decide +kernel
theorem dX5_at_21 : decode cX5_at 21 = .ok (.putfield 26, 3) := by decide +kernel
theorem dX5_at_24 : decode cX5_at 24 = .ok (.aload_n 0, 1) := by decide +kernel
theorem dX5_at_25 : decode cX5_at 25 = .ok (.getfield 26, 3) := by decide +kernel
theorem dX5_at_28 : decode cX5_at 28 = .ok (.ifCond .le 7, 3) := by decide +kernel
theorem dX5_at_31 : decode cX5_at 31 = .ok (.iconst 0, 1) := by decide +kernel
theorem dX5_at_32 : decode cX5_at 32 = .ok (.goto 13, 3) := by decide +kernel
theorem dX5_at_35 : decode cX5_at 35 = .ok (.aload_n 0, 1) := by decide +kernel
theorem dX5_at_36 : decode cX5_at 36 = .ok (.getfield 7, 3) := by decide +kernel
theorem dX5_at_39 : decode cX5_at 39 = .ok (.sipush 840, 3) := by decide +kernel
theorem dX5_at_42 : decode cX5_at 42 = .ok (.iload_n 1, 1) := by decide +kernel
theorem dX5_at_43 : decode cX5_at 43 = .ok (.iadd, 1) := by decide +kernel
theorem dX5_at_44 : decode cX5_at 44 = .ok (.iaload, 1) := by decide +kernel
theorem dX5_at_45 : decode cX5_at 45 = .ok (.ireturn, 1) := by decide +kernel
theorem dX5_mixOf_0 : decode cX5_mixOf 0 = .ok (.iload_n 3, 1) := by decide +kernel
theorem dX5_mixOf_1 : decode cX5_mixOf 1 = .ok (.ldc 36, 2) := by decide +kernel
theorem dX5_mixOf_3 : decode cX5_mixOf 3 = .ok (.imul, 1) := by decide +kernel
theorem dX5_mixOf_4 : decode cX5_mixOf 4 = .ok (.istore 4, 2) := by decide +kernel
theorem dX5_mixOf_6 : decode cX5_mixOf 6 = .ok (.iload_n 1, 1) := by decide +kernel
theorem dX5_mixOf_7 : decode cX5_mixOf 7 = .ok (.istore 5, 2) := by decide +kernel
theorem dX5_mixOf_9 : decode cX5_mixOf 9 = .ok (.iload 5, 2) := by decide +kernel
theorem dX5_mixOf_11 : decode cX5_mixOf 11 = .ok (.iload_n 1, 1) := by decide +kernel
theorem dX5_mixOf_12 : decode cX5_mixOf 12 = .ok (.iload_n 2, 1) := by decide +kernel
theorem dX5_mixOf_13 : decode cX5_mixOf 13 = .ok (.iadd, 1) := by decide +kernel
theorem dX5_mixOf_14 : decode cX5_mixOf 14 = .ok (.if_icmp .ge 34, 3) := by decide +kernel
theorem dX5_mixOf_17 : decode cX5_mixOf 17 = .ok (.iload 4, 2) := by decide +kernel
theorem dX5_mixOf_19 : decode cX5_mixOf 19 = .ok (.aload_n 0, 1) := by decide +kernel
theorem dX5_mixOf_20 : decode cX5_mixOf 20 = .ok (.getfield 7, 3) := by decide +kernel
theorem dX5_mixOf_23 : decode cX5_mixOf 23 = .ok (.iload 5, 2) := by decide +kernel
theorem dX5_mixOf_25 : decode cX5_mixOf 25 = .ok (.iaload, 1) := by decide +kernel
theorem dX5_mixOf_26 : decode cX5_mixOf 26 = .ok (.ixor, 1) := by decide +kernel
theorem dX5_mixOf_27 : decode cX5_mixOf 27 = .ok (.ldc 37, 2) := by decide +kernel
theorem dX5_mixOf_29 : decode cX5_mixOf 29 = .ok (.imul, 1) := by decide +kernel
theorem dX5_mixOf_30 : decode cX5_mixOf 30 = .ok (.istore 4, 2) := by decide +kernel
theorem dX5_mixOf_32 : decode cX5_mixOf 32 = .ok (.iload 4, 2) := by decide +kernel
theorem dX5_mixOf_34 : decode cX5_mixOf 34 = .ok (.iload 4, 2) := by decide +kernel
theorem dX5_mixOf_36 : decode cX5_mixOf 36 = .ok (.bipush 15, 2) := by decide +kernel
theorem dX5_mixOf_38 : decode cX5_mixOf 38 = .ok (.iushr, 1) := by decide +kernel
theorem dX5_mixOf_39 : decode cX5_mixOf 39 = .ok (.ixor, 1) := by decide +kernel
theorem dX5_mixOf_40 : decode cX5_mixOf 40 = .ok (.istore 4, 2) := by decide +kernel
theorem dX5_mixOf_42 : decode cX5_mixOf 42 = .ok (.iinc 5 1, 3) := by decide +kernel
theorem dX5_mixOf_45 : decode cX5_mixOf 45 = .ok (.goto (-36), 3) := by decide +kernel
theorem dX5_mixOf_48 : decode cX5_mixOf 48 = .ok (.iload 4, 2) := by decide +kernel
theorem dX5_mixOf_50 : decode cX5_mixOf 50 = .ok (.ireturn, 1) := by decide +kernel
set_option maxRecDepth 20000 in
theorem ggX5_mix_X5_mixOf : GoodIn wsX5_mix wsX5_mixOf := goodIn_r _ [7, 8, 9, 10, 11, 12, 13, 14, 15, 16, 17, 18, 19, 20, 21, 22, 23, 24, 25, 26, 27, 28] (by decide +kernel) (by decide +kernel)
set_option maxRecDepth 20000 in
theorem gX5_mix_X5_mixOf : GoodIn wsX5_mix (wsV RX5 38 RX5 yX5_mixOf wsX5_mixOf) := goodIn_app (goodIn_of _ (by decide +kernel)) ggX5_mix_X5_mixOf
theorem dX5_mix_0 : decode cX5_mix 0 = .ok (.aload_n 0, 1) := by decide +kernel
theorem dX5_mix_1 : decode cX5_mix 1 = .ok (.iconst 0, 1) := by decide +kernel
theorem dX5_mix_2 : decode cX5_mix 2 = .ok (.putfield 26, 3) := by decide +kernel
theorem dX5_mix_5 : decode cX5_mix 5 = .ok (.aload_n 0, 1) := by decide +kernel
theorem dX5_mix_6 : decode cX5_mix 6 = .ok (.sipush 840, 3) := by decide +kernel
theorem dX5_mix_9 : decode cX5_mix 9 = .ok (.aload_n 0, 1) := by decide +kernel
theorem dX5_mix_10 : decode cX5_mix 10 = .ok (.getfield 13, 3) := by decide +kernel
theorem dX5_mix_13 : decode cX5_mix 13 = .ok (.bipush 7, 2) := by decide +kernel
theorem dX5_mix_15 : decode cX5_mix 15 = .ok (.iaload, 1) := by decide +kernel
theorem dX5_mix_16 : decode cX5_mix 16 = .ok (.iload_n 1, 1) := by decide +kernel
theorem dX5_mix_17 : decode cX5_mix 17 = .ok (.invokevirtual 38, 3) := by decide +kernel
theorem dX5_mix_20 : decode cX5_mix 20 = .ok (.ireturn, 1) := by decide +kernel
set_option maxRecDepth 20000 in
theorem ggX5_addFour_X5_add : GoodIn wsX5_addFour wsX5_add := goodIn_r _ [5, 6, 7, 8, 9, 10, 11, 12, 13, 14, 15, 16, 17, 18, 19, 20, 21, 22, 23, 24, 25] (by decide +kernel) (by decide +kernel)
set_option maxRecDepth 20000 in
theorem gX5_addFour_X5_add : GoodIn wsX5_addFour (wsV RX5 32 RX5 yX5_add wsX5_add) := goodIn_app (goodIn_of _ (by decide +kernel)) ggX5_addFour_X5_add
theorem dX5_addFour_0 : decode cX5_addFour 0 = .ok (.bipush 24, 2) := by decide +kernel
theorem dX5_addFour_2 : decode cX5_addFour 2 = .ok (.istore_n 2, 1) := by decide +kernel
theorem dX5_addFour_3 : decode cX5_addFour 3 = .ok (.iload_n 2, 1) := by decide +kernel
theorem dX5_addFour_4 : decode cX5_addFour 4 = .ok (.ifCond .lt 18, 3) := by decide +kernel
theorem dX5_addFour_7 : decode cX5_addFour 7 = .ok (.aload_n 0, 1) := by decide +kernel
theorem dX5_addFour_8 : decode cX5_addFour 8 = .ok (.iload_n 1, 1) := by decide +kernel
theorem dX5_addFour_9 : decode cX5_addFour 9 = .ok (.iload_n 2, 1) := by decide +kernel
theorem dX5_addFour_10 : decode cX5_addFour 10 = .ok (.ishr, 1) := by decide +kernel
theorem dX5_addFour_11 : decode cX5_addFour 11 = .ok (.invokevirtual 32, 3) := by decide +kernel
theorem dX5_addFour_14 : decode cX5_addFour 14 = .ok (.iload_n 2, 1) := by decide +kernel
theorem dX5_addFour_15 : decode cX5_addFour 15 = .ok (.bipush 8, 2) := by decide +kernel
theorem dX5_addFour_17 : decode cX5_addFour 17 = .ok (.isub, 1) := by decide +kernel
theorem dX5_addFour_18 : decode cX5_addFour 18 = .ok (.istore_n 2, 1) := by decide +kernel
theorem dX5_addFour_19 : decode cX5_addFour 19 = .ok (.goto (-16), 3) := by decide +kernel
theorem dX5_addFour_22 : decode cX5_addFour 22 = .ok (.return_, 1) := by decide +kernel
set_option maxRecDepth 20000 in
theorem ggX5_digest_X5_mixOf : GoodIn wsX5_digest wsX5_mixOf := goodIn_r _ [7, 8, 9, 10, 19, 20, 21, 22, 23, 24, 25, 26, 27, 28, 29, 30, 31, 32, 33, 34, 35, 36] (by decide +kernel) (by decide +kernel)
set_option maxRecDepth 20000 in
theorem gX5_digest_X5_mixOf : GoodIn wsX5_digest (wsV RX5 38 RX5 yX5_mixOf wsX5_mixOf) := goodIn_app (goodIn_of _ (by decide +kernel)) ggX5_digest_X5_mixOf
set_option maxRecDepth 20000 in
theorem ggX5_digest_X5_addFour : GoodIn wsX5_digest wsX5_addFour := goodIn_r _ [14, 15, 16, 17, 6, 18, 9, 2, 19, 20, 21, 22, 23, 24, 25, 26, 27, 28, 29, 30, 31, 32, 33, 34, 35, 36] (by decide +kernel) (by decide +kernel)
set_option maxRecDepth 20000 in
theorem gX5_digest_X5_addFour : GoodIn wsX5_digest (wsV RX5 42 RX5 yX5_addFour wsX5_addFour) := goodIn_app (goodIn_of _ (by decide +kernel)) ggX5_digest_X5_addFour
theorem dX5_digest_0 : decode cX5_digest 0 = .ok (.aload_n 0, 1) := by decide +kernel
theorem dX5_digest_1 : decode cX5_digest 1 = .ok (.iconst 0, 1) := by decide +kernel
theorem dX5_digest_2 : decode cX5_digest 2 = .ok (.putfield 26, 3) := by decide +kernel
theorem dX5_digest_5 : decode cX5_digest 5 = .ok (.aload_n 0, 1) := by decide +kernel
theorem dX5_digest_6 : decode cX5_digest 6 = .ok (.getfield 13, 3) := by decide +kernel
theorem dX5_digest_9 : decode cX5_digest 9 = .ok (.bipush 7, 2) := by decide +kernel
theorem dX5_digest_11 : decode cX5_digest 11 = .ok (.iaload, 1) := by decide +kernel
theorem dX5_digest_12 : decode cX5_digest 12 = .ok (.iconst 4, 1) := by decide +kernel
theorem dX5_digest_13 : decode cX5_digest 13 = .ok (.iadd, 1) := by decide +kernel
theorem dX5_digest_14 : decode cX5_digest 14 = .ok (.bipush 120, 2) := by decide +kernel
theorem dX5_digest_16 : decode cX5_digest 16 = .ok (.if_icmp .le 5, 3) := by decide +kernel
theorem dX5_digest_19 : decode cX5_digest 19 = .ok (.iconst 0, 1) := by decide +kernel
theorem dX5_digest_20 : decode cX5_digest 20 = .ok (.ireturn, 1) := by decide +kernel
theorem dX5_digest_21 : decode cX5_digest 21 = .ok (.aload_n 0, 1) := by decide +kernel
theorem dX5_digest_22 : decode cX5_digest 22 = .ok (.aload_n 0, 1) := by decide +kernel
theorem dX5_digest_23 : decode cX5_digest 23 = .ok (.sipush 960, 3) := by decide +kernel
theorem dX5_digest_26 : decode cX5_digest 26 = .ok (.aload_n 0, 1) := by decide +kernel
theorem dX5_digest_27 : decode cX5_digest 27 = .ok (.getfield 13, 3) := by decide +kernel
theorem dX5_digest_30 : decode cX5_digest 30 = .ok (.bipush 8, 2) := by decide +kernel
theorem dX5_digest_32 : decode cX5_digest 32 = .ok (.iaload, 1) := by decide +kernel
theorem dX5_digest_33 : decode cX5_digest 33 = .ok (.iconst 0, 1) := by decide +kernel
theorem dX5_digest_34 : decode cX5_digest 34 = .ok (.invokevirtual 38, 3) := by decide +kernel
theorem dX5_digest_37 : decode cX5_digest 37 = .ok (.invokevirtual 42, 3) := by decide +kernel
theorem dX5_digest_40 : decode cX5_digest 40 = .ok (.iconst 1, 1) := by decide +kernel
theorem dX5_digest_41 : decode cX5_digest 41 = .ok (.ireturn, 1) := by decide +kernel
theorem dX5_four_0 : decode cX5_four 0 = .ok (.aload_n 0, 1) := by decide +kernel
theorem dX5_four_1 : decode cX5_four 1 = .ok (.getfield 7, 3) := by decide +kernel
theorem dX5_four_4 : decode cX5_four 4 = .ok (.iload_n 1, 1) := by decide +kernel
theorem dX5_four_5 : decode cX5_four 5 = .ok (.iaload, 1) := by decide +kernel
theorem dX5_four_6 : decode cX5_four 6 = .ok (.bipush 24, 2) := by decide +kernel
theorem dX5_four_8 : decode cX5_four 8 = .ok (.ishl, 1) := by decide +kernel
theorem dX5_four_9 : decode cX5_four 9 = .ok (.aload_n 0, 1) := by decide +kernel
theorem dX5_four_10 : decode cX5_four 10 = .ok (.getfield 7, 3) := by decide +kernel
theorem dX5_four_13 : decode cX5_four 13 = .ok (.iload_n 1, 1) := by decide +kernel
theorem dX5_four_14 : decode cX5_four 14 = .ok (.iconst 1, 1) := by decide +kernel
theorem dX5_four_15 : decode cX5_four 15 = .ok (.iadd, 1) := by decide +kernel
theorem dX5_four_16 : decode cX5_four 16 = .ok (.iaload, 1) := by decide +kernel
theorem dX5_four_17 : decode cX5_four 17 = .ok (.bipush 16, 2) := by decide +kernel
theorem dX5_four_19 : decode cX5_four 19 = .ok (.ishl, 1) := by decide +kernel
theorem dX5_four_20 : decode cX5_four 20 = .ok (.ior, 1) := by decide +kernel
theorem dX5_four_21 : decode cX5_four 21 = .ok (.aload_n 0, 1) := by decide +kernel
theorem dX5_four_22 : decode cX5_four 22 = .ok (.getfield 7, 3) := by decide +kernel
theorem dX5_four_25 : decode cX5_four 25 = .ok (.iload_n 1, 1) := by decide +kernel
theorem dX5_four_26 : decode cX5_four 26 = .ok (.iconst 2, 1) := by decide +kernel
theorem dX5_four_27 : decode cX5_four 27 = .ok (.iadd, 1) := by decide +kernel
theorem dX5_four_28 : decode cX5_four 28 = .ok (.iaload, 1) := by decide +kernel
theorem dX5_four_29 : decode cX5_four 29 = .ok (.bipush 8, 2) := by decide +kernel
theorem dX5_four_31 : decode cX5_four 31 = .ok (.ishl, 1) := by decide +kernel
theorem dX5_four_32 : decode cX5_four 32 = .ok (.ior, 1) := by decide +kernel
theorem dX5_four_33 : decode cX5_four 33 = .ok (.aload_n 0, 1) := by decide +kernel
theorem dX5_four_34 : decode cX5_four 34 = .ok (.getfield 7, 3) := by decide +kernel
theorem dX5_four_37 : decode cX5_four 37 = .ok (.iload_n 1, 1) := by decide +kernel
theorem dX5_four_38 : decode cX5_four 38 = .ok (.iconst 3, 1) := by decide +kernel
theorem dX5_four_39 : decode cX5_four 39 = .ok (.iadd, 1) := by decide +kernel
theorem dX5_four_40 : decode cX5_four 40 = .ok (.iaload, 1) := by decide +kernel
theorem dX5_four_41 : decode cX5_four 41 = .ok (.ior, 1) := by decide +kernel
theorem dX5_four_42 : decode cX5_four 42 = .ok (.ireturn, 1) := by decide +kernel
theorem dX5_next_0 : decode cX5_next 0 = .ok (.aload_n 0, 1) := by decide +kernel
theorem dX5_next_1 : decode cX5_next 1 = .ok (.aload_n 0, 1) := by decide +kernel
theorem dX5_next_2 : decode cX5_next 2 = .ok (.getfield 45, 3) := by decide +kernel
theorem dX5_next_5 : decode cX5_next 5 = .ok (.ifCond .eq 18, 3) := by decide +kernel
theorem dX5_next_8 : decode cX5_next 8 = .ok (.aload_n 0, 1) := by decide +kernel
theorem dX5_next_9 : decode cX5_next 9 = .ok (.getfield 49, 3) := by decide +kernel
theorem dX5_next_12 : decode cX5_next 12 = .ok (.aload_n 0, 1) := by decide +kernel
theorem dX5_next_13 : decode cX5_next 13 = .ok (.getfield 52, 3) := by decide +kernel
theorem dX5_next_16 : decode cX5_next 16 = .ok (.if_icmp .ge 7, 3) := by decide +kernel
theorem dX5_next_19 : decode cX5_next 19 = .ok (.iconst 1, 1) := by decide +kernel
theorem dX5_next_20 : decode cX5_next 20 = .ok (.goto 4, 3) := by decide +kernel
theorem dX5_next_23 : decode cX5_next 23 = .ok (.iconst 0, 1) := by decide +kernel
theorem dX5_next_24 : decode cX5_next 24 = .ok (.putfield 45, 3) := by decide +kernel
theorem dX5_next_27 : decode cX5_next 27 = .ok (.aload_n 0, 1) := by decide +kernel
theorem dX5_next_28 : decode cX5_next 28 = .ok (.getfield 45, 3) := by decide +kernel
theorem dX5_next_31 : decode cX5_next 31 = .ok (.ifCond .eq 15, 3) := by decide +kernel
theorem dX5_next_34 : decode cX5_next 34 = .ok (.aload_n 0, 1) := by decide +kernel
theorem dX5_next_35 : decode cX5_next 35 = .ok (.getfield 7, 3) := by decide +kernel
theorem dX5_next_38 : decode cX5_next 38 = .ok (.aload_n 0, 1) := by decide +kernel
theorem dX5_next_39 : decode cX5_next 39 = .ok (.getfield 49, 3) := by decide +kernel
theorem dX5_next_42 : decode cX5_next 42 = .ok (.iaload, 1) := by decide +kernel
theorem dX5_next_43 : decode cX5_next 43 = .ok (.goto 4, 3) := by decide +kernel
theorem dX5_next_46 : decode cX5_next 46 = .ok (.iconst 0, 1) := by decide +kernel
theorem dX5_next_47 : decode cX5_next 47 = .ok (.istore_n 1, 1) := by decide +kernel
theorem dX5_next_48 : decode cX5_next 48 = .ok (.aload_n 0, 1) := by decide +kernel
theorem dX5_next_49 : decode cX5_next 49 = .ok (.dup, 1) := by decide +kernel
theorem dX5_next_50 : decode cX5_next 50 = .ok (.getfield 49, 3) := by decide +kernel
theorem dX5_next_53 : decode cX5_next 53 = .ok (.iconst 1, 1) := by decide +kernel
theorem dX5_next_54 : decode cX5_next 54 = .ok (.iadd, 1) := by decide +kernel
theorem dX5_next_55 : decode cX5_next 55 = .ok (.putfield 49, 3) := by decide +kernel
theorem dX5_next_58 : decode cX5_next 58 = .ok (.iload_n 1, 1) := by decide +kernel
theorem dX5_next_59 : decode cX5_next 59 = .ok (.ireturn, 1) := by decide +kernel
set_option maxRecDepth 20000 in
theorem ggX5_between_X5_next : GoodIn wsX5_between wsX5_next := goodIn_r _ [6, 1, 7, 8, 9, 10, 11, 12, 13, 14, 15, 16, 17, 18, 19, 20, 21, 22, 23, 24, 25, 26, 27] (by decide +kernel) (by decide +kernel)
set_option maxRecDepth 20000 in
theorem gX5_between_X5_next : GoodIn wsX5_between (wsV RX5 55 RX5 yX5_next wsX5_next) := goodIn_app (goodIn_of _ (by decide +kernel)) ggX5_between_X5_next
theorem dX5_between_0 : decode cX5_between 0 = .ok (.aload_n 0, 1) := by decide +kernel
theorem dX5_between_1 : decode cX5_between 1 = .ok (.invokevirtual 55, 3) := by decide +kernel
theorem dX5_between_4 : decode cX5_between 4 = .ok (.istore_n 3, 1) := by decide +kernel
theorem dX5_between_5 : decode cX5_between 5 = .ok (.aload_n 0, 1) := by decide +kernel
theorem dX5_between_6 : decode cX5_between 6 = .ok (.aload_n 0, 1) := by decide +kernel
theorem dX5_between_7 : decode cX5_between 7 = .ok (.getfield 45, 3) := by decide +kernel
theorem dX5_between_10 : decode cX5_between 10 = .ok (.ifCond .eq 17, 3) := by decide +kernel
theorem dX5_between_13 : decode cX5_between 13 = .ok (.iload_n 3, 1) := by decide +kernel
theorem dX5_between_14 : decode cX5_between 14 = .ok (.iload_n 1, 1) := by decide +kernel
theorem dX5_between_15 : decode cX5_between 15 = .ok (.if_icmp .lt 12, 3) := by decide +kernel
theorem dX5_between_18 : decode cX5_between 18 = .ok (.iload_n 3, 1) := by decide +kernel
theorem dX5_between_19 : decode cX5_between 19 = .ok (.iload_n 2, 1) := by decide +kernel
theorem dX5_between_20 : decode cX5_between 20 = .ok (.if_icmp .gt 7, 3) := by decide +kernel
theorem dX5_between_23 : decode cX5_between 23 = .ok (.iconst 1, 1) := by decide +kernel
theorem dX5_between_24 : decode cX5_between 24 = .ok (.goto 4, 3) := by decide +kernel
theorem dX5_between_27 : decode cX5_between 27 = .ok (.iconst 0, 1) := by decide +kernel
theorem dX5_between_28 : decode cX5_between 28 = .ok (.putfield 45, 3) := by decide +kernel
theorem dX5_between_31 : decode cX5_between 31 = .ok (.iload_n 3, 1) := by decide +kernel
theorem dX5_between_32 : decode cX5_between 32 = .ok (.ireturn, 1) := by decide +kernel
theorem dX5_skip_0 : decode cX5_skip 0 = .ok (.aload_n 0, 1) := by decide +kernel
theorem dX5_skip_1 : decode cX5_skip 1 = .ok (.aload_n 0, 1) := by decide +kernel
theorem dX5_skip_2 : decode cX5_skip 2 = .ok (.getfield 45, 3) := by decide +kernel
theorem dX5_skip_5 : decode cX5_skip 5 = .ok (.ifCond .eq 20, 3) := by decide +kernel
theorem dX5_skip_8 : decode cX5_skip 8 = .ok (.aload_n 0, 1) := by decide +kernel
theorem dX5_skip_9 : decode cX5_skip 9 = .ok (.getfield 49, 3) := by decide +kernel
theorem dX5_skip_12 : decode cX5_skip 12 = .ok (.iload_n 1, 1) := by decide +kernel
theorem dX5_skip_13 : decode cX5_skip 13 = .ok (.iadd, 1) := by decide +kernel
theorem dX5_skip_14 : decode cX5_skip 14 = .ok (.aload_n 0, 1) := by decide +kernel
theorem dX5_skip_15 : decode cX5_skip 15 = .ok (.getfield 52, 3) := by decide +kernel
theorem dX5_skip_18 : decode cX5_skip 18 = .ok (.if_icmp .gt 7, 3) := by decide +kernel
theorem dX5_skip_21 : decode cX5_skip 21 = .ok (.iconst 1, 1) := by decide +kernel
theorem dX5_skip_22 : decode cX5_skip 22 = .ok (.goto 4, 3) := by decide +kernel
theorem dX5_skip_25 : decode cX5_skip 25 = .ok (.iconst 0, 1) := by decide +kernel
theorem dX5_skip_26 : decode cX5_skip 26 = .ok (.putfield 45, 3) := by decide +kernel
theorem dX5_skip_29 : decode cX5_skip 29 = .ok (.aload_n 0, 1) := by decide +kernel
theorem dX5_skip_30 : decode cX5_skip 30 = .ok (.aload_n 0, 1) := by decide +kernel
theorem dX5_skip_31 : decode cX5_skip 31 = .ok (.getfield 49, 3) := by decide +kernel
theorem dX5_skip_34 : decode cX5_skip 34 = .ok (.iload_n 1, 1) := by decide +kernel
theorem dX5_skip_35 : decode cX5_skip 35 = .ok (.iadd, 1) := by decide +kernel
theorem dX5_skip_36 : decode cX5_skip 36 = .ok (.putfield 49, 3) := by decide +kernel
theorem dX5_skip_39 : decode cX5_skip 39 = .ok (.return_, 1) := by decide +kernel
set_option maxRecDepth 20000 in
theorem ggX5_passKeys_X5_between : GoodIn wsX5_passKeys wsX5_between := goodIn_r _ [8, 3, 9, 10, 11, 7, 12, 1, 13, 14, 15, 16, 17, 18, 19, 20, 21, 22, 23, 24, 25, 26, 27, 28, 29, 30, 31, 32] (by decide +kernel) (by decide +kernel)
set_option maxRecDepth 20000 in
theorem gX5_passKeys_X5_between : GoodIn wsX5_passKeys (wsV RX5 62 RX5 yX5_between wsX5_between) := goodIn_app (goodIn_of _ (by decide +kernel)) ggX5_passKeys_X5_between
theorem dX5_passKeys_0 : decode cX5_passKeys 0 = .ok (.aload_n 0, 1) := by decide +kernel
theorem dX5_passKeys_1 : decode cX5_passKeys 1 = .ok (.aload_n 0, 1) := by decide +kernel
theorem dX5_passKeys_2 : decode cX5_passKeys 2 = .ok (.getfield 49, 3) := by decide +kernel
theorem dX5_passKeys_5 : decode cX5_passKeys 5 = .ok (.putfield 59, 3) := by decide +kernel
theorem dX5_passKeys_8 : decode cX5_passKeys 8 = .ok (.aload_n 0, 1) := by decide +kernel
theorem dX5_passKeys_9 : decode cX5_passKeys 9 = .ok (.iconst 1, 1) := by decide +kernel
theorem dX5_passKeys_10 : decode cX5_passKeys 10 = .ok (.iconst 4, 1) := by decide +kernel
theorem dX5_passKeys_11 : decode cX5_passKeys 11 = .ok (.invokevirtual 62, 3) := by decide +kernel
theorem dX5_passKeys_14 : decode cX5_passKeys 14 = .ok (.istore_n 1, 1) := by decide +kernel
theorem dX5_passKeys_15 : decode cX5_passKeys 15 = .ok (.aload_n 0, 1) := by decide +kernel
theorem dX5_passKeys_16 : decode cX5_passKeys 16 = .ok (.iconst 1, 1) := by decide +kernel
theorem dX5_passKeys_17 : decode cX5_passKeys 17 = .ok (.iconst 4, 1) := by decide +kernel
theorem dX5_passKeys_18 : decode cX5_passKeys 18 = .ok (.invokevirtual 62, 3) := by decide +kernel
theorem dX5_passKeys_21 : decode cX5_passKeys 21 = .ok (.istore_n 2, 1) := by decide +kernel
theorem dX5_passKeys_22 : decode cX5_passKeys 22 = .ok (.aload_n 0, 1) := by decide +kernel
theorem dX5_passKeys_23 : decode cX5_passKeys 23 = .ok (.aload_n 0, 1) := by decide +kernel
theorem dX5_passKeys_24 : decode cX5_passKeys 24 = .ok (.getfield 45, 3) := by decide +kernel
theorem dX5_passKeys_27 : decode cX5_passKeys 27 = .ok (.ifCond .eq 12, 3) := by decide +kernel
theorem dX5_passKeys_30 : decode cX5_passKeys 30 = .ok (.iload_n 2, 1) := by decide +kernel
theorem dX5_passKeys_31 : decode cX5_passKeys 31 = .ok (.iload_n 1, 1) := by decide +kernel
theorem dX5_passKeys_32 : decode cX5_passKeys 32 = .ok (.if_icmp .lt 7, 3) := by decide +kernel
theorem dX5_passKeys_35 : decode cX5_passKeys 35 = .ok (.iconst 1, 1) := by decide +kernel
theorem dX5_passKeys_36 : decode cX5_passKeys 36 = .ok (.goto 4, 3) := by decide +kernel
theorem dX5_passKeys_39 : decode cX5_passKeys 39 = .ok (.iconst 0, 1) := by decide +kernel
theorem dX5_passKeys_40 : decode cX5_passKeys 40 = .ok (.putfield 45, 3) := by decide +kernel
theorem dX5_passKeys_43 : decode cX5_passKeys 43 = .ok (.iconst (-1), 1) := by decide +kernel
theorem dX5_passKeys_44 : decode cX5_passKeys 44 = .ok (.istore_n 3, 1) := by decide +kernel
theorem dX5_passKeys_45 : decode cX5_passKeys 45 = .ok (.iconst 0, 1) := by decide +kernel
theorem dX5_passKeys_46 : decode cX5_passKeys 46 = .ok (.istore 4, 2) := by decide +kernel
theorem dX5_passKeys_48 : decode cX5_passKeys 48 = .ok (.iload 4, 2) := by decide +kernel
theorem dX5_passKeys_50 : decode cX5_passKeys 50 = .ok (.iload_n 2, 1) := by decide +kernel
theorem dX5_passKeys_51 : decode cX5_passKeys 51 = .ok (.if_icmp .ge 26, 3) := by decide +kernel
theorem dX5_passKeys_54 : decode cX5_passKeys 54 = .ok (.aload_n 0, 1) := by decide +kernel
theorem dX5_passKeys_55 : decode cX5_passKeys 55 = .ok (.getfield 45, 3) := by decide +kernel
theorem dX5_passKeys_58 : decode cX5_passKeys 58 = .ok (.ifCond .eq 19, 3) := by decide +kernel
theorem dX5_passKeys_61 : decode cX5_passKeys 61 = .ok (.aload_n 0, 1) := by decide +kernel
theorem dX5_passKeys_62 : decode cX5_passKeys 62 = .ok (.iload_n 3, 1) := by decide +kernel
theorem dX5_passKeys_63 : decode cX5_passKeys 63 = .ok (.iconst 1, 1) := by decide +kernel
theorem dX5_passKeys_64 : decode cX5_passKeys 64 = .ok (.iadd, 1) := by decide +kernel
theorem dX5_passKeys_65 : decode cX5_passKeys 65 = .ok (.bipush 9, 2) := by decide +kernel
theorem dX5_passKeys_67 : decode cX5_passKeys 67 = .ok (.invokevirtual 62, 3) := by decide +kernel
theorem dX5_passKeys_70 : decode cX5_passKeys 70 = .ok (.istore_n 3, 1) := by decide +kernel
theorem dX5_passKeys_71 : decode cX5_passKeys 71 = .ok (.iinc 4 1, 3) := by decide +kernel
theorem dX5_passKeys_74 : decode cX5_passKeys 74 = .ok (.goto (-26), 3) := by decide +kernel
theorem dX5_passKeys_77 : decode cX5_passKeys 77 = .ok (.return_, 1) := by decide +kernel
set_option maxRecDepth 20000 in
theorem ggX5_passLetters_X5_between : GoodIn wsX5_passLetters wsX5_between := goodIn_r _ [6, 1, 7, 8, 9, 5, 10, 11, 12, 13, 14, 15, 16, 17, 18, 19, 20, 21, 22, 23, 24, 25, 26, 27, 28, 29, 30, 31] (by decide +kernel) (by decide +kernel)
set_option maxRecDepth 20000 in
theorem gX5_passLetters_X5_between : GoodIn wsX5_passLetters (wsV RX5 62 RX5 yX5_between wsX5_between) := goodIn_app (goodIn_of _ (by decide +kernel)) ggX5_passLetters_X5_between
theorem dX5_passLetters_0 : decode cX5_passLetters 0 = .ok (.aload_n 0, 1) := by decide +kernel
theorem dX5_passLetters_1 : decode cX5_passLetters 1 = .ok (.iload_n 1, 1) := by decide +kernel
theorem dX5_passLetters_2 : decode cX5_passLetters 2 = .ok (.iload_n 2, 1) := by decide +kernel
theorem dX5_passLetters_3 : decode cX5_passLetters 3 = .ok (.invokevirtual 62, 3) := by decide +kernel
theorem dX5_passLetters_6 : decode cX5_passLetters 6 = .ok (.istore_n 3, 1) := by decide +kernel
theorem dX5_passLetters_7 : decode cX5_passLetters 7 = .ok (.iconst 0, 1) := by decide +kernel
theorem dX5_passLetters_8 : decode cX5_passLetters 8 = .ok (.istore 4, 2) := by decide +kernel
theorem dX5_passLetters_10 : decode cX5_passLetters 10 = .ok (.iload 4, 2) := by decide +kernel
theorem dX5_passLetters_12 : decode cX5_passLetters 12 = .ok (.iload_n 3, 1) := by decide +kernel
theorem dX5_passLetters_13 : decode cX5_passLetters 13 = .ok (.if_icmp .ge 25, 3) := by decide +kernel
theorem dX5_passLetters_16 : decode cX5_passLetters 16 = .ok (.aload_n 0, 1) := by decide +kernel
theorem dX5_passLetters_17 : decode cX5_passLetters 17 = .ok (.getfield 45, 3) := by decide +kernel
theorem dX5_passLetters_20 : decode cX5_passLetters 20 = .ok (.ifCond .eq 18, 3) := by decide +kernel
theorem dX5_passLetters_23 : decode cX5_passLetters 23 = .ok (.aload_n 0, 1) := by decide +kernel
theorem dX5_passLetters_24 : decode cX5_passLetters 24 = .ok (.bipush 97, 2) := by decide +kernel
theorem dX5_passLetters_26 : decode cX5_passLetters 26 = .ok (.bipush 122, 2) := by decide +kernel
theorem dX5_passLetters_28 : decode cX5_passLetters 28 = .ok (.invokevirtual 62, 3) := by decide +kernel
theorem dX5_passLetters_31 : decode cX5_passLetters 31 = .ok (.pop, 1) := by decide +kernel
theorem dX5_passLetters_32 : decode cX5_passLetters 32 = .ok (.iinc 4 1, 3) := by decide +kernel
theorem dX5_passLetters_35 : decode cX5_passLetters 35 = .ok (.goto (-25), 3) := by decide +kernel
theorem dX5_passLetters_38 : decode cX5_passLetters 38 = .ok (.return_, 1) := by decide +kernel
theorem dX5_areSame_0 : decode cX5_areSame 0 = .ok (.iconst 1, 1) := by decide +kernel
theorem dX5_areSame_1 : decode cX5_areSame 1 = .ok (.istore_n 3, 1) := by decide +kernel
theorem dX5_areSame_2 : decode cX5_areSame 2 = .ok (.iconst 0, 1) := by decide +kernel
theorem dX5_areSame_3 : decode cX5_areSame 3 = .ok (.istore 4, 2) := by decide +kernel
theorem dX5_areSame_5 : decode cX5_areSame 5 = .ok (.iload 4, 2) := by decide +kernel
theorem dX5_areSame_7 : decode cX5_areSame 7 = .ok (.aload_n 0, 1) := by decide +kernel
theorem dX5_areSame_8 : decode cX5_areSame 8 = .ok (.getfield 7, 3) := by decide +kernel
theorem dX5_areSame_11 : decode cX5_areSame 11 = .ok (.iload_n 1, 1) := by decide +kernel
theorem dX5_areSame_12 : decode cX5_areSame 12 = .ok (.iaload, 1) := by decide +kernel
theorem dX5_areSame_13 : decode cX5_areSame 13 = .ok (.if_icmp .gt 40, 3) := by decide +kernel
theorem dX5_areSame_16 : decode cX5_areSame 16 = .ok (.iload_n 3, 1) := by decide +kernel
theorem dX5_areSame_17 : decode cX5_areSame 17 = .ok (.ifCond .eq 28, 3) := by decide +kernel
theorem dX5_areSame_20 : decode cX5_areSame 20 = .ok (.aload_n 0, 1) := by decide +kernel
theorem dX5_areSame_21 : decode cX5_areSame 21 = .ok (.getfield 7, 3) := by decide +kernel
theorem dX5_areSame_24 : decode cX5_areSame 24 = .ok (.iload_n 1, 1) := by decide +kernel
theorem dX5_areSame_25 : decode cX5_areSame 25 = .ok (.iload 4, 2) := by decide +kernel
theorem dX5_areSame_27 : decode cX5_areSame 27 = .ok (.iadd, 1) := by decide +kernel
theorem dX5_areSame_28 : decode cX5_areSame 28 = .ok (.iaload, 1) := by decide +kernel
theorem dX5_areSame_29 : decode cX5_areSame 29 = .ok (.aload_n 0, 1) := by decide +kernel
theorem dX5_areSame_30 : decode cX5_areSame 30 = .ok (.getfield 7, 3) := by decide +kernel
theorem dX5_areSame_33 : decode cX5_areSame 33 = .ok (.iload_n 2, 1) := by decide +kernel
theorem dX5_areSame_34 : decode cX5_areSame 34 = .ok (.iload 4, 2) := by decide +kernel
theorem dX5_areSame_36 : decode cX5_areSame 36 = .ok (.iadd, 1) := by decide +kernel
theorem dX5_areSame_37 : decode cX5_areSame 37 = .ok (.iaload, 1) := by decide +kernel
theorem dX5_areSame_38 : decode cX5_areSame 38 = .ok (.if_icmp .ne 7, 3) := by decide +kernel
theorem dX5_areSame_41 : decode cX5_areSame 41 = .ok (.iconst 1, 1) := by decide +kernel
theorem dX5_areSame_42 : decode cX5_areSame 42 = .ok (.goto 4, 3) := by decide +kernel
theorem dX5_areSame_45 : decode cX5_areSame 45 = .ok (.iconst 0, 1) := by decide +kernel
theorem dX5_areSame_46 : decode cX5_areSame 46 = .ok (.istore_n 3, 1) := by decide +kernel
theorem dX5_areSame_47 : decode cX5_areSame 47 = .ok (.iinc 4 1, 3) := by decide +kernel
theorem dX5_areSame_50 : decode cX5_areSame 50 = .ok (.goto (-45), 3) := by decide +kernel
theorem dX5_areSame_53 : decode cX5_areSame 53 = .ok (.iload_n 3, 1) := by decide +kernel
theorem dX5_areSame_54 : decode cX5_areSame 54 = .ok (.ireturn, 1) := by decide +kernel
set_option maxRecDepth 20000 in
theorem ggX5_passTargets_X5_between : GoodIn wsX5_passTargets wsX5_between := goodIn_r _ [8, 2, 9, 10, 11, 7, 12, 1, 13, 3, 31, 32, 33, 34, 35, 36, 37, 38, 39, 40, 41, 42, 43, 44, 45, 46, 47, 48] (by decide +kernel) (by decide +kernel)
set_option maxRecDepth 20000 in
theorem gX5_passTargets_X5_between : GoodIn wsX5_passTargets (wsV RX5 62 RX5 yX5_between wsX5_between) := goodIn_app (goodIn_of _ (by decide +kernel)) ggX5_passTargets_X5_between
set_option maxRecDepth 20000 in
theorem ggX5_passTargets_X5_passLetters : GoodIn wsX5_passTargets wsX5_passLetters := goodIn_r _ [17, 2, 4, 5, 6, 7, 8, 9, 10, 11, 12, 1, 13, 3, 31, 32, 33, 34, 35, 36, 37, 38, 39, 40, 41, 42, 43, 44, 45, 46, 47, 48] (by decide +kernel) (by decide +kernel)
set_option maxRecDepth 20000 in
theorem gX5_passTargets_X5_passLetters : GoodIn wsX5_passTargets (wsV RX5 66 RX5 yX5_passLetters wsX5_passLetters) := goodIn_app (goodIn_of _ (by decide +kernel)) ggX5_passTargets_X5_passLetters
set_option maxRecDepth 20000 in
theorem ggX5_passTargets_X5_areSame : GoodIn wsX5_passTargets wsX5_areSame := goodIn_r _ [21, 3, 31, 32, 33, 34, 35, 36, 37, 38, 39, 40, 41, 42, 43, 44, 45, 46, 47, 48] (by decide +kernel) (by decide +kernel)
set_option maxRecDepth 20000 in
theorem gX5_passTargets_X5_areSame : GoodIn wsX5_passTargets (wsV RX5 70 RX5 yX5_areSame wsX5_areSame) := goodIn_app (goodIn_of _ (by decide +kernel)) ggX5_passTargets_X5_areSame
set_option maxRecDepth 20000 in
theorem ggX5_passTargets_X5_skip : GoodIn wsX5_passTargets wsX5_skip := goodIn_r _ [25, 2, 1, 13, 31, 32, 33, 34, 35, 36, 37, 38, 39, 40, 41, 42, 43, 44, 45, 46, 47, 48] (by decide +kernel) (by decide +kernel)
set_option maxRecDepth 20000 in
theorem gX5_passTargets_X5_skip : GoodIn wsX5_passTargets (wsV RX5 74 RX5 yX5_skip wsX5_skip) := goodIn_app (goodIn_of _ (by decide +kernel)) ggX5_passTargets_X5_skip
set_option maxRecDepth 20000 in
theorem ggX5_passTargets_X5_passKeys : GoodIn wsX5_passTargets wsX5_passKeys := goodIn_r _ [29, 1, 30, 2, 4, 5, 6, 7, 8, 9, 10, 11, 12, 13, 3, 31, 32, 33, 34, 35, 36, 37, 38, 39, 40, 41, 42, 43, 44, 45, 46, 47, 48] (by decide +kernel) (by decide +kernel)
set_option maxRecDepth 20000 in
theorem gX5_passTargets_X5_passKeys : GoodIn wsX5_passTargets (wsV RX5 77 RX5 yX5_passKeys wsX5_passKeys) := goodIn_app (goodIn_of _ (by decide +kernel)) ggX5_passTargets_X5_passKeys
theorem dX5_passTargets_0 : decode cX5_passTargets 0 = .ok (.aload_n 0, 1) := by decide +kernel
theorem dX5_passTargets_1 : decode cX5_passTargets 1 = .ok (.iconst 0, 1) := by decide +kernel
theorem dX5_passTargets_2 : decode cX5_passTargets 2 = .ok (.iconst 4, 1) := by decide +kernel
theorem dX5_passTargets_3 : decode cX5_passTargets 3 = .ok (.invokevirtual 62, 3) := by decide +kernel
theorem dX5_passTargets_6 : decode cX5_passTargets 6 = .ok (.istore_n 1, 1) := by decide +kernel
theorem dX5_passTargets_7 : decode cX5_passTargets 7 = .ok (.aload_n 0, 1) := by decide +kernel
theorem dX5_passTargets_8 : decode cX5_passTargets 8 = .ok (.getfield 49, 3) := by decide +kernel
theorem dX5_passTargets_11 : decode cX5_passTargets 11 = .ok (.istore_n 2, 1) := by decide +kernel
theorem dX5_passTargets_12 : decode cX5_passTargets 12 = .ok (.iconst 0, 1) := by decide +kernel
theorem dX5_passTargets_13 : decode cX5_passTargets 13 = .ok (.istore_n 3, 1) := by decide +kernel
theorem dX5_passTargets_14 : decode cX5_passTargets 14 = .ok (.iload_n 3, 1) := by decide +kernel
theorem dX5_passTargets_15 : decode cX5_passTargets 15 = .ok (.iload_n 1, 1) := by decide +kernel
theorem dX5_passTargets_16 : decode cX5_passTargets 16 = .ok (.if_icmp .ge 88, 3) := by decide +kernel
theorem dX5_passTargets_19 : decode cX5_passTargets 19 = .ok (.aload_n 0, 1) := by decide +kernel
theorem dX5_passTargets_20 : decode cX5_passTargets 20 = .ok (.getfield 45, 3) := by decide +kernel
theorem dX5_passTargets_23 : decode cX5_passTargets 23 = .ok (.ifCond .eq 81, 3) := by decide +kernel
theorem dX5_passTargets_26 : decode cX5_passTargets 26 = .ok (.aload_n 0, 1) := by decide +kernel
theorem dX5_passTargets_27 : decode cX5_passTargets 27 = .ok (.getfield 49, 3) := by decide +kernel
theorem dX5_passTargets_30 : decode cX5_passTargets 30 = .ok (.istore 4, 2) := by decide +kernel
theorem dX5_passTargets_32 : decode cX5_passTargets 32 = .ok (.aload_n 0, 1) := by decide +kernel
theorem dX5_passTargets_33 : decode cX5_passTargets 33 = .ok (.iconst 1, 1) := by decide +kernel
theorem dX5_passTargets_34 : decode cX5_passTargets 34 = .ok (.iconst 4, 1) := by decide +kernel
theorem dX5_passTargets_35 : decode cX5_passTargets 35 = .ok (.invokevirtual 66, 3) := by decide +kernel
theorem dX5_passTargets_38 : decode cX5_passTargets 38 = .ok (.iload_n 2, 1) := by decide +kernel
theorem dX5_passTargets_39 : decode cX5_passTargets 39 = .ok (.istore 5, 2) := by decide +kernel
theorem dX5_passTargets_41 : decode cX5_passTargets 41 = .ok (.aload_n 0, 1) := by decide +kernel
theorem dX5_passTargets_42 : decode cX5_passTargets 42 = .ok (.getfield 45, 3) := by decide +kernel
theorem dX5_passTargets_45 : decode cX5_passTargets 45 = .ok (.ifCond .eq 48, 3) := by decide +kernel
theorem dX5_passTargets_48 : decode cX5_passTargets 48 = .ok (.iload 5, 2) := by decide +kernel
theorem dX5_passTargets_50 : decode cX5_passTargets 50 = .ok (.iload 4, 2) := by decide +kernel
theorem dX5_passTargets_52 : decode cX5_passTargets 52 = .ok (.if_icmp .ge 41, 3) := by decide +kernel
theorem dX5_passTargets_55 : decode cX5_passTargets 55 = .ok (.aload_n 0, 1) := by decide +kernel
theorem dX5_passTargets_56 : decode cX5_passTargets 56 = .ok (.aload_n 0, 1) := by decide +kernel
theorem dX5_passTargets_57 : decode cX5_passTargets 57 = .ok (.iload 5, 2) := by decide +kernel
theorem dX5_passTargets_59 : decode cX5_passTargets 59 = .ok (.iload 4, 2) := by decide +kernel
theorem dX5_passTargets_61 : decode cX5_passTargets 61 = .ok (.invokevirtual 70, 3) := by decide +kernel
theorem dX5_passTargets_64 : decode cX5_passTargets 64 = .ok (.ifCond .ne 7, 3) := by decide +kernel
theorem dX5_passTargets_67 : decode cX5_passTargets 67 = .ok (.iconst 1, 1) := by decide +kernel
theorem dX5_passTargets_68 : decode cX5_passTargets 68 = .ok (.goto 4, 3) := by decide +kernel
theorem dX5_passTargets_71 : decode cX5_passTargets 71 = .ok (.iconst 0, 1) := by decide +kernel
theorem dX5_passTargets_72 : decode cX5_passTargets 72 = .ok (.putfield 45, 3) := by decide +kernel
theorem dX5_passTargets_75 : decode cX5_passTargets 75 = .ok (.iload 5, 2) := by decide +kernel
theorem dX5_passTargets_77 : decode cX5_passTargets 77 = .ok (.aload_n 0, 1) := by decide +kernel
theorem dX5_passTargets_78 : decode cX5_passTargets 78 = .ok (.getfield 7, 3) := by decide +kernel
theorem dX5_passTargets_81 : decode cX5_passTargets 81 = .ok (.iload 5, 2) := by decide +kernel
theorem dX5_passTargets_83 : decode cX5_passTargets 83 = .ok (.iaload, 1) := by decide +kernel
theorem dX5_passTargets_84 : decode cX5_passTargets 84 = .ok (.iadd, 1) := by decide +kernel
theorem dX5_passTargets_85 : decode cX5_passTargets 85 = .ok (.bipush 6, 2) := by decide +kernel
theorem dX5_passTargets_87 : decode cX5_passTargets 87 = .ok (.iadd, 1) := by decide +kernel
theorem dX5_passTargets_88 : decode cX5_passTargets 88 = .ok (.istore 5, 2) := by decide +kernel
theorem dX5_passTargets_90 : decode cX5_passTargets 90 = .ok (.goto (-49), 3) := by decide +kernel
theorem dX5_passTargets_93 : decode cX5_passTargets 93 = .ok (.aload_n 0, 1) := by decide +kernel
theorem dX5_passTargets_94 : decode cX5_passTargets 94 = .ok (.iconst 5, 1) := by decide +kernel
theorem dX5_passTargets_95 : decode cX5_passTargets 95 = .ok (.invokevirtual 74, 3) := by decide +kernel
theorem dX5_passTargets_98 : decode cX5_passTargets 98 = .ok (.iinc 3 1, 3) := by decide +kernel
theorem dX5_passTargets_101 : decode cX5_passTargets 101 = .ok (.goto (-87), 3) := by decide +kernel
theorem dX5_passTargets_104 : decode cX5_passTargets 104 = .ok (.aload_n 0, 1) := by decide +kernel
theorem dX5_passTargets_105 : decode cX5_passTargets 105 = .ok (.iconst 0, 1) := by decide +kernel
theorem dX5_passTargets_106 : decode cX5_passTargets 106 = .ok (.iconst 3, 1) := by decide +kernel
theorem dX5_passTargets_107 : decode cX5_passTargets 107 = .ok (.invokevirtual 62, 3) := by decide +kernel
theorem dX5_passTargets_110 : decode cX5_passTargets 110 = .ok (.istore_n 1, 1) := by decide +kernel
theorem dX5_passTargets_111 : decode cX5_passTargets 111 = .ok (.iconst 0, 1) := by decide +kernel
theorem dX5_passTargets_112 : decode cX5_passTargets 112 = .ok (.istore_n 3, 1) := by decide +kernel
theorem dX5_passTargets_113 : decode cX5_passTargets 113 = .ok (.iconst 0, 1) := by decide +kernel
theorem dX5_passTargets_114 : decode cX5_passTargets 114 = .ok (.istore 4, 2) := by decide +kernel
theorem dX5_passTargets_116 : decode cX5_passTargets 116 = .ok (.iload 4, 2) := by decide +kernel
theorem dX5_passTargets_118 : decode cX5_passTargets 118 = .ok (.iload_n 1, 1) := by decide +kernel
theorem dX5_passTargets_119 : decode cX5_passTargets 119 = .ok (.if_icmp .ge 74, 3) := by decide +kernel
theorem dX5_passTargets_122 : decode cX5_passTargets 122 = .ok (.aload_n 0, 1) := by decide +kernel
theorem dX5_passTargets_123 : decode cX5_passTargets 123 = .ok (.getfield 45, 3) := by decide +kernel
theorem dX5_passTargets_126 : decode cX5_passTargets 126 = .ok (.ifCond .eq 67, 3) := by decide +kernel
theorem dX5_passTargets_129 : decode cX5_passTargets 129 = .ok (.aload_n 0, 1) := by decide +kernel
theorem dX5_passTargets_130 : decode cX5_passTargets 130 = .ok (.iconst 4, 1) := by decide +kernel
theorem dX5_passTargets_131 : decode cX5_passTargets 131 = .ok (.bipush 6, 2) := by decide +kernel
theorem dX5_passTargets_133 : decode cX5_passTargets 133 = .ok (.invokevirtual 62, 3) := by decide +kernel
theorem dX5_passTargets_136 : decode cX5_passTargets 136 = .ok (.istore 5, 2) := by decide +kernel
theorem dX5_passTargets_138 : decode cX5_passTargets 138 = .ok (.aload_n 0, 1) := by decide +kernel
theorem dX5_passTargets_139 : decode cX5_passTargets 139 = .ok (.aload_n 0, 1) := by decide +kernel
theorem dX5_passTargets_140 : decode cX5_passTargets 140 = .ok (.getfield 45, 3) := by decide +kernel
theorem dX5_passTargets_143 : decode cX5_passTargets 143 = .ok (.ifCond .eq 16, 3) := by decide +kernel
theorem dX5_passTargets_146 : decode cX5_passTargets 146 = .ok (.iload_n 3, 1) := by decide +kernel
theorem dX5_passTargets_147 : decode cX5_passTargets 147 = .ok (.iload 5, 2) := by decide +kernel
theorem dX5_passTargets_149 : decode cX5_passTargets 149 = .ok (.ishr, 1) := by decide +kernel
theorem dX5_passTargets_150 : decode cX5_passTargets 150 = .ok (.iconst 1, 1) := by decide +kernel
theorem dX5_passTargets_151 : decode cX5_passTargets 151 = .ok (.iand, 1) := by decide +kernel
theorem dX5_passTargets_152 : decode cX5_passTargets 152 = .ok (.ifCond .ne 7, 3) := by decide +kernel
theorem dX5_passTargets_155 : decode cX5_passTargets 155 = .ok (.iconst 1, 1) := by decide +kernel
theorem dX5_passTargets_156 : decode cX5_passTargets 156 = .ok (.goto 4, 3) := by decide +kernel
theorem dX5_passTargets_159 : decode cX5_passTargets 159 = .ok (.iconst 0, 1) := by decide +kernel
theorem dX5_passTargets_160 : decode cX5_passTargets 160 = .ok (.putfield 45, 3) := by decide +kernel
theorem dX5_passTargets_163 : decode cX5_passTargets 163 = .ok (.iload_n 3, 1) := by decide +kernel
theorem dX5_passTargets_164 : decode cX5_passTargets 164 = .ok (.iconst 1, 1) := by decide +kernel
theorem dX5_passTargets_165 : decode cX5_passTargets 165 = .ok (.iload 5, 2) := by decide +kernel
theorem dX5_passTargets_167 : decode cX5_passTargets 167 = .ok (.ishl, 1) := by decide +kernel
theorem dX5_passTargets_168 : decode cX5_passTargets 168 = .ok (.ior, 1) := by decide +kernel
theorem dX5_passTargets_169 : decode cX5_passTargets 169 = .ok (.istore_n 3, 1) := by decide +kernel
theorem dX5_passTargets_170 : decode cX5_passTargets 170 = .ok (.aload_n 0, 1) := by decide +kernel
theorem dX5_passTargets_171 : decode cX5_passTargets 171 = .ok (.iconst 0, 1) := by decide +kernel
theorem dX5_passTargets_172 : decode cX5_passTargets 172 = .ok (.iconst 1, 1) := by decide +kernel
theorem dX5_passTargets_173 : decode cX5_passTargets 173 = .ok (.invokevirtual 62, 3) := by decide +kernel
theorem dX5_passTargets_176 : decode cX5_passTargets 176 = .ok (.pop, 1) := by decide +kernel
theorem dX5_passTargets_177 : decode cX5_passTargets 177 = .ok (.aload_n 0, 1) := by decide +kernel
theorem dX5_passTargets_178 : decode cX5_passTargets 178 = .ok (.invokevirtual 77, 3) := by decide +kernel
theorem dX5_passTargets_181 : decode cX5_passTargets 181 = .ok (.aload_n 0, 1) := by decide +kernel
theorem dX5_passTargets_182 : decode cX5_passTargets 182 = .ok (.iconst 0, 1) := by decide +kernel
theorem dX5_passTargets_183 : decode cX5_passTargets 183 = .ok (.iconst 3, 1) := by decide +kernel
theorem dX5_passTargets_184 : decode cX5_passTargets 184 = .ok (.invokevirtual 66, 3) := by decide +kernel
theorem dX5_passTargets_187 : decode cX5_passTargets 187 = .ok (.iinc 4 1, 3) := by decide +kernel
theorem dX5_passTargets_190 : decode cX5_passTargets 190 = .ok (.goto (-74), 3) := by decide +kernel
theorem dX5_passTargets_193 : decode cX5_passTargets 193 = .ok (.return_, 1) := by decide +kernel
set_option maxRecDepth 20000 in
theorem ggX5_passBody_X5_passKeys : GoodIn wsX5_passBody wsX5_passKeys := goodIn_r _ [6, 7, 8, 1, 9, 10, 11, 5, 12, 13, 14, 15, 16, 17, 18, 35, 36, 37, 38, 39, 40, 41, 42, 43, 44, 45, 46, 47, 48, 49, 50, 51, 52] (by decide +kernel) (by decide +kernel)
set_option maxRecDepth 20000 in
theorem gX5_passBody_X5_passKeys : GoodIn wsX5_passBody (wsV RX5 77 RX5 yX5_passKeys wsX5_passKeys) := goodIn_app (goodIn_of _ (by decide +kernel)) ggX5_passBody_X5_passKeys
set_option maxRecDepth 20000 in
theorem ggX5_passBody_X5_between : GoodIn wsX5_passBody wsX5_between := goodIn_r _ [12, 1, 13, 14, 15, 5, 16, 7, 17, 18, 35, 36, 37, 38, 39, 40, 41, 42, 43, 44, 45, 46, 47, 48, 49, 50, 51, 52] (by decide +kernel) (by decide +kernel)
set_option maxRecDepth 20000 in
theorem gX5_passBody_X5_between : GoodIn wsX5_passBody (wsV RX5 62 RX5 yX5_between wsX5_between) := goodIn_app (goodIn_of _ (by decide +kernel)) ggX5_passBody_X5_between
set_option maxRecDepth 20000 in
theorem ggX5_passBody_X5_skip : GoodIn wsX5_passBody wsX5_skip := goodIn_r _ [22, 1, 7, 17, 35, 36, 37, 38, 39, 40, 41, 42, 43, 44, 45, 46, 47, 48, 49, 50, 51, 52] (by decide +kernel) (by decide +kernel)
set_option maxRecDepth 20000 in
theorem gX5_passBody_X5_skip : GoodIn wsX5_passBody (wsV RX5 74 RX5 yX5_skip wsX5_skip) := goodIn_app (goodIn_of _ (by decide +kernel)) ggX5_passBody_X5_skip
set_option maxRecDepth 20000 in
theorem ggX5_passBody_X5_passTargets : GoodIn wsX5_passBody wsX5_passTargets := goodIn_r _ [26, 7, 1, 18, 9, 10, 11, 5, 12, 13, 14, 15, 16, 17, 27, 28, 29, 30, 31, 32, 33, 34, 19, 20, 21, 22, 2, 3, 4, 6, 8, 35, 36, 37, 38, 39, 40, 41, 42, 43, 44, 45, 46, 47, 48, 49, 50, 51, 52] (by decide +kernel) (by decide +kernel)
set_option maxRecDepth 20000 in
theorem gX5_passBody_X5_passTargets : GoodIn wsX5_passBody (wsV RX5 80 RX5 yX5_passTargets wsX5_passTargets) := goodIn_app (goodIn_of _ (by decide +kernel)) ggX5_passBody_X5_passTargets
theorem dX5_passBody_0 : decode cX5_passBody 0 = .ok (.iload_n 1, 1) := by decide +kernel
theorem dX5_passBody_1 : decode cX5_passBody 1 = .ok (.ifCond .ne 30, 3) := by decide +kernel
theorem dX5_passBody_4 : decode cX5_passBody 4 = .ok (.iconst 0, 1) := by decide +kernel
theorem dX5_passBody_5 : decode cX5_passBody 5 = .ok (.istore_n 2, 1) := by decide +kernel
theorem dX5_passBody_6 : decode cX5_passBody 6 = .ok (.iload_n 2, 1) := by decide +kernel
theorem dX5_passBody_7 : decode cX5_passBody 7 = .ok (.iconst 4, 1) := by decide +kernel
theorem dX5_passBody_8 : decode cX5_passBody 8 = .ok (.if_icmp .ge 20, 3) := by decide +kernel
theorem dX5_passBody_11 : decode cX5_passBody 11 = .ok (.aload_n 0, 1) := by decide +kernel
theorem dX5_passBody_12 : decode cX5_passBody 12 = .ok (.getfield 45, 3) := by decide +kernel
theorem dX5_passBody_15 : decode cX5_passBody 15 = .ok (.ifCond .eq 13, 3) := by decide +kernel
theorem dX5_passBody_18 : decode cX5_passBody 18 = .ok (.aload_n 0, 1) := by decide +kernel
theorem dX5_passBody_19 : decode cX5_passBody 19 = .ok (.invokevirtual 77, 3) := by decide +kernel
theorem dX5_passBody_22 : decode cX5_passBody 22 = .ok (.iinc 2 1, 3) := by decide +kernel
theorem dX5_passBody_25 : decode cX5_passBody 25 = .ok (.goto (-19), 3) := by decide +kernel
theorem dX5_passBody_28 : decode cX5_passBody 28 = .ok (.goto 105, 3) := by decide +kernel
theorem dX5_passBody_31 : decode cX5_passBody 31 = .ok (.iload_n 1, 1) := by decide +kernel
theorem dX5_passBody_32 : decode cX5_passBody 32 = .ok (.iconst 1, 1) := by decide +kernel
theorem dX5_passBody_33 : decode cX5_passBody 33 = .ok (.if_icmp .ne 20, 3) := by decide +kernel
theorem dX5_passBody_36 : decode cX5_passBody 36 = .ok (.aload_n 0, 1) := by decide +kernel
theorem dX5_passBody_37 : decode cX5_passBody 37 = .ok (.iconst 1, 1) := by decide +kernel
theorem dX5_passBody_38 : decode cX5_passBody 38 = .ok (.sipush 255, 3) := by decide +kernel
theorem dX5_passBody_41 : decode cX5_passBody 41 = .ok (.invokevirtual 62, 3) := by decide +kernel
theorem dX5_passBody_44 : decode cX5_passBody 44 = .ok (.pop, 1) := by decide +kernel
theorem dX5_passBody_45 : decode cX5_passBody 45 = .ok (.aload_n 0, 1) := by decide +kernel
theorem dX5_passBody_46 : decode cX5_passBody 46 = .ok (.iconst 4, 1) := by decide +kernel
theorem dX5_passBody_47 : decode cX5_passBody 47 = .ok (.invokevirtual 74, 3) := by decide +kernel
theorem dX5_passBody_50 : decode cX5_passBody 50 = .ok (.goto 83, 3) := by decide +kernel
theorem dX5_passBody_53 : decode cX5_passBody 53 = .ok (.iload_n 1, 1) := by decide +kernel
theorem dX5_passBody_54 : decode cX5_passBody 54 = .ok (.iconst 2, 1) := by decide +kernel
theorem dX5_passBody_55 : decode cX5_passBody 55 = .ok (.if_icmp .ne 74, 3) := by decide +kernel
theorem dX5_passBody_58 : decode cX5_passBody 58 = .ok (.aload_n 0, 1) := by decide +kernel
theorem dX5_passBody_59 : decode cX5_passBody 59 = .ok (.iconst 1, 1) := by decide +kernel
theorem dX5_passBody_60 : decode cX5_passBody 60 = .ok (.iconst 4, 1) := by decide +kernel
theorem dX5_passBody_61 : decode cX5_passBody 61 = .ok (.invokevirtual 62, 3) := by decide +kernel
theorem dX5_passBody_64 : decode cX5_passBody 64 = .ok (.istore_n 2, 1) := by decide +kernel
theorem dX5_passBody_65 : decode cX5_passBody 65 = .ok (.iconst 2, 1) := by decide +kernel
theorem dX5_passBody_66 : decode cX5_passBody 66 = .ok (.istore_n 3, 1) := by decide +kernel
theorem dX5_passBody_67 : decode cX5_passBody 67 = .ok (.iconst 0, 1) := by decide +kernel
theorem dX5_passBody_68 : decode cX5_passBody 68 = .ok (.istore 4, 2) := by decide +kernel
theorem dX5_passBody_70 : decode cX5_passBody 70 = .ok (.iload 4, 2) := by decide +kernel
theorem dX5_passBody_72 : decode cX5_passBody 72 = .ok (.iload_n 2, 1) := by decide +kernel
theorem dX5_passBody_73 : decode cX5_passBody 73 = .ok (.if_icmp .ge 53, 3) := by decide +kernel
theorem dX5_passBody_76 : decode cX5_passBody 76 = .ok (.aload_n 0, 1) := by decide +kernel
theorem dX5_passBody_77 : decode cX5_passBody 77 = .ok (.getfield 45, 3) := by decide +kernel
theorem dX5_passBody_80 : decode cX5_passBody 80 = .ok (.ifCond .eq 46, 3) := by decide +kernel
theorem dX5_passBody_83 : decode cX5_passBody 83 = .ok (.aload_n 0, 1) := by decide +kernel
theorem dX5_passBody_84 : decode cX5_passBody 84 = .ok (.iload 4, 2) := by decide +kernel
theorem dX5_passBody_86 : decode cX5_passBody 86 = .ok (.ifCond .ne 7, 3) := by decide +kernel
theorem dX5_passBody_89 : decode cX5_passBody 89 = .ok (.iconst 3, 1) := by decide +kernel
theorem dX5_passBody_90 : decode cX5_passBody 90 = .ok (.goto 6, 3) := by decide +kernel
theorem dX5_passBody_93 : decode cX5_passBody 93 = .ok (.iload_n 3, 1) := by decide +kernel
theorem dX5_passBody_94 : decode cX5_passBody 94 = .ok (.iconst 1, 1) := by decide +kernel
theorem dX5_passBody_95 : decode cX5_passBody 95 = .ok (.iadd, 1) := by decide +kernel
theorem dX5_passBody_96 : decode cX5_passBody 96 = .ok (.iload 4, 2) := by decide +kernel
theorem dX5_passBody_98 : decode cX5_passBody 98 = .ok (.ifCond .ne 7, 3) := by decide +kernel
theorem dX5_passBody_101 : decode cX5_passBody 101 = .ok (.iconst 3, 1) := by decide +kernel
theorem dX5_passBody_102 : decode cX5_passBody 102 = .ok (.goto 5, 3) := by decide +kernel
theorem dX5_passBody_105 : decode cX5_passBody 105 = .ok (.bipush 6, 2) := by decide +kernel
theorem dX5_passBody_107 : decode cX5_passBody 107 = .ok (.invokevirtual 62, 3) := by decide +kernel
theorem dX5_passBody_110 : decode cX5_passBody 110 = .ok (.istore_n 3, 1) := by decide +kernel
theorem dX5_passBody_111 : decode cX5_passBody 111 = .ok (.aload_n 0, 1) := by decide +kernel
theorem dX5_passBody_112 : decode cX5_passBody 112 = .ok (.iconst 1, 1) := by decide +kernel
theorem dX5_passBody_113 : decode cX5_passBody 113 = .ok (.sipush 255, 3) := by decide +kernel
theorem dX5_passBody_116 : decode cX5_passBody 116 = .ok (.invokevirtual 62, 3) := by decide +kernel
theorem dX5_passBody_119 : decode cX5_passBody 119 = .ok (.pop, 1) := by decide +kernel
theorem dX5_passBody_120 : decode cX5_passBody 120 = .ok (.iinc 4 1, 3) := by decide +kernel
theorem dX5_passBody_123 : decode cX5_passBody 123 = .ok (.goto (-53), 3) := by decide +kernel
theorem dX5_passBody_126 : decode cX5_passBody 126 = .ok (.goto 7, 3) := by decide +kernel
theorem dX5_passBody_129 : decode cX5_passBody 129 = .ok (.aload_n 0, 1) := by decide +kernel
theorem dX5_passBody_130 : decode cX5_passBody 130 = .ok (.invokevirtual 80, 3) := by decide +kernel
theorem dX5_passBody_133 : decode cX5_passBody 133 = .ok (.return_, 1) := by decide +kernel
set_option maxRecDepth 20000 in
theorem ggX5_passSigned_X5_between : GoodIn wsX5_passSigned wsX5_between := goodIn_r _ [10, 4, 11, 12, 13, 9, 14, 1, 3, 15, 41, 42, 43, 44, 45, 46, 47, 48, 49, 50, 51, 52, 53, 54, 55, 56, 57, 58] (by decide +kernel) (by decide +kernel)
set_option maxRecDepth 20000 in
theorem gX5_passSigned_X5_between : GoodIn wsX5_passSigned (wsV RX5 62 RX5 yX5_between wsX5_between) := goodIn_app (goodIn_of _ (by decide +kernel)) ggX5_passSigned_X5_between
set_option maxRecDepth 20000 in
theorem ggX5_passSigned_X5_skip : GoodIn wsX5_passSigned wsX5_skip := goodIn_r _ [19, 4, 1, 3, 41, 42, 43, 44, 45, 46, 47, 48, 49, 50, 51, 52, 53, 54, 55, 56, 57, 58] (by decide +kernel) (by decide +kernel)
set_option maxRecDepth 20000 in
theorem gX5_passSigned_X5_skip : GoodIn wsX5_passSigned (wsV RX5 74 RX5 yX5_skip wsX5_skip) := goodIn_app (goodIn_of _ (by decide +kernel)) ggX5_passSigned_X5_skip
set_option maxRecDepth 20000 in
theorem ggX5_passSigned_X5_passBody : GoodIn wsX5_passSigned wsX5_passBody := goodIn_r _ [23, 4, 24, 25, 26, 9, 27, 1, 28, 6, 7, 8, 10, 11, 12, 13, 14, 3, 15, 16, 17, 18, 19, 29, 30, 31, 32, 33, 34, 35, 36, 37, 38, 39, 40, 41, 42, 43, 44, 45, 46, 47, 48, 49, 50, 51, 52, 53, 54, 55, 56, 57, 58] (by decide +kernel) (by decide +kernel)
set_option maxRecDepth 20000 in
theorem gX5_passSigned_X5_passBody : GoodIn wsX5_passSigned (wsV RX5 83 RX5 yX5_passBody wsX5_passBody) := goodIn_app (goodIn_of _ (by decide +kernel)) ggX5_passSigned_X5_passBody
theorem dX5_passSigned_0 : decode cX5_passSigned 0 = .ok (.aload_n 0, 1) := by decide +kernel
theorem dX5_passSigned_1 : decode cX5_passSigned 1 = .ok (.bipush 120, 2) := by decide +kernel
theorem dX5_passSigned_3 : decode cX5_passSigned 3 = .ok (.iload_n 1, 1) := by decide +kernel
theorem dX5_passSigned_4 : decode cX5_passSigned 4 = .ok (.imul, 1) := by decide +kernel
theorem dX5_passSigned_5 : decode cX5_passSigned 5 = .ok (.putfield 49, 3) := by decide +kernel
theorem dX5_passSigned_8 : decode cX5_passSigned 8 = .ok (.aload_n 0, 1) := by decide +kernel
theorem dX5_passSigned_9 : decode cX5_passSigned 9 = .ok (.aload_n 0, 1) := by decide +kernel
theorem dX5_passSigned_10 : decode cX5_passSigned 10 = .ok (.getfield 49, 3) := by decide +kernel
theorem dX5_passSigned_13 : decode cX5_passSigned 13 = .ok (.aload_n 0, 1) := by decide +kernel
theorem dX5_passSigned_14 : decode cX5_passSigned 14 = .ok (.getfield 13, 3) := by decide +kernel
theorem dX5_passSigned_17 : decode cX5_passSigned 17 = .ok (.iload_n 1, 1) := by decide +kernel
theorem dX5_passSigned_18 : decode cX5_passSigned 18 = .ok (.iaload, 1) := by decide +kernel
theorem dX5_passSigned_19 : decode cX5_passSigned 19 = .ok (.iadd, 1) := by decide +kernel
theorem dX5_passSigned_20 : decode cX5_passSigned 20 = .ok (.putfield 52, 3) := by decide +kernel
theorem dX5_passSigned_23 : decode cX5_passSigned 23 = .ok (.aload_n 0, 1) := by decide +kernel
theorem dX5_passSigned_24 : decode cX5_passSigned 24 = .ok (.iconst 1, 1) := by decide +kernel
theorem dX5_passSigned_25 : decode cX5_passSigned 25 = .ok (.putfield 45, 3) := by decide +kernel
theorem dX5_passSigned_28 : decode cX5_passSigned 28 = .ok (.aload_n 0, 1) := by decide +kernel
theorem dX5_passSigned_29 : decode cX5_passSigned 29 = .ok (.iconst 0, 1) := by decide +kernel
theorem dX5_passSigned_30 : decode cX5_passSigned 30 = .ok (.bipush 6, 2) := by decide +kernel
theorem dX5_passSigned_32 : decode cX5_passSigned 32 = .ok (.invokevirtual 62, 3) := by decide +kernel
theorem dX5_passSigned_35 : decode cX5_passSigned 35 = .ok (.istore_n 2, 1) := by decide +kernel
theorem dX5_passSigned_36 : decode cX5_passSigned 36 = .ok (.aload_n 0, 1) := by decide +kernel
theorem dX5_passSigned_37 : decode cX5_passSigned 37 = .ok (.iconst 1, 1) := by decide +kernel
theorem dX5_passSigned_38 : decode cX5_passSigned 38 = .ok (.sipush 255, 3) := by decide +kernel
theorem dX5_passSigned_41 : decode cX5_passSigned 41 = .ok (.invokevirtual 62, 3) := by decide +kernel
theorem dX5_passSigned_44 : decode cX5_passSigned 44 = .ok (.pop, 1) := by decide +kernel
theorem dX5_passSigned_45 : decode cX5_passSigned 45 = .ok (.aload_n 0, 1) := by decide +kernel
theorem dX5_passSigned_46 : decode cX5_passSigned 46 = .ok (.iconst 2, 1) := by decide +kernel
theorem dX5_passSigned_47 : decode cX5_passSigned 47 = .ok (.invokevirtual 74, 3) := by decide +kernel
theorem dX5_passSigned_50 : decode cX5_passSigned 50 = .ok (.aload_n 0, 1) := by decide +kernel
theorem dX5_passSigned_51 : decode cX5_passSigned 51 = .ok (.getfield 45, 3) := by decide +kernel
theorem dX5_passSigned_54 : decode cX5_passSigned 54 = .ok (.ifCond .eq 8, 3) := by decide +kernel
theorem dX5_passSigned_57 : decode cX5_passSigned 57 = .ok (.aload_n 0, 1) := by decide +kernel
theorem dX5_passSigned_58 : decode cX5_passSigned 58 = .ok (.iload_n 2, 1) := by decide +kernel
theorem dX5_passSigned_59 : decode cX5_passSigned 59 = .ok (.invokevirtual 83, 3) := by decide +kernel
theorem dX5_passSigned_62 : decode cX5_passSigned 62 = .ok (.aload_n 0, 1) := by decide +kernel
theorem dX5_passSigned_63 : decode cX5_passSigned 63 = .ok (.aload_n 0, 1) := by decide +kernel
theorem dX5_passSigned_64 : decode cX5_passSigned 64 = .ok (.getfield 49, 3) := by decide +kernel
theorem dX5_passSigned_67 : decode cX5_passSigned 67 = .ok (.putfield 86, 3) := by decide +kernel
theorem dX5_passSigned_70 : decode cX5_passSigned 70 = .ok (.aload_n 0, 1) := by decide +kernel
theorem dX5_passSigned_71 : decode cX5_passSigned 71 = .ok (.getfield 45, 3) := by decide +kernel
theorem dX5_passSigned_74 : decode cX5_passSigned 74 = .ok (.ireturn, 1) := by decide +kernel
set_option maxRecDepth 20000 in
theorem ggX5_isDocument_X5_passSigned : GoodIn wsX5_isDocument wsX5_passSigned := goodIn_r _ [8, 2, 9, 3, 1, 10, 11, 12, 13, 7, 14, 15, 16, 17, 18, 19, 20, 21, 22, 23, 24, 25, 26, 27, 28, 29, 30, 31, 32, 33, 34, 35, 36, 37, 38, 39, 40, 41, 42, 43, 44, 45, 46, 47, 48, 49, 50, 51, 52, 53, 54, 55, 56, 57, 58, 59, 60, 61, 62] (by decide +kernel) (by decide +kernel)
set_option maxRecDepth 20000 in
theorem gX5_isDocument_X5_passSigned : GoodIn wsX5_isDocument (wsV RX5 89 RX5 yX5_passSigned wsX5_passSigned) := goodIn_app (goodIn_of _ (by decide +kernel)) ggX5_isDocument_X5_passSigned
set_option maxRecDepth 20000 in
theorem ggX5_isDocument_X5_between : GoodIn wsX5_isDocument wsX5_between := goodIn_r _ [14, 1, 15, 16, 17, 7, 18, 2, 3, 19, 45, 46, 47, 48, 49, 50, 51, 52, 53, 54, 55, 56, 57, 58, 59, 60, 61, 62] (by decide +kernel) (by decide +kernel)
set_option maxRecDepth 20000 in
theorem gX5_isDocument_X5_between : GoodIn wsX5_isDocument (wsV RX5 62 RX5 yX5_between wsX5_between) := goodIn_app (goodIn_of _ (by decide +kernel)) ggX5_isDocument_X5_between
set_option maxRecDepth 20000 in
theorem ggX5_isDocument_X5_skip : GoodIn wsX5_isDocument wsX5_skip := goodIn_r _ [23, 1, 2, 3, 45, 46, 47, 48, 49, 50, 51, 52, 53, 54, 55, 56, 57, 58, 59, 60, 61, 62] (by decide +kernel) (by decide +kernel)
set_option maxRecDepth 20000 in
theorem gX5_isDocument_X5_skip : GoodIn wsX5_isDocument (wsV RX5 74 RX5 yX5_skip wsX5_skip) := goodIn_app (goodIn_of _ (by decide +kernel)) ggX5_isDocument_X5_skip
theorem dX5_isDocument_0 : decode cX5_isDocument 0 = .ok (.aload_n 0, 1) := by decide +kernel
theorem dX5_isDocument_1 : decode cX5_isDocument 1 = .ok (.iload_n 1, 1) := by decide +kernel
theorem dX5_isDocument_2 : decode cX5_isDocument 2 = .ok (.invokevirtual 89, 3) := by decide +kernel
theorem dX5_isDocument_5 : decode cX5_isDocument 5 = .ok (.ifCond .ne 5, 3) := by decide +kernel
theorem dX5_isDocument_8 : decode cX5_isDocument 8 = .ok (.iconst 0, 1) := by decide +kernel
theorem dX5_isDocument_9 : decode cX5_isDocument 9 = .ok (.ireturn, 1) := by decide +kernel
theorem dX5_isDocument_10 : decode cX5_isDocument 10 = .ok (.aload_n 0, 1) := by decide +kernel
theorem dX5_isDocument_11 : decode cX5_isDocument 11 = .ok (.iconst 0, 1) := by decide +kernel
theorem dX5_isDocument_12 : decode cX5_isDocument 12 = .ok (.bipush 6, 2) := by decide +kernel
theorem dX5_isDocument_14 : decode cX5_isDocument 14 = .ok (.invokevirtual 62, 3) := by decide +kernel
theorem dX5_isDocument_17 : decode cX5_isDocument 17 = .ok (.istore_n 2, 1) := by decide +kernel
theorem dX5_isDocument_18 : decode cX5_isDocument 18 = .ok (.iconst 0, 1) := by decide +kernel
theorem dX5_isDocument_19 : decode cX5_isDocument 19 = .ok (.istore_n 3, 1) := by decide +kernel
theorem dX5_isDocument_20 : decode cX5_isDocument 20 = .ok (.iload_n 3, 1) := by decide +kernel
theorem dX5_isDocument_21 : decode cX5_isDocument 21 = .ok (.iload_n 2, 1) := by decide +kernel
theorem dX5_isDocument_22 : decode cX5_isDocument 22 = .ok (.if_icmp .ge 29, 3) := by decide +kernel
theorem dX5_isDocument_25 : decode cX5_isDocument 25 = .ok (.aload_n 0, 1) := by decide +kernel
theorem dX5_isDocument_26 : decode cX5_isDocument 26 = .ok (.getfield 45, 3) := by decide +kernel
theorem dX5_isDocument_29 : decode cX5_isDocument 29 = .ok (.ifCond .eq 22, 3) := by decide +kernel
theorem dX5_isDocument_32 : decode cX5_isDocument 32 = .ok (.aload_n 0, 1) := by decide +kernel
theorem dX5_isDocument_33 : decode cX5_isDocument 33 = .ok (.iconst 0, 1) := by decide +kernel
theorem dX5_isDocument_34 : decode cX5_isDocument 34 = .ok (.bipush 9, 2) := by decide +kernel
theorem dX5_isDocument_36 : decode cX5_isDocument 36 = .ok (.invokevirtual 62, 3) := by decide +kernel
theorem dX5_isDocument_39 : decode cX5_isDocument 39 = .ok (.pop, 1) := by decide +kernel
theorem dX5_isDocument_40 : decode cX5_isDocument 40 = .ok (.aload_n 0, 1) := by decide +kernel
theorem dX5_isDocument_41 : decode cX5_isDocument 41 = .ok (.iconst 4, 1) := by decide +kernel
theorem dX5_isDocument_42 : decode cX5_isDocument 42 = .ok (.invokevirtual 74, 3) := by decide +kernel
theorem dX5_isDocument_45 : decode cX5_isDocument 45 = .ok (.iinc 3 1, 3) := by decide +kernel
theorem dX5_isDocument_48 : decode cX5_isDocument 48 = .ok (.goto (-28), 3) := by decide +kernel
theorem dX5_isDocument_51 : decode cX5_isDocument 51 = .ok (.aload_n 0, 1) := by decide +kernel
theorem dX5_isDocument_52 : decode cX5_isDocument 52 = .ok (.getfield 45, 3) := by decide +kernel
theorem dX5_isDocument_55 : decode cX5_isDocument 55 = .ok (.ifCond .eq 18, 3) := by decide +kernel
theorem dX5_isDocument_58 : decode cX5_isDocument 58 = .ok (.aload_n 0, 1) := by decide +kernel
theorem dX5_isDocument_59 : decode cX5_isDocument 59 = .ok (.getfield 49, 3) := by decide +kernel
theorem dX5_isDocument_62 : decode cX5_isDocument 62 = .ok (.aload_n 0, 1) := by decide +kernel
theorem dX5_isDocument_63 : decode cX5_isDocument 63 = .ok (.getfield 52, 3) := by decide +kernel
theorem dX5_isDocument_66 : decode cX5_isDocument 66 = .ok (.if_icmp .ne 7, 3) := by decide +kernel
theorem dX5_isDocument_69 : decode cX5_isDocument 69 = .ok (.iconst 1, 1) := by decide +kernel
theorem dX5_isDocument_70 : decode cX5_isDocument 70 = .ok (.goto 4, 3) := by decide +kernel
theorem dX5_isDocument_73 : decode cX5_isDocument 73 = .ok (.iconst 0, 1) := by decide +kernel
theorem dX5_isDocument_74 : decode cX5_isDocument 74 = .ok (.ireturn, 1) := by decide +kernel
set_option maxRecDepth 20000 in
theorem ggX5_hasSignature_X5_mixOf : GoodIn wsX5_hasSignature wsX5_mixOf := goodIn_r _ [7, 8, 2, 9, 14, 15, 16, 17, 18, 19, 20, 21, 22, 23, 24, 25, 26, 27, 28, 29, 30, 31] (by decide +kernel) (by decide +kernel)
set_option maxRecDepth 20000 in
theorem gX5_hasSignature_X5_mixOf : GoodIn wsX5_hasSignature (wsV RX5 38 RX5 yX5_mixOf wsX5_mixOf) := goodIn_app (goodIn_of _ (by decide +kernel)) ggX5_hasSignature_X5_mixOf
set_option maxRecDepth 20000 in
theorem ggX5_hasSignature_X5_four : GoodIn wsX5_hasSignature wsX5_four := goodIn_r _ [13, 2, 14, 15, 16, 17, 18, 19, 20, 21, 22, 23, 24, 25, 26, 27, 28, 29, 30, 31] (by decide +kernel) (by decide +kernel)
set_option maxRecDepth 20000 in
theorem gX5_hasSignature_X5_four : GoodIn wsX5_hasSignature (wsV RX5 93 RX5 yX5_four wsX5_four) := goodIn_app (goodIn_of _ (by decide +kernel)) ggX5_hasSignature_X5_four
theorem dX5_hasSignature_0 : decode cX5_hasSignature 0 = .ok (.bipush 120, 2) := by decide +kernel
theorem dX5_hasSignature_2 : decode cX5_hasSignature 2 = .ok (.iload_n 1, 1) := by decide +kernel
theorem dX5_hasSignature_3 : decode cX5_hasSignature 3 = .ok (.imul, 1) := by decide +kernel
theorem dX5_hasSignature_4 : decode cX5_hasSignature 4 = .ok (.istore_n 3, 1) := by decide +kernel
theorem dX5_hasSignature_5 : decode cX5_hasSignature 5 = .ok (.aload_n 0, 1) := by decide +kernel
theorem dX5_hasSignature_6 : decode cX5_hasSignature 6 = .ok (.iload_n 3, 1) := by decide +kernel
theorem dX5_hasSignature_7 : decode cX5_hasSignature 7 = .ok (.aload_n 0, 1) := by decide +kernel
theorem dX5_hasSignature_8 : decode cX5_hasSignature 8 = .ok (.getfield 86, 3) := by decide +kernel
theorem dX5_hasSignature_11 : decode cX5_hasSignature 11 = .ok (.iload_n 3, 1) := by decide +kernel
theorem dX5_hasSignature_12 : decode cX5_hasSignature 12 = .ok (.isub, 1) := by decide +kernel
theorem dX5_hasSignature_13 : decode cX5_hasSignature 13 = .ok (.iload_n 2, 1) := by decide +kernel
theorem dX5_hasSignature_14 : decode cX5_hasSignature 14 = .ok (.iconst 1, 1) := by decide +kernel
theorem dX5_hasSignature_15 : decode cX5_hasSignature 15 = .ok (.iadd, 1) := by decide +kernel
theorem dX5_hasSignature_16 : decode cX5_hasSignature 16 = .ok (.invokevirtual 38, 3) := by decide +kernel
theorem dX5_hasSignature_19 : decode cX5_hasSignature 19 = .ok (.istore 4, 2) := by decide +kernel
theorem dX5_hasSignature_21 : decode cX5_hasSignature 21 = .ok (.iconst 0, 1) := by decide +kernel
theorem dX5_hasSignature_22 : decode cX5_hasSignature 22 = .ok (.istore 5, 2) := by decide +kernel
theorem dX5_hasSignature_24 : decode cX5_hasSignature 24 = .ok (.iconst 0, 1) := by decide +kernel
theorem dX5_hasSignature_25 : decode cX5_hasSignature 25 = .ok (.istore 6, 2) := by decide +kernel
theorem dX5_hasSignature_27 : decode cX5_hasSignature 27 = .ok (.iload 6, 2) := by decide +kernel
theorem dX5_hasSignature_29 : decode cX5_hasSignature 29 = .ok (.aload_n 0, 1) := by decide +kernel
theorem dX5_hasSignature_30 : decode cX5_hasSignature 30 = .ok (.getfield 7, 3) := by decide +kernel
theorem dX5_hasSignature_33 : decode cX5_hasSignature 33 = .ok (.aload_n 0, 1) := by decide +kernel
theorem dX5_hasSignature_34 : decode cX5_hasSignature 34 = .ok (.getfield 86, 3) := by decide +kernel
theorem dX5_hasSignature_37 : decode cX5_hasSignature 37 = .ok (.iaload, 1) := by decide +kernel
theorem dX5_hasSignature_38 : decode cX5_hasSignature 38 = .ok (.if_icmp .ge 58, 3) := by decide +kernel
theorem dX5_hasSignature_41 : decode cX5_hasSignature 41 = .ok (.aload_n 0, 1) := by decide +kernel
theorem dX5_hasSignature_42 : decode cX5_hasSignature 42 = .ok (.getfield 86, 3) := by decide +kernel
theorem dX5_hasSignature_45 : decode cX5_hasSignature 45 = .ok (.iconst 1, 1) := by decide +kernel
theorem dX5_hasSignature_46 : decode cX5_hasSignature 46 = .ok (.iadd, 1) := by decide +kernel
theorem dX5_hasSignature_47 : decode cX5_hasSignature 47 = .ok (.iconst 5, 1) := by decide +kernel
theorem dX5_hasSignature_48 : decode cX5_hasSignature 48 = .ok (.iload 6, 2) := by decide +kernel
theorem dX5_hasSignature_50 : decode cX5_hasSignature 50 = .ok (.imul, 1) := by decide +kernel
theorem dX5_hasSignature_51 : decode cX5_hasSignature 51 = .ok (.iadd, 1) := by decide +kernel
theorem dX5_hasSignature_52 : decode cX5_hasSignature 52 = .ok (.istore 7, 2) := by decide +kernel
theorem dX5_hasSignature_54 : decode cX5_hasSignature 54 = .ok (.iload 5, 2) := by decide +kernel
theorem dX5_hasSignature_56 : decode cX5_hasSignature 56 = .ok (.ifCond .ne 27, 3) := by decide +kernel
theorem dX5_hasSignature_59 : decode cX5_hasSignature 59 = .ok (.aload_n 0, 1) := by decide +kernel
theorem dX5_hasSignature_60 : decode cX5_hasSignature 60 = .ok (.getfield 7, 3) := by decide +kernel
theorem dX5_hasSignature_63 : decode cX5_hasSignature 63 = .ok (.iload 7, 2) := by decide +kernel
theorem dX5_hasSignature_65 : decode cX5_hasSignature 65 = .ok (.iaload, 1) := by decide +kernel
theorem dX5_hasSignature_66 : decode cX5_hasSignature 66 = .ok (.iload_n 2, 1) := by decide +kernel
theorem dX5_hasSignature_67 : decode cX5_hasSignature 67 = .ok (.if_icmp .ne 20, 3) := by decide +kernel
theorem dX5_hasSignature_70 : decode cX5_hasSignature 70 = .ok (.aload_n 0, 1) := by decide +kernel
theorem dX5_hasSignature_71 : decode cX5_hasSignature 71 = .ok (.iload 7, 2) := by decide +kernel
theorem dX5_hasSignature_73 : decode cX5_hasSignature 73 = .ok (.iconst 1, 1) := by decide +kernel
theorem dX5_hasSignature_74 : decode cX5_hasSignature 74 = .ok (.iadd, 1) := by decide +kernel
theorem dX5_hasSignature_75 : decode cX5_hasSignature 75 = .ok (.invokevirtual 93, 3) := by decide +kernel
theorem dX5_hasSignature_78 : decode cX5_hasSignature 78 = .ok (.iload 4, 2) := by decide +kernel
theorem dX5_hasSignature_80 : decode cX5_hasSignature 80 = .ok (.if_icmp .ne 7, 3) := by decide +kernel
theorem dX5_hasSignature_83 : decode cX5_hasSignature 83 = .ok (.iconst 1, 1) := by decide +kernel
theorem dX5_hasSignature_84 : decode cX5_hasSignature 84 = .ok (.goto 4, 3) := by decide +kernel
theorem dX5_hasSignature_87 : decode cX5_hasSignature 87 = .ok (.iconst 0, 1) := by decide +kernel
theorem dX5_hasSignature_88 : decode cX5_hasSignature 88 = .ok (.istore 5, 2) := by decide +kernel
theorem dX5_hasSignature_90 : decode cX5_hasSignature 90 = .ok (.iinc 6 1, 3) := by decide +kernel
theorem dX5_hasSignature_93 : decode cX5_hasSignature 93 = .ok (.goto (-66), 3) := by decide +kernel
theorem dX5_hasSignature_96 : decode cX5_hasSignature 96 = .ok (.iload 5, 2) := by decide +kernel
theorem dX5_hasSignature_98 : decode cX5_hasSignature 98 = .ok (.ireturn, 1) := by decide +kernel
set_option maxRecDepth 20000 in
theorem ggX5_isSigned_X5_isDocument : GoodIn wsX5_isSigned wsX5_isDocument := goodIn_r _ [6, 7, 8, 9, 10, 11, 12, 5, 13, 14, 15, 16, 17, 18, 19, 20, 21, 22, 23, 1, 24, 25, 26, 27, 28, 29, 30, 31, 32, 33, 34, 35, 36, 37, 38, 39, 40, 41, 42, 43, 44, 45, 46, 47, 48, 63, 64, 65, 66, 67, 68, 69, 70, 71, 72, 73, 74, 75, 76, 77, 78, 79, 80] (by decide +kernel) (by decide +kernel)
set_option maxRecDepth 20000 in
theorem gX5_isSigned_X5_isDocument : GoodIn wsX5_isSigned (wsV RX5 97 RX5 yX5_isDocument wsX5_isDocument) := goodIn_app (goodIn_of _ (by decide +kernel)) ggX5_isSigned_X5_isDocument
set_option maxRecDepth 20000 in
theorem ggX5_isSigned_X5_hasSignature : GoodIn wsX5_isSigned wsX5_hasSignature := goodIn_r _ [52, 15, 1, 53, 54, 55, 5, 56, 57, 58, 59, 60, 61, 62, 63, 64, 65, 66, 67, 68, 69, 70, 71, 72, 73, 74, 75, 76, 77, 78, 79, 80] (by decide +kernel) (by decide +kernel)
set_option maxRecDepth 20000 in
theorem gX5_isSigned_X5_hasSignature : GoodIn wsX5_isSigned (wsV RX5 100 RX5 yX5_hasSignature wsX5_hasSignature) := goodIn_app (goodIn_of _ (by decide +kernel)) ggX5_isSigned_X5_hasSignature
theorem dX5_isSigned_0 : decode cX5_isSigned 0 = .ok (.aload_n 0, 1) := by decide +kernel
theorem dX5_isSigned_1 : decode cX5_isSigned 1 = .ok (.iload_n 1, 1) := by decide +kernel
theorem dX5_isSigned_2 : decode cX5_isSigned 2 = .ok (.invokevirtual 97, 3) := by decide +kernel
theorem dX5_isSigned_5 : decode cX5_isSigned 5 = .ok (.istore_n 3, 1) := by decide +kernel
theorem dX5_isSigned_6 : decode cX5_isSigned 6 = .ok (.iconst 0, 1) := by decide +kernel
theorem dX5_isSigned_7 : decode cX5_isSigned 7 = .ok (.istore 4, 2) := by decide +kernel
theorem dX5_isSigned_9 : decode cX5_isSigned 9 = .ok (.iconst 0, 1) := by decide +kernel
theorem dX5_isSigned_10 : decode cX5_isSigned 10 = .ok (.istore 5, 2) := by decide +kernel
theorem dX5_isSigned_12 : decode cX5_isSigned 12 = .ok (.iload 5, 2) := by decide +kernel
theorem dX5_isSigned_14 : decode cX5_isSigned 14 = .ok (.aload_n 0, 1) := by decide +kernel
theorem dX5_isSigned_15 : decode cX5_isSigned 15 = .ok (.getfield 7, 3) := by decide +kernel
theorem dX5_isSigned_18 : decode cX5_isSigned 18 = .ok (.iload_n 2, 1) := by decide +kernel
theorem dX5_isSigned_19 : decode cX5_isSigned 19 = .ok (.iconst 1, 1) := by decide +kernel
theorem dX5_isSigned_20 : decode cX5_isSigned 20 = .ok (.iadd, 1) := by decide +kernel
theorem dX5_isSigned_21 : decode cX5_isSigned 21 = .ok (.iaload, 1) := by decide +kernel
theorem dX5_isSigned_22 : decode cX5_isSigned 22 = .ok (.if_icmp .ge 43, 3) := by decide +kernel
theorem dX5_isSigned_25 : decode cX5_isSigned 25 = .ok (.iload_n 3, 1) := by decide +kernel
theorem dX5_isSigned_26 : decode cX5_isSigned 26 = .ok (.ifCond .eq 39, 3) := by decide +kernel
theorem dX5_isSigned_29 : decode cX5_isSigned 29 = .ok (.aload_n 0, 1) := by decide +kernel
theorem dX5_isSigned_30 : decode cX5_isSigned 30 = .ok (.iload_n 1, 1) := by decide +kernel
theorem dX5_isSigned_31 : decode cX5_isSigned 31 = .ok (.aload_n 0, 1) := by decide +kernel
theorem dX5_isSigned_32 : decode cX5_isSigned 32 = .ok (.getfield 7, 3) := by decide +kernel
theorem dX5_isSigned_35 : decode cX5_isSigned 35 = .ok (.iload_n 2, 1) := by decide +kernel
theorem dX5_isSigned_36 : decode cX5_isSigned 36 = .ok (.iconst 2, 1) := by decide +kernel
theorem dX5_isSigned_37 : decode cX5_isSigned 37 = .ok (.iadd, 1) := by decide +kernel
theorem dX5_isSigned_38 : decode cX5_isSigned 38 = .ok (.iload 5, 2) := by decide +kernel
theorem dX5_isSigned_40 : decode cX5_isSigned 40 = .ok (.iadd, 1) := by decide +kernel
theorem dX5_isSigned_41 : decode cX5_isSigned 41 = .ok (.iaload, 1) := by decide +kernel
theorem dX5_isSigned_42 : decode cX5_isSigned 42 = .ok (.invokevirtual 100, 3) := by decide +kernel
theorem dX5_isSigned_45 : decode cX5_isSigned 45 = .ok (.ifCond .eq 10, 3) := by decide +kernel
theorem dX5_isSigned_48 : decode cX5_isSigned 48 = .ok (.iload 4, 2) := by decide +kernel
