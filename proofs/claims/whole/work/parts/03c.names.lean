theorem dX0_delegates_16 : decode cX0_delegates 16 = .ok (.invokevirtual 53, 3) := by decide +kernel
theorem dX0_delegates_19 : decode cX0_delegates 19 = .ok (.iadd, 1) := by decide +kernel
theorem dX0_delegates_20 : decode cX0_delegates 20 = .ok (.istore 4, 2) := by decide +kernel
theorem dX0_delegates_22 : decode cX0_delegates 22 = .ok (.aload_n 2, 1) := by decide +kernel
theorem dX0_delegates_23 : decode cX0_delegates 23 = .ok (.iconst 0, 1) := by decide +kernel
theorem dX0_delegates_24 : decode cX0_delegates 24 = .ok (.aload_n 0, 1) := by decide +kernel
theorem dX0_delegates_25 : decode cX0_delegates 25 = .ok (.getfield 14, 3) := by decide +kernel
theorem dX0_delegates_28 : decode cX0_delegates 28 = .ok (.iload 4, 2) := by decide +kernel
theorem dX0_delegates_30 : decode cX0_delegates 30 = .ok (.iconst 1, 1) := by decide +kernel
theorem dX0_delegates_31 : decode cX0_delegates 31 = .ok (.iadd, 1) := by decide +kernel
theorem dX0_delegates_32 : decode cX0_delegates 32 = .ok (.aload_n 0, 1) := by decide +kernel
theorem dX0_delegates_33 : decode cX0_delegates 33 = .ok (.getfield 14, 3) := by decide +kernel
theorem dX0_delegates_36 : decode cX0_delegates 36 = .ok (.iload 4, 2) := by decide +kernel
theorem dX0_delegates_38 : decode cX0_delegates 38 = .ok (.invokevirtual 53, 3) := by decide +kernel
theorem dX0_delegates_41 : decode cX0_delegates 41 = .ok (.invokevirtual 110, 3) := by decide +kernel
theorem dX0_delegates_44 : decode cX0_delegates 44 = .ok (.ireturn, 1) := by decide +kernel
theorem dX1_init_0 : decode cX1_init 0 = .ok (.aload_n 0, 1) := by decide +kernel
theorem dX1_init_1 : decode cX1_init 1 = .ok (.invokespecial 3, 3) := by decide +kernel
theorem dX1_init_4 : decode cX1_init 4 = .ok (.aload_n 0, 1) := by decide +kernel
theorem dX1_init_5 : decode cX1_init 5 = .ok (.iload_n 1, 1) := by decide +kernel
theorem dX1_init_6 : decode cX1_init 6 = .ok (.newarray .int, 2) := by decide +kernel
theorem dX1_init_8 : decode cX1_init 8 = .ok (.putfield 9, 3) := by decide +kernel
theorem dX1_init_11 : decode cX1_init 11 = .ok (.return_, 1) := by decide +kernel
theorem dX1_size_0 : decode cX1_size 0 = .ok (.aload_n 0, 1) := by decide +kernel
theorem dX1_size_1 : decode cX1_size 1 = .ok (.getfield 15, 3) := by decide +kernel
theorem dX1_size_4 : decode cX1_size 4 = .ok (.ireturn, 1) := by decide +kernel
theorem dX1_has_0 : decode cX1_has 0 = .ok (.iload_n 1, 1) := by decide +kernel
theorem dX1_has_1 : decode cX1_has 1 = .ok (.ifCond .lt 15, 3) := by decide +kernel
theorem dX1_has_4 : decode cX1_has 4 = .ok (.iload_n 1, 1) := by decide +kernel
theorem dX1_has_5 : decode cX1_has 5 = .ok (.aload_n 0, 1) := by decide +kernel
theorem dX1_has_6 : decode cX1_has 6 = .ok (.getfield 15, 3) := by decide +kernel
theorem dX1_has_9 : decode cX1_has 9 = .ok (.if_icmp .ge 7, 3) := by decide +kernel
theorem dX1_has_12 : decode cX1_has 12 = .ok (.iconst 1, 1) := by decide +kernel
theorem dX1_has_13 : decode cX1_has 13 = .ok (.goto 4, 3) := by decide +kernel
theorem dX1_has_16 : decode cX1_has 16 = .ok (.iconst 0, 1) := by decide +kernel
theorem dX1_has_17 : decode cX1_has 17 = .ok (.ireturn, 1) := by decide +kernel
theorem dX1_hasRoomFor_0 : decode cX1_hasRoomFor 0 = .ok (.iload_n 1, 1) := by decide +kernel
theorem dX1_hasRoomFor_1 : decode cX1_hasRoomFor 1 = .ok (.aload_n 0, 1) := by decide +kernel
theorem dX1_hasRoomFor_2 : decode cX1_hasRoomFor 2 = .ok (.getfield 9, 3) := by decide +kernel
theorem dX1_hasRoomFor_5 : decode cX1_hasRoomFor 5 = .ok (.arraylength, 1) := by decide +kernel
theorem dX1_hasRoomFor_6 : decode cX1_hasRoomFor 6 = .ok (.aload_n 0, 1) := by decide +kernel
theorem dX1_hasRoomFor_7 : decode cX1_hasRoomFor 7 = .ok (.getfield 15, 3) := by decide +kernel
theorem dX1_hasRoomFor_10 : decode cX1_hasRoomFor 10 = .ok (.isub, 1) := by decide +kernel
theorem dX1_hasRoomFor_11 : decode cX1_hasRoomFor 11 = .ok (.if_icmp .gt 7, 3) := by decide +kernel
theorem dX1_hasRoomFor_14 : decode cX1_hasRoomFor 14 = .ok (.iconst 1, 1) := by decide +kernel
theorem dX1_hasRoomFor_15 : decode cX1_hasRoomFor 15 = .ok (.goto 4, 3) := by decide +kernel
theorem dX1_hasRoomFor_18 : decode cX1_hasRoomFor 18 = .ok (.iconst 0, 1) := by decide +kernel
theorem dX1_hasRoomFor_19 : decode cX1_hasRoomFor 19 = .ok (.ireturn, 1) := by decide +kernel
theorem dX1_byteAt_0 : decode cX1_byteAt 0 = .ok (.iload_n 1, 1) := by decide +kernel
theorem dX1_byteAt_1 : decode cX1_byteAt 1 = .ok (.ifCond .lt 20, 3) := by decide +kernel
theorem dX1_byteAt_4 : decode cX1_byteAt 4 = .ok (.iload_n 1, 1) := by decide +kernel
theorem dX1_byteAt_5 : decode cX1_byteAt 5 = .ok (.aload_n 0, 1) := by decide +kernel
theorem dX1_byteAt_6 : decode cX1_byteAt 6 = .ok (.getfield 15, 3) := by decide +kernel
theorem dX1_byteAt_9 : decode cX1_byteAt 9 = .ok (.if_icmp .ge 12, 3) := by decide +kernel
theorem dX1_byteAt_12 : decode cX1_byteAt 12 = .ok (.aload_n 0, 1) := by decide +kernel
theorem dX1_byteAt_13 : decode cX1_byteAt 13 = .ok (.getfield 9, 3) := by decide +kernel
theorem dX1_byteAt_16 : decode cX1_byteAt 16 = .ok (.iload_n 1, 1) := by decide +kernel
theorem dX1_byteAt_17 : decode cX1_byteAt 17 = .ok (.iaload, 1) := by decide +kernel
theorem dX1_byteAt_18 : decode cX1_byteAt 18 = .ok (.goto 4, 3) := by decide +kernel
theorem dX1_byteAt_21 : decode cX1_byteAt 21 = .ok (.iconst (-1), 1) := by decide +kernel
theorem dX1_byteAt_22 : decode cX1_byteAt 22 = .ok (.ireturn, 1) := by decide +kernel
theorem dX1_wordAt_0 : decode cX1_wordAt 0 = .ok (.iload_n 1, 1) := by decide +kernel
theorem dX1_wordAt_1 : decode cX1_wordAt 1 = .ok (.ifCond .lt 13, 3) := by decide +kernel
theorem dX1_wordAt_4 : decode cX1_wordAt 4 = .ok (.iload_n 1, 1) := by decide +kernel
theorem dX1_wordAt_5 : decode cX1_wordAt 5 = .ok (.aload_n 0, 1) := by decide +kernel
theorem dX1_wordAt_6 : decode cX1_wordAt 6 = .ok (.getfield 15, 3) := by decide +kernel
theorem dX1_wordAt_9 : decode cX1_wordAt 9 = .ok (.iconst 4, 1) := by decide +kernel
theorem dX1_wordAt_10 : decode cX1_wordAt 10 = .ok (.isub, 1) := by decide +kernel
theorem dX1_wordAt_11 : decode cX1_wordAt 11 = .ok (.if_icmp .le 5, 3) := by decide +kernel
theorem dX1_wordAt_14 : decode cX1_wordAt 14 = .ok (.iconst 0, 1) := by decide +kernel
theorem dX1_wordAt_15 : decode cX1_wordAt 15 = .ok (.ireturn, 1) := by decide +kernel
theorem dX1_wordAt_16 : decode cX1_wordAt 16 = .ok (.aload_n 0, 1) := by decide +kernel
theorem dX1_wordAt_17 : decode cX1_wordAt 17 = .ok (.getfield 9, 3) := by decide +kernel
theorem dX1_wordAt_20 : decode cX1_wordAt 20 = .ok (.iload_n 1, 1) := by decide +kernel
theorem dX1_wordAt_21 : decode cX1_wordAt 21 = .ok (.iaload, 1) := by decide +kernel
theorem dX1_wordAt_22 : decode cX1_wordAt 22 = .ok (.bipush 24, 2) := by decide +kernel
theorem dX1_wordAt_24 : decode cX1_wordAt 24 = .ok (.ishl, 1) := by decide +kernel
theorem dX1_wordAt_25 : decode cX1_wordAt 25 = .ok (.aload_n 0, 1) := by decide +kernel
theorem dX1_wordAt_26 : decode cX1_wordAt 26 = .ok (.getfield 9, 3) := by decide +kernel
theorem dX1_wordAt_29 : decode cX1_wordAt 29 = .ok (.iload_n 1, 1) := by decide +kernel
theorem dX1_wordAt_30 : decode cX1_wordAt 30 = .ok (.iconst 1, 1) := by decide +kernel
theorem dX1_wordAt_31 : decode cX1_wordAt 31 = .ok (.iadd, 1) := by decide +kernel
theorem dX1_wordAt_32 : decode cX1_wordAt 32 = .ok (.iaload, 1) := by decide +kernel
theorem dX1_wordAt_33 : decode cX1_wordAt 33 = .ok (.bipush 16, 2) := by decide +kernel
theorem dX1_wordAt_35 : decode cX1_wordAt 35 = .ok (.ishl, 1) := by decide +kernel
theorem dX1_wordAt_36 : decode cX1_wordAt 36 = .ok (.ior, 1) := by decide +kernel
theorem dX1_wordAt_37 : decode cX1_wordAt 37 = .ok (.aload_n 0, 1) := by decide +kernel
theorem dX1_wordAt_38 : decode cX1_wordAt 38 = .ok (.getfield 9, 3) := by decide +kernel
theorem dX1_wordAt_41 : decode cX1_wordAt 41 = .ok (.iload_n 1, 1) := by decide +kernel
theorem dX1_wordAt_42 : decode cX1_wordAt 42 = .ok (.iconst 2, 1) := by decide +kernel
theorem dX1_wordAt_43 : decode cX1_wordAt 43 = .ok (.iadd, 1) := by decide +kernel
theorem dX1_wordAt_44 : decode cX1_wordAt 44 = .ok (.iaload, 1) := by decide +kernel
theorem dX1_wordAt_45 : decode cX1_wordAt 45 = .ok (.bipush 8, 2) := by decide +kernel
theorem dX1_wordAt_47 : decode cX1_wordAt 47 = .ok (.ishl, 1) := by decide +kernel
theorem dX1_wordAt_48 : decode cX1_wordAt 48 = .ok (.ior, 1) := by decide +kernel
theorem dX1_wordAt_49 : decode cX1_wordAt 49 = .ok (.aload_n 0, 1) := by decide +kernel
theorem dX1_wordAt_50 : decode cX1_wordAt 50 = .ok (.getfield 9, 3) := by decide +kernel
theorem dX1_wordAt_53 : decode cX1_wordAt 53 = .ok (.iload_n 1, 1) := by decide +kernel
theorem dX1_wordAt_54 : decode cX1_wordAt 54 = .ok (.iconst 3, 1) := by decide +kernel
theorem dX1_wordAt_55 : decode cX1_wordAt 55 = .ok (.iadd, 1) := by decide +kernel
theorem dX1_wordAt_56 : decode cX1_wordAt 56 = .ok (.iaload, 1) := by decide +kernel
theorem dX1_wordAt_57 : decode cX1_wordAt 57 = .ok (.ior, 1) := by decide +kernel
theorem dX1_wordAt_58 : decode cX1_wordAt 58 = .ok (.ireturn, 1) := by decide +kernel
theorem dX1_replace_0 : decode cX1_replace 0 = .ok (.iload_n 1, 1) := by decide +kernel
theorem dX1_replace_1 : decode cX1_replace 1 = .ok (.ifCond .lt 22, 3) := by decide +kernel
theorem dX1_replace_4 : decode cX1_replace 4 = .ok (.iload_n 1, 1) := by decide +kernel
theorem dX1_replace_5 : decode cX1_replace 5 = .ok (.aload_n 0, 1) := by decide +kernel
theorem dX1_replace_6 : decode cX1_replace 6 = .ok (.getfield 15, 3) := by decide +kernel
theorem dX1_replace_9 : decode cX1_replace 9 = .ok (.if_icmp .ge 14, 3) := by decide +kernel
theorem dX1_replace_12 : decode cX1_replace 12 = .ok (.aload_n 0, 1) := by decide +kernel
theorem dX1_replace_13 : decode cX1_replace 13 = .ok (.getfield 9, 3) := by decide +kernel
theorem dX1_replace_16 : decode cX1_replace 16 = .ok (.iload_n 1, 1) := by decide +kernel
theorem dX1_replace_17 : decode cX1_replace 17 = .ok (.iload_n 2, 1) := by decide +kernel
theorem dX1_replace_18 : decode cX1_replace 18 = .ok (.sipush 255, 3) := by decide +kernel
theorem dX1_replace_21 : decode cX1_replace 21 = .ok (.iand, 1) := by decide +kernel
theorem dX1_replace_22 : decode cX1_replace 22 = .ok (.iastore, 1) := by decide +kernel
theorem dX1_replace_23 : decode cX1_replace 23 = .ok (.return_, 1) := by decide +kernel
theorem dX1_append_0 : decode cX1_append 0 = .ok (.aload_n 0, 1) := by decide +kernel
theorem dX1_append_1 : decode cX1_append 1 = .ok (.getfield 15, 3) := by decide +kernel
theorem dX1_append_4 : decode cX1_append 4 = .ok (.aload_n 0, 1) := by decide +kernel
theorem dX1_append_5 : decode cX1_append 5 = .ok (.getfield 9, 3) := by decide +kernel
theorem dX1_append_8 : decode cX1_append 8 = .ok (.arraylength, 1) := by decide +kernel
theorem dX1_append_9 : decode cX1_append 9 = .ok (.if_icmp .ge 27, 3) := by decide +kernel
theorem dX1_append_12 : decode cX1_append 12 = .ok (.aload_n 0, 1) := by decide +kernel
theorem dX1_append_13 : decode cX1_append 13 = .ok (.getfield 9, 3) := by decide +kernel
theorem dX1_append_16 : decode cX1_append 16 = .ok (.aload_n 0, 1) := by decide +kernel
theorem dX1_append_17 : decode cX1_append 17 = .ok (.getfield 15, 3) := by decide +kernel
theorem dX1_append_20 : decode cX1_append 20 = .ok (.iload_n 1, 1) := by decide +kernel
theorem dX1_append_21 : decode cX1_append 21 = .ok (.sipush 255, 3) := by decide +kernel
theorem dX1_append_24 : decode cX1_append 24 = .ok (.iand, 1) := by decide +kernel
theorem dX1_append_25 : decode cX1_append 25 = .ok (.iastore, 1) := by decide +kernel
theorem dX1_append_26 : decode cX1_append 26 = .ok (.aload_n 0, 1) := by decide +kernel
theorem dX1_append_27 : decode cX1_append 27 = .ok (.dup, 1) := by decide +kernel
theorem dX1_append_28 : decode cX1_append 28 = .ok (.getfield 15, 3) := by decide +kernel
theorem dX1_append_31 : decode cX1_append 31 = .ok (.iconst 1, 1) := by decide +kernel
theorem dX1_append_32 : decode cX1_append 32 = .ok (.iadd, 1) := by decide +kernel
theorem dX1_append_33 : decode cX1_append 33 = .ok (.putfield 15, 3) := by decide +kernel
theorem dX1_append_36 : decode cX1_append 36 = .ok (.return_, 1) := by decide +kernel
set_option maxRecDepth 20000 in
theorem ggX1_appendLowest_X1_append : GoodIn wsX1_appendLowest wsX1_append := goodIn_r _ [5, 6, 7, 8, 9] (by decide +kernel) (by decide +kernel)
set_option maxRecDepth 20000 in
theorem gX1_appendLowest_X1_append : GoodIn wsX1_appendLowest (wsV RX1 19 RX1 yX1_append wsX1_append) := goodIn_app (goodIn_of _ (by decide +kernel)) ggX1_appendLowest_X1_append
theorem dX1_appendLowest_0 : decode cX1_appendLowest 0 = .ok (.iconst 0, 1) := by decide +kernel
theorem dX1_appendLowest_1 : decode cX1_appendLowest 1 = .ok (.istore 4, 2) := by decide +kernel
theorem dX1_appendLowest_3 : decode cX1_appendLowest 3 = .ok (.iload 4, 2) := by decide +kernel
theorem dX1_appendLowest_5 : decode cX1_appendLowest 5 = .ok (.iload_n 3, 1) := by decide +kernel
theorem dX1_appendLowest_6 : decode cX1_appendLowest 6 = .ok (.if_icmp .ge 21, 3) := by decide +kernel
theorem dX1_appendLowest_9 : decode cX1_appendLowest 9 = .ok (.aload_n 0, 1) := by decide +kernel
theorem dX1_appendLowest_10 : decode cX1_appendLowest 10 = .ok (.lload_n 1, 1) := by decide +kernel
theorem dX1_appendLowest_11 : decode cX1_appendLowest 11 = .ok (.bipush 8, 2) := by decide +kernel
theorem dX1_appendLowest_13 : decode cX1_appendLowest 13 = .ok (.iload 4, 2) := by decide +kernel
theorem dX1_appendLowest_15 : decode cX1_appendLowest 15 = .ok (.imul, 1) := by decide +kernel
theorem dX1_appendLowest_16 : decode cX1_appendLowest 16 = .ok (.lushr, 1) := by decide +kernel
theorem dX1_appendLowest_17 : decode cX1_appendLowest 17 = .ok (.l2i, 1) := by decide +kernel
theorem dX1_appendLowest_18 : decode cX1_appendLowest 18 = .ok (.invokevirtual 19, 3) := by decide +kernel
theorem dX1_appendLowest_21 : decode cX1_appendLowest 21 = .ok (.iinc 4 1, 3) := by decide +kernel
theorem dX1_appendLowest_24 : decode cX1_appendLowest 24 = .ok (.goto (-21), 3) := by decide +kernel
theorem dX1_appendLowest_27 : decode cX1_appendLowest 27 = .ok (.return_, 1) := by decide +kernel
set_option maxRecDepth 20000 in
theorem ggX1_appendWord_X1_append : GoodIn wsX1_appendWord wsX1_append := goodIn_r _ [5, 6, 7, 8, 9] (by decide +kernel) (by decide +kernel)
set_option maxRecDepth 20000 in
theorem gX1_appendWord_X1_append : GoodIn wsX1_appendWord (wsV RX1 19 RX1 yX1_append wsX1_append) := goodIn_app (goodIn_of _ (by decide +kernel)) ggX1_appendWord_X1_append
theorem dX1_appendWord_0 : decode cX1_appendWord 0 = .ok (.aload_n 0, 1) := by decide +kernel
theorem dX1_appendWord_1 : decode cX1_appendWord 1 = .ok (.iload_n 1, 1) := by decide +kernel
theorem dX1_appendWord_2 : decode cX1_appendWord 2 = .ok (.bipush 24, 2) := by decide +kernel
theorem dX1_appendWord_4 : decode cX1_appendWord 4 = .ok (.iushr, 1) := by decide +kernel
theorem dX1_appendWord_5 : decode cX1_appendWord 5 = .ok (.invokevirtual 19, 3) := by decide +kernel
theorem dX1_appendWord_8 : decode cX1_appendWord 8 = .ok (.aload_n 0, 1) := by decide +kernel
theorem dX1_appendWord_9 : decode cX1_appendWord 9 = .ok (.iload_n 1, 1) := by decide +kernel
theorem dX1_appendWord_10 : decode cX1_appendWord 10 = .ok (.bipush 16, 2) := by decide +kernel
theorem dX1_appendWord_12 : decode cX1_appendWord 12 = .ok (.iushr, 1) := by decide +kernel
theorem dX1_appendWord_13 : decode cX1_appendWord 13 = .ok (.invokevirtual 19, 3) := by decide +kernel
theorem dX1_appendWord_16 : decode cX1_appendWord 16 = .ok (.aload_n 0, 1) := by decide +kernel
theorem dX1_appendWord_17 : decode cX1_appendWord 17 = .ok (.iload_n 1, 1) := by decide +kernel
theorem dX1_appendWord_18 : decode cX1_appendWord 18 = .ok (.bipush 8, 2) := by decide +kernel
theorem dX1_appendWord_20 : decode cX1_appendWord 20 = .ok (.iushr, 1) := by decide +kernel
theorem dX1_appendWord_21 : decode cX1_appendWord 21 = .ok (.invokevirtual 19, 3) := by decide +kernel
theorem dX1_appendWord_24 : decode cX1_appendWord 24 = .ok (.aload_n 0, 1) := by decide +kernel
theorem dX1_appendWord_25 : decode cX1_appendWord 25 = .ok (.iload_n 1, 1) := by decide +kernel
theorem dX1_appendWord_26 : decode cX1_appendWord 26 = .ok (.invokevirtual 19, 3) := by decide +kernel
theorem dX1_appendWord_29 : decode cX1_appendWord 29 = .ok (.return_, 1) := by decide +kernel
theorem dX1_keepFirst_0 : decode cX1_keepFirst 0 = .ok (.iload_n 1, 1) := by decide +kernel
theorem dX1_keepFirst_1 : decode cX1_keepFirst 1 = .ok (.ifCond .lt 16, 3) := by decide +kernel
theorem dX1_keepFirst_4 : decode cX1_keepFirst 4 = .ok (.iload_n 1, 1) := by decide +kernel
theorem dX1_keepFirst_5 : decode cX1_keepFirst 5 = .ok (.aload_n 0, 1) := by decide +kernel
theorem dX1_keepFirst_6 : decode cX1_keepFirst 6 = .ok (.getfield 15, 3) := by decide +kernel
theorem dX1_keepFirst_9 : decode cX1_keepFirst 9 = .ok (.if_icmp .ge 8, 3) := by decide +kernel
theorem dX1_keepFirst_12 : decode cX1_keepFirst 12 = .ok (.aload_n 0, 1) := by decide +kernel
theorem dX1_keepFirst_13 : decode cX1_keepFirst 13 = .ok (.iload_n 1, 1) := by decide +kernel
theorem dX1_keepFirst_14 : decode cX1_keepFirst 14 = .ok (.putfield 15, 3) := by decide +kernel
theorem dX1_keepFirst_17 : decode cX1_keepFirst 17 = .ok (.return_, 1) := by decide +kernel
theorem dX1_become_0 : decode cX1_become 0 = .ok (.aload_n 1, 1) := by decide +kernel
theorem dX1_become_1 : decode cX1_become 1 = .ok (.getfield 15, 3) := by decide +kernel
theorem dX1_become_4 : decode cX1_become 4 = .ok (.aload_n 0, 1) := by decide +kernel
theorem dX1_become_5 : decode cX1_become 5 = .ok (.getfield 9, 3) := by decide +kernel
theorem dX1_become_8 : decode cX1_become 8 = .ok (.arraylength, 1) := by decide +kernel
theorem dX1_become_9 : decode cX1_become 9 = .ok (.if_icmp .gt 28, 3) := by decide +kernel
theorem dX1_become_12 : decode cX1_become 12 = .ok (.aload_n 1, 1) := by decide +kernel
theorem dX1_become_13 : decode cX1_become 13 = .ok (.getfield 9, 3) := by decide +kernel
theorem dX1_become_16 : decode cX1_become 16 = .ok (.iconst 0, 1) := by decide +kernel
theorem dX1_become_17 : decode cX1_become 17 = .ok (.aload_n 0, 1) := by decide +kernel
theorem dX1_become_18 : decode cX1_become 18 = .ok (.getfield 9, 3) := by decide +kernel
theorem dX1_become_21 : decode cX1_become 21 = .ok (.iconst 0, 1) := by decide +kernel
theorem dX1_become_22 : decode cX1_become 22 = .ok (.aload_n 1, 1) := by decide +kernel
theorem dX1_become_23 : decode cX1_become 23 = .ok (.getfield 15, 3) := by decide +kernel
theorem dX1_become_26 : decode cX1_become 26 = .ok (.invokestatic 23, 3) := by decide +kernel
theorem dX1_become_29 : decode cX1_become 29 = .ok (.aload_n 0, 1) := by decide +kernel
theorem dX1_become_30 : decode cX1_become 30 = .ok (.aload_n 1, 1) := by decide +kernel
theorem dX1_become_31 : decode cX1_become 31 = .ok (.getfield 15, 3) := by decide +kernel
theorem dX1_become_34 : decode cX1_become 34 = .ok (.putfield 15, 3) := by decide +kernel
theorem dX1_become_37 : decode cX1_become 37 = .ok (.return_, 1) := by decide +kernel
theorem dX1_mixOfFirst_0 : decode cX1_mixOfFirst 0 = .ok (.iload_n 2, 1) := by decide +kernel
theorem dX1_mixOfFirst_1 : decode cX1_mixOfFirst 1 = .ok (.ldc 29, 2) := by decide +kernel
theorem dX1_mixOfFirst_3 : decode cX1_mixOfFirst 3 = .ok (.imul, 1) := by decide +kernel
theorem dX1_mixOfFirst_4 : decode cX1_mixOfFirst 4 = .ok (.istore_n 3, 1) := by decide +kernel
theorem dX1_mixOfFirst_5 : decode cX1_mixOfFirst 5 = .ok (.iconst 0, 1) := by decide +kernel
theorem dX1_mixOfFirst_6 : decode cX1_mixOfFirst 6 = .ok (.istore 4, 2) := by decide +kernel
theorem dX1_mixOfFirst_8 : decode cX1_mixOfFirst 8 = .ok (.iload 4, 2) := by decide +kernel
theorem dX1_mixOfFirst_10 : decode cX1_mixOfFirst 10 = .ok (.iload_n 1, 1) := by decide +kernel
theorem dX1_mixOfFirst_11 : decode cX1_mixOfFirst 11 = .ok (.if_icmp .ge 38, 3) := by decide +kernel
theorem dX1_mixOfFirst_14 : decode cX1_mixOfFirst 14 = .ok (.iload 4, 2) := by decide +kernel
theorem dX1_mixOfFirst_16 : decode cX1_mixOfFirst 16 = .ok (.aload_n 0, 1) := by decide +kernel
theorem dX1_mixOfFirst_17 : decode cX1_mixOfFirst 17 = .ok (.getfield 15, 3) := by decide +kernel
theorem dX1_mixOfFirst_20 : decode cX1_mixOfFirst 20 = .ok (.if_icmp .ge 29, 3) := by decide +kernel
theorem dX1_mixOfFirst_23 : decode cX1_mixOfFirst 23 = .ok (.iload_n 3, 1) := by decide +kernel
theorem dX1_mixOfFirst_24 : decode cX1_mixOfFirst 24 = .ok (.aload_n 0, 1) := by decide +kernel
theorem dX1_mixOfFirst_25 : decode cX1_mixOfFirst 25 = .ok (.getfield 9, 3) := by decide +kernel
theorem dX1_mixOfFirst_28 : decode cX1_mixOfFirst 28 = .ok (.iload 4, 2) := by decide +kernel
theorem dX1_mixOfFirst_30 : decode cX1_mixOfFirst 30 = .ok (.iaload, 1) := by decide +kernel
theorem dX1_mixOfFirst_31 : decode cX1_mixOfFirst 31 = .ok (.ixor, 1) := by decide +kernel
theorem dX1_mixOfFirst_32 : decode cX1_mixOfFirst 32 = .ok (.ldc 30, 2) := by decide +kernel
theorem dX1_mixOfFirst_34 : decode cX1_mixOfFirst 34 = .ok (.imul, 1) := by decide +kernel
theorem dX1_mixOfFirst_35 : decode cX1_mixOfFirst 35 = .ok (.istore_n 3, 1) := by decide +kernel
theorem dX1_mixOfFirst_36 : decode cX1_mixOfFirst 36 = .ok (.iload_n 3, 1) := by decide +kernel
theorem dX1_mixOfFirst_37 : decode cX1_mixOfFirst 37 = .ok (.iload_n 3, 1) := by decide +kernel
theorem dX1_mixOfFirst_38 : decode cX1_mixOfFirst 38 = .ok (.bipush 15, 2) := by decide +kernel
theorem dX1_mixOfFirst_40 : decode cX1_mixOfFirst 40 = .ok (.iushr, 1) := by decide +kernel
theorem dX1_mixOfFirst_41 : decode cX1_mixOfFirst 41 = .ok (.ixor, 1) := by decide +kernel
theorem dX1_mixOfFirst_42 : decode cX1_mixOfFirst 42 = .ok (.istore_n 3, 1) := by decide +kernel
theorem dX1_mixOfFirst_43 : decode cX1_mixOfFirst 43 = .ok (.iinc 4 1, 3) := by decide +kernel
theorem dX1_mixOfFirst_46 : decode cX1_mixOfFirst 46 = .ok (.goto (-38), 3) := by decide +kernel
theorem dX1_mixOfFirst_49 : decode cX1_mixOfFirst 49 = .ok (.iload_n 3, 1) := by decide +kernel
theorem dX1_mixOfFirst_50 : decode cX1_mixOfFirst 50 = .ok (.ireturn, 1) := by decide +kernel
set_option maxRecDepth 20000 in
theorem ggX1_wholeDigest_X1_mixOfFirst : GoodIn wsX1_wholeDigest wsX1_mixOfFirst := goodIn_r _ [6, 7, 1, 8, 9, 10, 11] (by decide +kernel) (by decide +kernel)
set_option maxRecDepth 20000 in
theorem gX1_wholeDigest_X1_mixOfFirst : GoodIn wsX1_wholeDigest (wsV RX1 31 RX1 yX1_mixOfFirst wsX1_mixOfFirst) := goodIn_app (goodIn_of _ (by decide +kernel)) ggX1_wholeDigest_X1_mixOfFirst
theorem dX1_wholeDigest_0 : decode cX1_wholeDigest 0 = .ok (.aload_n 0, 1) := by decide +kernel
theorem dX1_wholeDigest_1 : decode cX1_wholeDigest 1 = .ok (.aload_n 0, 1) := by decide +kernel
theorem dX1_wholeDigest_2 : decode cX1_wholeDigest 2 = .ok (.getfield 15, 3) := by decide +kernel
theorem dX1_wholeDigest_5 : decode cX1_wholeDigest 5 = .ok (.iconst 0, 1) := by decide +kernel
theorem dX1_wholeDigest_6 : decode cX1_wholeDigest 6 = .ok (.invokevirtual 31, 3) := by decide +kernel
theorem dX1_wholeDigest_9 : decode cX1_wholeDigest 9 = .ok (.ireturn, 1) := by decide +kernel
set_option maxRecDepth 20000 in
theorem ggX1_agrees_X1_byteAt : GoodIn wsX1_agrees wsX1_byteAt := goodIn_r _ [5, 6, 7, 8, 9] (by decide +kernel) (by decide +kernel)
set_option maxRecDepth 20000 in
theorem gX1_agrees_X1_byteAt : GoodIn wsX1_agrees (wsV RX1 35 RX1 yX1_byteAt wsX1_byteAt) := goodIn_app (goodIn_of _ (by decide +kernel)) ggX1_agrees_X1_byteAt
theorem dX1_agrees_0 : decode cX1_agrees 0 = .ok (.iconst 0, 1) := by decide +kernel
theorem dX1_agrees_1 : decode cX1_agrees 1 = .ok (.istore 5, 2) := by decide +kernel
theorem dX1_agrees_3 : decode cX1_agrees 3 = .ok (.iload 5, 2) := by decide +kernel
theorem dX1_agrees_5 : decode cX1_agrees 5 = .ok (.iload 4, 2) := by decide +kernel
theorem dX1_agrees_7 : decode cX1_agrees 7 = .ok (.if_icmp .ge 40, 3) := by decide +kernel
theorem dX1_agrees_10 : decode cX1_agrees 10 = .ok (.aload_n 0, 1) := by decide +kernel
theorem dX1_agrees_11 : decode cX1_agrees 11 = .ok (.iload_n 1, 1) := by decide +kernel
theorem dX1_agrees_12 : decode cX1_agrees 12 = .ok (.iload 5, 2) := by decide +kernel
theorem dX1_agrees_14 : decode cX1_agrees 14 = .ok (.iadd, 1) := by decide +kernel
theorem dX1_agrees_15 : decode cX1_agrees 15 = .ok (.invokevirtual 35, 3) := by decide +kernel
theorem dX1_agrees_18 : decode cX1_agrees 18 = .ok (.istore 6, 2) := by decide +kernel
theorem dX1_agrees_20 : decode cX1_agrees 20 = .ok (.iload 6, 2) := by decide +kernel
theorem dX1_agrees_22 : decode cX1_agrees 22 = .ok (.iconst (-1), 1) := by decide +kernel
theorem dX1_agrees_23 : decode cX1_agrees 23 = .ok (.if_icmp .eq 16, 3) := by decide +kernel
theorem dX1_agrees_26 : decode cX1_agrees 26 = .ok (.iload 6, 2) := by decide +kernel
theorem dX1_agrees_28 : decode cX1_agrees 28 = .ok (.aload_n 2, 1) := by decide +kernel
theorem dX1_agrees_29 : decode cX1_agrees 29 = .ok (.iload_n 3, 1) := by decide +kernel
theorem dX1_agrees_30 : decode cX1_agrees 30 = .ok (.iload 5, 2) := by decide +kernel
theorem dX1_agrees_32 : decode cX1_agrees 32 = .ok (.iadd, 1) := by decide +kernel
theorem dX1_agrees_33 : decode cX1_agrees 33 = .ok (.invokevirtual 35, 3) := by decide +kernel
theorem dX1_agrees_36 : decode cX1_agrees 36 = .ok (.if_icmp .eq 5, 3) := by decide +kernel
theorem dX1_agrees_39 : decode cX1_agrees 39 = .ok (.iconst 0, 1) := by decide +kernel
theorem dX1_agrees_40 : decode cX1_agrees 40 = .ok (.ireturn, 1) := by decide +kernel
theorem dX1_agrees_41 : decode cX1_agrees 41 = .ok (.iinc 5 1, 3) := by decide +kernel
theorem dX1_agrees_44 : decode cX1_agrees 44 = .ok (.goto (-41), 3) := by decide +kernel
theorem dX1_agrees_47 : decode cX1_agrees 47 = .ok (.iconst 1, 1) := by decide +kernel
theorem dX1_agrees_48 : decode cX1_agrees 48 = .ok (.ireturn, 1) := by decide +kernel
set_option maxRecDepth 20000 in
theorem ggX2_init_X1_init : GoodIn wsX2_init wsX1_init := goodIn_r _ [11, 12, 2, 3, 13, 14, 22, 23] (by decide +kernel) (by decide +kernel)
set_option maxRecDepth 20000 in
theorem gX2_init_X1_init : GoodIn wsX2_init (wsX1_init) := ggX2_init_X1_init
theorem dX2_init_0 : decode cX2_init 0 = .ok (.aload_n 0, 1) := by decide +kernel
theorem dX2_init_1 : decode cX2_init 1 = .ok (.invokespecial 3, 3) := by decide +kernel
theorem dX2_init_4 : decode cX2_init 4 = .ok (.aload_n 0, 1) := by decide +kernel
theorem dX2_init_5 : decode cX2_init 5 = .ok (.aload_n 1, 1) := by decide +kernel
theorem dX2_init_6 : decode cX2_init 6 = .ok (.putfield 9, 3) := by decide +kernel
theorem dX2_init_9 : decode cX2_init 9 = .ok (.aload_n 0, 1) := by decide +kernel
theorem dX2_init_10 : decode cX2_init 10 = .ok (.new 15, 3) := by decide +kernel
theorem dX2_init_13 : decode cX2_init 13 = .ok (.dup, 1) := by decide +kernel
theorem dX2_init_14 : decode cX2_init 14 = .ok (.iconst 4, 1) := by decide +kernel
theorem dX2_init_15 : decode cX2_init 15 = .ok (.invokespecial 17, 3) := by decide +kernel
theorem dX2_init_18 : decode cX2_init 18 = .ok (.putfield 20, 3) := by decide +kernel
theorem dX2_init_21 : decode cX2_init 21 = .ok (.return_, 1) := by decide +kernel
theorem dX2_visitCount_0 : decode cX2_visitCount 0 = .ok (.aload_n 0, 1) := by decide +kernel
theorem dX2_visitCount_1 : decode cX2_visitCount 1 = .ok (.getfield 24, 3) := by decide +kernel
theorem dX2_visitCount_4 : decode cX2_visitCount 4 = .ok (.ireturn, 1) := by decide +kernel
theorem dX2_foundRole_0 : decode cX2_foundRole 0 = .ok (.aload_n 0, 1) := by decide +kernel
theorem dX2_foundRole_1 : decode cX2_foundRole 1 = .ok (.getfield 28, 3) := by decide +kernel
theorem dX2_foundRole_4 : decode cX2_foundRole 4 = .ok (.ireturn, 1) := by decide +kernel
set_option maxRecDepth 20000 in
theorem ggX2_foundTargetIs_X3_documentOf : GoodIn wsX2_foundTargetIs wsX3_documentOf := goodIn_r _ [8, 9, 10, 49, 50, 51] (by decide +kernel) (by decide +kernel)
set_option maxRecDepth 20000 in
theorem gX2_foundTargetIs_X3_documentOf : GoodIn wsX2_foundTargetIs (wsV RX2 31 RX3 yX3_documentOf wsX3_documentOf) := goodIn_app (goodIn_of _ (by decide +kernel)) ggX2_foundTargetIs_X3_documentOf
set_option maxRecDepth 20000 in
theorem ggX2_foundTargetIs_X0_row : GoodIn wsX2_foundTargetIs wsX0_row := goodIn_r _ [15, 16, 52, 53, 54, 55, 56, 57, 58, 59, 60, 61, 62, 63, 64, 65, 66] (by decide +kernel) (by decide +kernel)
set_option maxRecDepth 20000 in
theorem gX2_foundTargetIs_X0_row : GoodIn wsX2_foundTargetIs (wsV RX2 37 RX0 yX0_row wsX0_row) := goodIn_app (goodIn_of _ (by decide +kernel)) ggX2_foundTargetIs_X0_row
set_option maxRecDepth 20000 in
theorem ggX2_foundTargetIs_X1_byteAt : GoodIn wsX2_foundTargetIs wsX1_byteAt := goodIn_r _ [21, 22, 23, 67, 68] (by decide +kernel) (by decide +kernel)
set_option maxRecDepth 20000 in
theorem gX2_foundTargetIs_X1_byteAt : GoodIn wsX2_foundTargetIs (wsV RX2 46 RX1 yX1_byteAt wsX1_byteAt) := goodIn_app (goodIn_of _ (by decide +kernel)) ggX2_foundTargetIs_X1_byteAt
set_option maxRecDepth 20000 in
theorem ggX2_foundTargetIs_X1_size : GoodIn wsX2_foundTargetIs wsX1_size := goodIn_r _ [27, 22, 67, 68] (by decide +kernel) (by decide +kernel)
set_option maxRecDepth 20000 in
theorem gX2_foundTargetIs_X1_size : GoodIn wsX2_foundTargetIs (wsV RX2 50 RX1 yX1_size wsX1_size) := goodIn_app (goodIn_of _ (by decide +kernel)) ggX2_foundTargetIs_X1_size
set_option maxRecDepth 20000 in
theorem ggX2_foundTargetIs_X1_wordAt : GoodIn wsX2_foundTargetIs wsX1_wordAt := goodIn_r _ [31, 22, 23, 67, 68] (by decide +kernel) (by decide +kernel)
set_option maxRecDepth 20000 in
theorem gX2_foundTargetIs_X1_wordAt : GoodIn wsX2_foundTargetIs (wsV RX2 54 RX1 yX1_wordAt wsX1_wordAt) := goodIn_app (goodIn_of _ (by decide +kernel)) ggX2_foundTargetIs_X1_wordAt
set_option maxRecDepth 20000 in
theorem ggX2_foundTargetIs_X1_wholeDigest : GoodIn wsX2_foundTargetIs wsX1_wholeDigest := goodIn_r _ [35, 22, 36, 37, 38, 20, 39, 40, 23, 41, 67, 68] (by decide +kernel) (by decide +kernel)
set_option maxRecDepth 20000 in
theorem gX2_foundTargetIs_X1_wholeDigest : GoodIn wsX2_foundTargetIs (wsV RX2 57 RX1 yX1_wholeDigest wsX1_wholeDigest) := goodIn_app (goodIn_of _ (by decide +kernel)) ggX2_foundTargetIs_X1_wholeDigest
theorem dX2_foundTargetIs_0 : decode cX2_foundTargetIs 0 = .ok (.aload_n 0, 1) := by decide +kernel
theorem dX2_foundTargetIs_1 : decode cX2_foundTargetIs 1 = .ok (.getfield 9, 3) := by decide +kernel
theorem dX2_foundTargetIs_4 : decode cX2_foundTargetIs 4 = .ok (.aload_n 0, 1) := by decide +kernel
theorem dX2_foundTargetIs_5 : decode cX2_foundTargetIs 5 = .ok (.getfield 28, 3) := by decide +kernel
theorem dX2_foundTargetIs_8 : decode cX2_foundTargetIs 8 = .ok (.invokevirtual 31, 3) := by decide +kernel
theorem dX2_foundTargetIs_11 : decode cX2_foundTargetIs 11 = .ok (.invokevirtual 37, 3) := by decide +kernel
theorem dX2_foundTargetIs_14 : decode cX2_foundTargetIs 14 = .ok (.astore_n 2, 1) := by decide +kernel
theorem dX2_foundTargetIs_15 : decode cX2_foundTargetIs 15 = .ok (.aload_n 2, 1) := by decide +kernel
theorem dX2_foundTargetIs_16 : decode cX2_foundTargetIs 16 = .ok (.aload_n 0, 1) := by decide +kernel
theorem dX2_foundTargetIs_17 : decode cX2_foundTargetIs 17 = .ok (.getfield 43, 3) := by decide +kernel
theorem dX2_foundTargetIs_20 : decode cX2_foundTargetIs 20 = .ok (.invokevirtual 46, 3) := by decide +kernel
theorem dX2_foundTargetIs_23 : decode cX2_foundTargetIs 23 = .ok (.aload_n 1, 1) := by decide +kernel
theorem dX2_foundTargetIs_24 : decode cX2_foundTargetIs 24 = .ok (.invokevirtual 50, 3) := by decide +kernel
theorem dX2_foundTargetIs_27 : decode cX2_foundTargetIs 27 = .ok (.if_icmp .ne 24, 3) := by decide +kernel
theorem dX2_foundTargetIs_30 : decode cX2_foundTargetIs 30 = .ok (.aload_n 2, 1) := by decide +kernel
theorem dX2_foundTargetIs_31 : decode cX2_foundTargetIs 31 = .ok (.aload_n 0, 1) := by decide +kernel
theorem dX2_foundTargetIs_32 : decode cX2_foundTargetIs 32 = .ok (.getfield 43, 3) := by decide +kernel
theorem dX2_foundTargetIs_35 : decode cX2_foundTargetIs 35 = .ok (.iconst 1, 1) := by decide +kernel
theorem dX2_foundTargetIs_36 : decode cX2_foundTargetIs 36 = .ok (.iadd, 1) := by decide +kernel
theorem dX2_foundTargetIs_37 : decode cX2_foundTargetIs 37 = .ok (.invokevirtual 54, 3) := by decide +kernel
theorem dX2_foundTargetIs_40 : decode cX2_foundTargetIs 40 = .ok (.aload_n 1, 1) := by decide +kernel
theorem dX2_foundTargetIs_41 : decode cX2_foundTargetIs 41 = .ok (.invokevirtual 57, 3) := by decide +kernel
theorem dX2_foundTargetIs_44 : decode cX2_foundTargetIs 44 = .ok (.if_icmp .ne 7, 3) := by decide +kernel
theorem dX2_foundTargetIs_47 : decode cX2_foundTargetIs 47 = .ok (.iconst 1, 1) := by decide +kernel
theorem dX2_foundTargetIs_48 : decode cX2_foundTargetIs 48 = .ok (.goto 4, 3) := by decide +kernel
theorem dX2_foundTargetIs_51 : decode cX2_foundTargetIs 51 = .ok (.iconst 0, 1) := by decide +kernel
theorem dX2_foundTargetIs_52 : decode cX2_foundTargetIs 52 = .ok (.ireturn, 1) := by decide +kernel
set_option maxRecDepth 20000 in
theorem ggX2_run_X1_keepFirst : GoodIn wsX2_run wsX1_keepFirst := goodIn_r _ [10, 11, 159, 160] (by decide +kernel) (by decide +kernel)
set_option maxRecDepth 20000 in
theorem gX2_run_X1_keepFirst : GoodIn wsX2_run (wsV RX2 60 RX1 yX1_keepFirst wsX1_keepFirst) := goodIn_app (goodIn_of _ (by decide +kernel)) ggX2_run_X1_keepFirst
set_option maxRecDepth 20000 in
theorem ggX2_run_X1_appendLowest : GoodIn wsX2_run wsX1_appendLowest := goodIn_r _ [15, 16, 17, 18, 9, 19, 11, 20, 159, 160] (by decide +kernel) (by decide +kernel)
set_option maxRecDepth 20000 in
theorem gX2_run_X1_appendLowest : GoodIn wsX2_run (wsV RX2 63 RX1 yX1_appendLowest wsX1_appendLowest) := goodIn_app (goodIn_of _ (by decide +kernel)) ggX2_run_X1_appendLowest
set_option maxRecDepth 20000 in
theorem ggX2_run_X2_visit : GoodIn wsX2_run wsX2_visit := goodIn_r _ [25, 2, 3, 26, 1, 27, 4, 5, 28, 29, 30, 31, 32, 33, 34, 35, 36, 37, 38, 39, 40, 41, 42, 43, 44, 45, 9, 46, 11, 20, 47, 48, 49, 50, 51, 52, 53, 54, 55, 56, 57, 58, 59, 60, 61, 62, 63, 24, 64, 65, 66, 67, 68, 69, 70, 71, 72, 73, 74, 75, 76, 77, 78, 79, 80, 81, 82, 83, 84, 85, 86, 87, 88, 89, 90, 91, 92, 93, 94, 95, 96, 97, 98, 99, 100, 101, 102, 103, 104, 105, 106, 107, 108, 109, 110, 111, 112, 113, 114, 115, 116, 117, 118, 119, 120, 121, 122, 123, 124, 125, 126, 127, 128, 129, 130, 131, 132, 133, 134, 135, 136, 137, 138, 139, 140, 141, 142, 143, 144, 145, 146, 147, 21, 22, 23, 148, 149, 150, 151, 152, 153, 154, 155, 156, 157, 158, 161, 162, 163, 164, 165, 166, 167, 168, 169, 170, 171, 172, 173, 174, 175, 176, 177, 178, 159, 160] (by decide +kernel) (by decide +kernel)
set_option maxRecDepth 20000 in
theorem gX2_run_X2_visit : GoodIn wsX2_run (wsV RX2 74 RX2 yX2_visit wsX2_visit) := goodIn_app (goodIn_of _ (by decide +kernel)) ggX2_run_X2_visit
theorem dX2_run_0 : decode cX2_run 0 = .ok (.aload_n 0, 1) := by decide +kernel
theorem dX2_run_1 : decode cX2_run 1 = .ok (.getfield 20, 3) := by decide +kernel
theorem dX2_run_4 : decode cX2_run 4 = .ok (.iconst 0, 1) := by decide +kernel
theorem dX2_run_5 : decode cX2_run 5 = .ok (.invokevirtual 60, 3) := by decide +kernel
theorem dX2_run_8 : decode cX2_run 8 = .ok (.aload_n 0, 1) := by decide +kernel
theorem dX2_run_9 : decode cX2_run 9 = .ok (.getfield 20, 3) := by decide +kernel
theorem dX2_run_12 : decode cX2_run 12 = .ok (.lload_n 1, 1) := by decide +kernel
theorem dX2_run_13 : decode cX2_run 13 = .ok (.iload_n 3, 1) := by decide +kernel
theorem dX2_run_14 : decode cX2_run 14 = .ok (.invokevirtual 63, 3) := by decide +kernel
theorem dX2_run_17 : decode cX2_run 17 = .ok (.aload_n 0, 1) := by decide +kernel
theorem dX2_run_18 : decode cX2_run 18 = .ok (.iconst 0, 1) := by decide +kernel
theorem dX2_run_19 : decode cX2_run 19 = .ok (.putfield 67, 3) := by decide +kernel
theorem dX2_run_22 : decode cX2_run 22 = .ok (.aload_n 0, 1) := by decide +kernel
theorem dX2_run_23 : decode cX2_run 23 = .ok (.iconst 0, 1) := by decide +kernel
theorem dX2_run_24 : decode cX2_run 24 = .ok (.putfield 24, 3) := by decide +kernel
theorem dX2_run_27 : decode cX2_run 27 = .ok (.aload_n 0, 1) := by decide +kernel
theorem dX2_run_28 : decode cX2_run 28 = .ok (.iconst (-1), 1) := by decide +kernel
theorem dX2_run_29 : decode cX2_run 29 = .ok (.putfield 28, 3) := by decide +kernel
theorem dX2_run_32 : decode cX2_run 32 = .ok (.aload_n 0, 1) := by decide +kernel
theorem dX2_run_33 : decode cX2_run 33 = .ok (.iconst 0, 1) := by decide +kernel
theorem dX2_run_34 : decode cX2_run 34 = .ok (.putfield 70, 3) := by decide +kernel
theorem dX2_run_37 : decode cX2_run 37 = .ok (.aload_n 0, 1) := by decide +kernel
theorem dX2_run_38 : decode cX2_run 38 = .ok (.iconst 3, 1) := by decide +kernel
theorem dX2_run_39 : decode cX2_run 39 = .ok (.iconst 0, 1) := by decide +kernel
theorem dX2_run_40 : decode cX2_run 40 = .ok (.invokevirtual 74, 3) := by decide +kernel
theorem dX2_run_43 : decode cX2_run 43 = .ok (.return_, 1) := by decide +kernel
set_option maxRecDepth 20000 in
theorem ggX2_visit_X3_documentOf : GoodIn wsX2_visit wsX3_documentOf := goodIn_r _ [12, 13, 14, 146, 147, 148] (by decide +kernel) (by decide +kernel)
set_option maxRecDepth 20000 in
theorem gX2_visit_X3_documentOf : GoodIn wsX2_visit (wsV RX2 31 RX3 yX3_documentOf wsX3_documentOf) := goodIn_app (goodIn_of _ (by decide +kernel)) ggX2_visit_X3_documentOf
set_option maxRecDepth 20000 in
theorem ggX2_visit_X0_targetNamed : GoodIn wsX2_visit wsX0_targetNamed := goodIn_r _ [19, 20, 21, 22, 23, 24, 25, 26, 27, 28, 29, 30, 31, 32, 33, 34, 35, 36, 37, 38, 149, 150, 151, 152, 153, 154, 155, 156, 157, 158, 159, 160, 161, 162, 163, 164, 165] (by decide +kernel) (by decide +kernel)
set_option maxRecDepth 20000 in
theorem gX2_visit_X0_targetNamed : GoodIn wsX2_visit (wsV RX2 78 RX0 yX0_targetNamed wsX0_targetNamed) := goodIn_app (goodIn_of _ (by decide +kernel)) ggX2_visit_X0_targetNamed
set_option maxRecDepth 20000 in
theorem ggX2_visit_X0_delegationCount : GoodIn wsX2_visit wsX0_delegationCount := goodIn_r _ [42, 43, 149, 150, 151, 152, 153, 154, 155, 156, 157, 158, 159, 160, 161, 162, 163] (by decide +kernel) (by decide +kernel)
set_option maxRecDepth 20000 in
theorem gX2_visit_X0_delegationCount : GoodIn wsX2_visit (wsV RX2 82 RX0 yX0_delegationCount wsX0_delegationCount) := goodIn_app (goodIn_of _ (by decide +kernel)) ggX2_visit_X0_delegationCount
set_option maxRecDepth 20000 in
theorem ggX2_visit_X2_mayFollow : GoodIn wsX2_visit wsX2_mayFollow := goodIn_r _ [48, 4, 1, 3, 49, 50, 51, 18, 52, 22, 53, 54, 55, 56, 43, 57, 23, 24, 25, 26, 27, 28, 29, 58, 59, 60, 61, 62, 63, 64, 65, 34, 35, 36, 37, 38, 66, 67, 68, 11, 69, 70, 71, 72, 73, 74, 9, 10, 12, 13, 14, 75, 76, 77, 78, 79, 80, 81, 82, 83, 84, 85, 86, 87, 88, 89, 90, 91, 92, 93, 94, 95, 96, 97, 98, 99, 8, 100, 101, 102, 103, 104, 105, 106, 107, 108, 109, 110, 111, 112, 113, 114, 115, 116, 117, 118, 119, 120, 121, 122, 123, 124, 125, 126, 127, 128, 129, 130, 131, 139, 140, 141, 142, 143, 144, 145, 149, 150, 151, 152, 153, 154, 155, 156, 157, 158, 159, 160, 161, 162, 163, 164, 165, 146, 147, 148] (by decide +kernel) (by decide +kernel)
set_option maxRecDepth 20000 in
theorem gX2_visit_X2_mayFollow : GoodIn wsX2_visit (wsV RX2 85 RX2 yX2_mayFollow wsX2_mayFollow) := goodIn_app (goodIn_of _ (by decide +kernel)) ggX2_visit_X2_mayFollow
set_option maxRecDepth 20000 in
theorem ggX2_visit_X0_delegateOf : GoodIn wsX2_visit wsX0_delegateOf := goodIn_r _ [52, 22, 53, 54, 55, 18, 56, 43, 57, 23, 24, 25, 26, 27, 28, 29, 149, 150, 151, 152, 153, 154, 155, 156, 157, 158, 159, 160, 161, 162, 163, 164, 165] (by decide +kernel) (by decide +kernel)
set_option maxRecDepth 20000 in
theorem gX2_visit_X0_delegateOf : GoodIn wsX2_visit (wsV RX2 89 RX0 yX0_delegateOf wsX0_delegateOf) := goodIn_app (goodIn_of _ (by decide +kernel)) ggX2_visit_X0_delegateOf
set_option maxRecDepth 20000 in
theorem ggX2_visit_X2_visit : GoodIn wsX2_visit wsX2_visit := goodIn_r _ [0, 1, 2, 3, 4, 5, 6, 7, 8, 9, 10, 11, 12, 13, 14, 15, 16, 17, 18, 19, 20, 21, 22, 23, 24, 25, 26, 27, 28, 29, 30, 31, 32, 33, 34, 35, 36, 37, 38, 39, 40, 41, 42, 43, 44, 45, 46, 47, 48, 49, 50, 51, 52, 53, 54, 55, 56, 57, 58, 59, 60, 61, 62, 63, 64, 65, 66, 67, 68, 69, 70, 71, 72, 73, 74, 75, 76, 77, 78, 79, 80, 81, 82, 83, 84, 85, 86, 87, 88, 89, 90, 91, 92, 93, 94, 95, 96, 97, 98, 99, 100, 101, 102, 103, 104, 105, 106, 107, 108, 109, 110, 111, 112, 113, 114, 115, 116, 117, 118, 119, 120, 121, 122, 123, 124, 125, 126, 127, 128, 129, 130, 131, 132, 133, 134, 135, 136, 137, 138, 139, 140, 141, 142, 143, 144, 145, 146, 147, 148, 149, 150, 151, 152, 153, 154, 155, 156, 157, 158, 159, 160, 161, 162, 163, 164, 165] (by decide +kernel) (by decide +kernel)
set_option maxRecDepth 20000 in
theorem gX2_visit_X2_visit : GoodIn wsX2_visit (wsV RX2 74 RX2 yX2_visit wsX2_visit) := goodIn_app (goodIn_of _ (by decide +kernel)) ggX2_visit_X2_visit
set_option maxRecDepth 20000 in
theorem ggX2_visit_X0_isFinal : GoodIn wsX2_visit wsX0_isFinal := goodIn_r _ [138, 22, 53, 54, 55, 18, 56, 43, 57, 23, 24, 25, 26, 27, 28, 29, 149, 150, 151, 152, 153, 154, 155, 156, 157, 158, 159, 160, 161, 162, 163, 164, 165] (by decide +kernel) (by decide +kernel)
set_option maxRecDepth 20000 in
theorem gX2_visit_X0_isFinal : GoodIn wsX2_visit (wsV RX2 92 RX0 yX0_isFinal wsX0_isFinal) := goodIn_app (goodIn_of _ (by decide +kernel)) ggX2_visit_X0_isFinal
theorem dX2_visit_0 : decode cX2_visit 0 = .ok (.iload_n 2, 1) := by decide +kernel
theorem dX2_visit_1 : decode cX2_visit 1 = .ok (.iconst 3, 1) := by decide +kernel
theorem dX2_visit_2 : decode cX2_visit 2 = .ok (.if_icmp .le 4, 3) := by decide +kernel
theorem dX2_visit_5 : decode cX2_visit 5 = .ok (.return_, 1) := by decide +kernel
theorem dX2_visit_6 : decode cX2_visit 6 = .ok (.aload_n 0, 1) := by decide +kernel
theorem dX2_visit_7 : decode cX2_visit 7 = .ok (.dup, 1) := by decide +kernel
theorem dX2_visit_8 : decode cX2_visit 8 = .ok (.getfield 67, 3) := by decide +kernel
theorem dX2_visit_11 : decode cX2_visit 11 = .ok (.iconst 1, 1) := by decide +kernel
theorem dX2_visit_12 : decode cX2_visit 12 = .ok (.iload_n 1, 1) := by decide +kernel
theorem dX2_visit_13 : decode cX2_visit 13 = .ok (.ishl, 1) := by decide +kernel
theorem dX2_visit_14 : decode cX2_visit 14 = .ok (.ior, 1) := by decide +kernel
theorem dX2_visit_15 : decode cX2_visit 15 = .ok (.putfield 67, 3) := by decide +kernel
theorem dX2_visit_18 : decode cX2_visit 18 = .ok (.aload_n 0, 1) := by decide +kernel
theorem dX2_visit_19 : decode cX2_visit 19 = .ok (.dup, 1) := by decide +kernel
theorem dX2_visit_20 : decode cX2_visit 20 = .ok (.getfield 24, 3) := by decide +kernel
theorem dX2_visit_23 : decode cX2_visit 23 = .ok (.iconst 1, 1) := by decide +kernel
theorem dX2_visit_24 : decode cX2_visit 24 = .ok (.iadd, 1) := by decide +kernel
theorem dX2_visit_25 : decode cX2_visit 25 = .ok (.putfield 24, 3) := by decide +kernel
theorem dX2_visit_28 : decode cX2_visit 28 = .ok (.aload_n 0, 1) := by decide +kernel
theorem dX2_visit_29 : decode cX2_visit 29 = .ok (.getfield 9, 3) := by decide +kernel
theorem dX2_visit_32 : decode cX2_visit 32 = .ok (.iload_n 1, 1) := by decide +kernel
theorem dX2_visit_33 : decode cX2_visit 33 = .ok (.invokevirtual 31, 3) := by decide +kernel
theorem dX2_visit_36 : decode cX2_visit 36 = .ok (.astore_n 3, 1) := by decide +kernel
theorem dX2_visit_37 : decode cX2_visit 37 = .ok (.aload_n 0, 1) := by decide +kernel
theorem dX2_visit_38 : decode cX2_visit 38 = .ok (.aload_n 3, 1) := by decide +kernel
theorem dX2_visit_39 : decode cX2_visit 39 = .ok (.aload_n 0, 1) := by decide +kernel
theorem dX2_visit_40 : decode cX2_visit 40 = .ok (.getfield 20, 3) := by decide +kernel
theorem dX2_visit_43 : decode cX2_visit 43 = .ok (.invokevirtual 78, 3) := by decide +kernel
theorem dX2_visit_46 : decode cX2_visit 46 = .ok (.putfield 43, 3) := by decide +kernel
theorem dX2_visit_49 : decode cX2_visit 49 = .ok (.aload_n 0, 1) := by decide +kernel
theorem dX2_visit_50 : decode cX2_visit 50 = .ok (.getfield 43, 3) := by decide +kernel
theorem dX2_visit_53 : decode cX2_visit 53 = .ok (.iconst (-1), 1) := by decide +kernel
theorem dX2_visit_54 : decode cX2_visit 54 = .ok (.if_icmp .eq 14, 3) := by decide +kernel
theorem dX2_visit_57 : decode cX2_visit 57 = .ok (.aload_n 0, 1) := by decide +kernel
theorem dX2_visit_58 : decode cX2_visit 58 = .ok (.iload_n 1, 1) := by decide +kernel
theorem dX2_visit_59 : decode cX2_visit 59 = .ok (.putfield 28, 3) := by decide +kernel
theorem dX2_visit_62 : decode cX2_visit 62 = .ok (.aload_n 0, 1) := by decide +kernel
theorem dX2_visit_63 : decode cX2_visit 63 = .ok (.iconst 1, 1) := by decide +kernel
theorem dX2_visit_64 : decode cX2_visit 64 = .ok (.putfield 70, 3) := by decide +kernel
theorem dX2_visit_67 : decode cX2_visit 67 = .ok (.return_, 1) := by decide +kernel
theorem dX2_visit_68 : decode cX2_visit 68 = .ok (.iconst 0, 1) := by decide +kernel
theorem dX2_visit_69 : decode cX2_visit 69 = .ok (.istore 4, 2) := by decide +kernel
theorem dX2_visit_71 : decode cX2_visit 71 = .ok (.iload 4, 2) := by decide +kernel
theorem dX2_visit_73 : decode cX2_visit 73 = .ok (.aload_n 3, 1) := by decide +kernel
theorem dX2_visit_74 : decode cX2_visit 74 = .ok (.invokevirtual 82, 3) := by decide +kernel
theorem dX2_visit_77 : decode cX2_visit 77 = .ok (.if_icmp .ge 64, 3) := by decide +kernel
theorem dX2_visit_80 : decode cX2_visit 80 = .ok (.aload_n 0, 1) := by decide +kernel
theorem dX2_visit_81 : decode cX2_visit 81 = .ok (.getfield 70, 3) := by decide +kernel
theorem dX2_visit_84 : decode cX2_visit 84 = .ok (.ifCond .ne 57, 3) := by decide +kernel
theorem dX2_visit_87 : decode cX2_visit 87 = .ok (.aload_n 0, 1) := by decide +kernel
theorem dX2_visit_88 : decode cX2_visit 88 = .ok (.aload_n 3, 1) := by decide +kernel
theorem dX2_visit_89 : decode cX2_visit 89 = .ok (.iload 4, 2) := by decide +kernel
theorem dX2_visit_91 : decode cX2_visit 91 = .ok (.invokevirtual 85, 3) := by decide +kernel
theorem dX2_visit_94 : decode cX2_visit 94 = .ok (.ifCond .eq 41, 3) := by decide +kernel
theorem dX2_visit_97 : decode cX2_visit 97 = .ok (.aload_n 0, 1) := by decide +kernel
theorem dX2_visit_98 : decode cX2_visit 98 = .ok (.aload_n 3, 1) := by decide +kernel
theorem dX2_visit_99 : decode cX2_visit 99 = .ok (.iload 4, 2) := by decide +kernel
theorem dX2_visit_101 : decode cX2_visit 101 = .ok (.invokevirtual 89, 3) := by decide +kernel
theorem dX2_visit_104 : decode cX2_visit 104 = .ok (.iload_n 2, 1) := by decide +kernel
theorem dX2_visit_105 : decode cX2_visit 105 = .ok (.iconst 1, 1) := by decide +kernel
theorem dX2_visit_106 : decode cX2_visit 106 = .ok (.iadd, 1) := by decide +kernel
theorem dX2_visit_107 : decode cX2_visit 107 = .ok (.invokevirtual 74, 3) := by decide +kernel
theorem dX2_visit_110 : decode cX2_visit 110 = .ok (.aload_n 0, 1) := by decide +kernel
theorem dX2_visit_111 : decode cX2_visit 111 = .ok (.aload_n 0, 1) := by decide +kernel
theorem dX2_visit_112 : decode cX2_visit 112 = .ok (.getfield 70, 3) := by decide +kernel
theorem dX2_visit_115 : decode cX2_visit 115 = .ok (.ifCond .ne 12, 3) := by decide +kernel
theorem dX2_visit_118 : decode cX2_visit 118 = .ok (.aload_n 3, 1) := by decide +kernel
theorem dX2_visit_119 : decode cX2_visit 119 = .ok (.iload 4, 2) := by decide +kernel
theorem dX2_visit_121 : decode cX2_visit 121 = .ok (.invokevirtual 92, 3) := by decide +kernel
theorem dX2_visit_124 : decode cX2_visit 124 = .ok (.ifCond .eq 7, 3) := by decide +kernel
theorem dX2_visit_127 : decode cX2_visit 127 = .ok (.iconst 1, 1) := by decide +kernel
theorem dX2_visit_128 : decode cX2_visit 128 = .ok (.goto 4, 3) := by decide +kernel
theorem dX2_visit_131 : decode cX2_visit 131 = .ok (.iconst 0, 1) := by decide +kernel
theorem dX2_visit_132 : decode cX2_visit 132 = .ok (.putfield 70, 3) := by decide +kernel
theorem dX2_visit_135 : decode cX2_visit 135 = .ok (.iinc 4 1, 3) := by decide +kernel
theorem dX2_visit_138 : decode cX2_visit 138 = .ok (.goto (-67), 3) := by decide +kernel
theorem dX2_visit_141 : decode cX2_visit 141 = .ok (.return_, 1) := by decide +kernel
set_option maxRecDepth 20000 in
theorem ggX2_mayFollow_X0_delegateOf : GoodIn wsX2_mayFollow wsX0_delegateOf := goodIn_r _ [8, 9, 10, 11, 12, 7, 13, 14, 15, 16, 17, 18, 19, 20, 21, 22, 116, 117, 118, 119, 120, 121, 122, 123, 124, 125, 126, 127, 128, 129, 130, 131, 132] (by decide +kernel) (by decide +kernel)
set_option maxRecDepth 20000 in
theorem gX2_mayFollow_X0_delegateOf : GoodIn wsX2_mayFollow (wsV RX2 89 RX0 yX0_delegateOf wsX0_delegateOf) := goodIn_app (goodIn_of _ (by decide +kernel)) ggX2_mayFollow_X0_delegateOf
set_option maxRecDepth 20000 in
theorem ggX2_mayFollow_X0_delegates : GoodIn wsX2_mayFollow wsX0_delegates := goodIn_r _ [26, 9, 27, 28, 29, 7, 30, 10, 11, 12, 13, 14, 15, 16, 17, 18, 19, 20, 21, 22, 31, 32, 33, 34, 35, 116, 117, 118, 119, 120, 121, 122, 123, 124, 125, 126, 127, 128, 129, 130, 131, 132] (by decide +kernel) (by decide +kernel)
set_option maxRecDepth 20000 in
theorem gX2_mayFollow_X0_delegates : GoodIn wsX2_mayFollow (wsV RX2 96 RX0 yX0_delegates wsX0_delegates) := goodIn_app (goodIn_of _ (by decide +kernel)) ggX2_mayFollow_X0_delegates
set_option maxRecDepth 20000 in
theorem ggX2_mayFollow_X3_isFresh : GoodIn wsX2_mayFollow wsX3_isFresh := goodIn_r _ [40, 41, 42, 43, 39, 44, 45, 46, 47, 48, 49, 50, 51, 52, 53, 7, 54, 55, 56, 57, 58, 59, 60, 61, 62, 63, 64, 65, 66, 67, 68, 69, 70, 71, 72, 73, 74, 75, 133, 134, 135, 116, 117, 118, 119, 120, 121, 122, 123, 124, 125, 126, 127, 128, 129, 130] (by decide +kernel) (by decide +kernel)
set_option maxRecDepth 20000 in
theorem gX2_mayFollow_X3_isFresh : GoodIn wsX2_mayFollow (wsV RX2 100 RX3 yX3_isFresh wsX3_isFresh) := goodIn_app (goodIn_of _ (by decide +kernel)) ggX2_mayFollow_X3_isFresh
set_option maxRecDepth 20000 in
theorem ggX2_mayFollow_X3_documentOf : GoodIn wsX2_mayFollow wsX3_documentOf := goodIn_r _ [48, 49, 50, 133, 134, 135] (by decide +kernel) (by decide +kernel)
set_option maxRecDepth 20000 in
theorem gX2_mayFollow_X3_documentOf : GoodIn wsX2_mayFollow (wsV RX2 31 RX3 yX3_documentOf wsX3_documentOf) := goodIn_app (goodIn_of _ (by decide +kernel)) ggX2_mayFollow_X3_documentOf
set_option maxRecDepth 20000 in
theorem ggX2_mayFollow_X0_row : GoodIn wsX2_mayFollow wsX0_row := goodIn_r _ [80, 9, 116, 117, 118, 119, 120, 121, 122, 123, 124, 125, 126, 127, 128, 129, 130] (by decide +kernel) (by decide +kernel)
set_option maxRecDepth 20000 in
theorem gX2_mayFollow_X0_row : GoodIn wsX2_mayFollow (wsV RX2 37 RX0 yX0_row wsX0_row) := goodIn_app (goodIn_of _ (by decide +kernel)) ggX2_mayFollow_X0_row
set_option maxRecDepth 20000 in
theorem ggX2_mayFollow_X0_delegatedKeySet : GoodIn wsX2_mayFollow wsX0_delegatedKeySet := goodIn_r _ [30, 10, 11, 12, 7, 13, 14, 15, 116, 117, 118, 119, 120, 121, 122, 123, 124, 125, 126, 127, 128, 129, 130] (by decide +kernel) (by decide +kernel)
set_option maxRecDepth 20000 in
theorem gX2_mayFollow_X0_delegatedKeySet : GoodIn wsX2_mayFollow (wsV RX2 103 RX0 yX0_delegatedKeySet wsX0_delegatedKeySet) := goodIn_app (goodIn_of _ (by decide +kernel)) ggX2_mayFollow_X0_delegatedKeySet
set_option maxRecDepth 20000 in
theorem ggX2_mayFollow_X0_isSignedAsAsked : GoodIn wsX2_mayFollow wsX0_isSignedAsAsked := goodIn_r _ [85, 16, 17, 18, 19, 20, 21, 22, 86, 87, 88, 7, 89, 90, 9, 91, 92, 93, 94, 95, 96, 97, 98, 99, 100, 101, 102, 103, 104, 105, 106, 107, 108, 131, 132, 116, 117, 118, 119, 120, 121, 122, 123, 124, 125, 126, 127, 128, 129, 130] (by decide +kernel) (by decide +kernel)
set_option maxRecDepth 20000 in
theorem gX2_mayFollow_X0_isSignedAsAsked : GoodIn wsX2_mayFollow (wsV RX2 106 RX0 yX0_isSignedAsAsked wsX0_isSignedAsAsked) := goodIn_app (goodIn_of _ (by decide +kernel)) ggX2_mayFollow_X0_isSignedAsAsked
theorem dX2_mayFollow_0 : decode cX2_mayFollow 0 = .ok (.aload_n 1, 1) := by decide +kernel
theorem dX2_mayFollow_1 : decode cX2_mayFollow 1 = .ok (.iload_n 2, 1) := by decide +kernel
theorem dX2_mayFollow_2 : decode cX2_mayFollow 2 = .ok (.invokevirtual 89, 3) := by decide +kernel
theorem dX2_mayFollow_5 : decode cX2_mayFollow 5 = .ok (.istore_n 3, 1) := by decide +kernel
theorem dX2_mayFollow_6 : decode cX2_mayFollow 6 = .ok (.aload_n 1, 1) := by decide +kernel
theorem dX2_mayFollow_7 : decode cX2_mayFollow 7 = .ok (.iload_n 2, 1) := by decide +kernel
theorem dX2_mayFollow_8 : decode cX2_mayFollow 8 = .ok (.aload_n 0, 1) := by decide +kernel
theorem dX2_mayFollow_9 : decode cX2_mayFollow 9 = .ok (.getfield 20, 3) := by decide +kernel
theorem dX2_mayFollow_12 : decode cX2_mayFollow 12 = .ok (.invokevirtual 96, 3) := by decide +kernel
theorem dX2_mayFollow_15 : decode cX2_mayFollow 15 = .ok (.ifCond .eq 52, 3) := by decide +kernel
theorem dX2_mayFollow_18 : decode cX2_mayFollow 18 = .ok (.aload_n 0, 1) := by decide +kernel
theorem dX2_mayFollow_19 : decode cX2_mayFollow 19 = .ok (.getfield 67, 3) := by decide +kernel
theorem dX2_mayFollow_22 : decode cX2_mayFollow 22 = .ok (.iload_n 3, 1) := by decide +kernel
theorem dX2_mayFollow_23 : decode cX2_mayFollow 23 = .ok (.ishr, 1) := by decide +kernel
theorem dX2_mayFollow_24 : decode cX2_mayFollow 24 = .ok (.iconst 1, 1) := by decide +kernel
theorem dX2_mayFollow_25 : decode cX2_mayFollow 25 = .ok (.iand, 1) := by decide +kernel
theorem dX2_mayFollow_26 : decode cX2_mayFollow 26 = .ok (.ifCond .ne 41, 3) := by decide +kernel
theorem dX2_mayFollow_29 : decode cX2_mayFollow 29 = .ok (.aload_n 0, 1) := by decide +kernel
theorem dX2_mayFollow_30 : decode cX2_mayFollow 30 = .ok (.getfield 9, 3) := by decide +kernel
theorem dX2_mayFollow_33 : decode cX2_mayFollow 33 = .ok (.iload_n 3, 1) := by decide +kernel
theorem dX2_mayFollow_34 : decode cX2_mayFollow 34 = .ok (.invokevirtual 100, 3) := by decide +kernel
theorem dX2_mayFollow_37 : decode cX2_mayFollow 37 = .ok (.ifCond .eq 30, 3) := by decide +kernel
theorem dX2_mayFollow_40 : decode cX2_mayFollow 40 = .ok (.aload_n 0, 1) := by decide +kernel
theorem dX2_mayFollow_41 : decode cX2_mayFollow 41 = .ok (.getfield 9, 3) := by decide +kernel
theorem dX2_mayFollow_44 : decode cX2_mayFollow 44 = .ok (.iload_n 3, 1) := by decide +kernel
theorem dX2_mayFollow_45 : decode cX2_mayFollow 45 = .ok (.invokevirtual 31, 3) := by decide +kernel
theorem dX2_mayFollow_48 : decode cX2_mayFollow 48 = .ok (.aload_n 1, 1) := by decide +kernel
theorem dX2_mayFollow_49 : decode cX2_mayFollow 49 = .ok (.invokevirtual 37, 3) := by decide +kernel
theorem dX2_mayFollow_52 : decode cX2_mayFollow 52 = .ok (.aload_n 1, 1) := by decide +kernel
theorem dX2_mayFollow_53 : decode cX2_mayFollow 53 = .ok (.iload_n 2, 1) := by decide +kernel
theorem dX2_mayFollow_54 : decode cX2_mayFollow 54 = .ok (.invokevirtual 103, 3) := by decide +kernel
theorem dX2_mayFollow_57 : decode cX2_mayFollow 57 = .ok (.invokevirtual 106, 3) := by decide +kernel
theorem dX2_mayFollow_60 : decode cX2_mayFollow 60 = .ok (.ifCond .eq 7, 3) := by decide +kernel
theorem dX2_mayFollow_63 : decode cX2_mayFollow 63 = .ok (.iconst 1, 1) := by decide +kernel
theorem dX2_mayFollow_64 : decode cX2_mayFollow 64 = .ok (.goto 4, 3) := by decide +kernel
theorem dX2_mayFollow_67 : decode cX2_mayFollow 67 = .ok (.iconst 0, 1) := by decide +kernel
theorem dX2_mayFollow_68 : decode cX2_mayFollow 68 = .ok (.ireturn, 1) := by decide +kernel
set_option maxRecDepth 20000 in
theorem ggX3_init_X0_init : GoodIn wsX3_init wsX0_init := goodIn_r _ [11, 12, 2, 3, 13, 14, 15, 16, 17, 18, 19, 20, 21, 22, 23, 24, 25, 26, 45, 46, 27, 28, 29, 30, 31, 32, 33, 34, 35, 36, 37, 38, 39, 40, 41] (by decide +kernel) (by decide +kernel)
set_option maxRecDepth 20000 in
theorem gX3_init_X0_init : GoodIn wsX3_init (wsX0_init) := ggX3_init_X0_init
theorem dX3_init_0 : decode cX3_init 0 = .ok (.aload_n 0, 1) := by decide +kernel
theorem dX3_init_1 : decode cX3_init 1 = .ok (.invokespecial 3, 3) := by decide +kernel
theorem dX3_init_4 : decode cX3_init 4 = .ok (.aload_n 0, 1) := by decide +kernel
theorem dX3_init_5 : decode cX3_init 5 = .ok (.new 9, 3) := by decide +kernel
theorem dX3_init_8 : decode cX3_init 8 = .ok (.dup, 1) := by decide +kernel
theorem dX3_init_9 : decode cX3_init 9 = .ok (.invokespecial 11, 3) := by decide +kernel
theorem dX3_init_12 : decode cX3_init 12 = .ok (.putfield 12, 3) := by decide +kernel
theorem dX3_init_15 : decode cX3_init 15 = .ok (.aload_n 0, 1) := by decide +kernel
theorem dX3_init_16 : decode cX3_init 16 = .ok (.bipush 7, 2) := by decide +kernel
theorem dX3_init_18 : decode cX3_init 18 = .ok (.anewarray 9, 3) := by decide +kernel
theorem dX3_init_21 : decode cX3_init 21 = .ok (.putfield 18, 3) := by decide +kernel
theorem dX3_init_24 : decode cX3_init 24 = .ok (.iconst 0, 1) := by decide +kernel
theorem dX3_init_25 : decode cX3_init 25 = .ok (.istore_n 1, 1) := by decide +kernel
theorem dX3_init_26 : decode cX3_init 26 = .ok (.iload_n 1, 1) := by decide +kernel
theorem dX3_init_27 : decode cX3_init 27 = .ok (.bipush 6, 2) := by decide +kernel
theorem dX3_init_29 : decode cX3_init 29 = .ok (.if_icmp .gt 22, 3) := by decide +kernel
theorem dX3_init_32 : decode cX3_init 32 = .ok (.aload_n 0, 1) := by decide +kernel
theorem dX3_init_33 : decode cX3_init 33 = .ok (.getfield 18, 3) := by decide +kernel
theorem dX3_init_36 : decode cX3_init 36 = .ok (.iload_n 1, 1) := by decide +kernel
theorem dX3_init_37 : decode cX3_init 37 = .ok (.new 9, 3) := by decide +kernel
theorem dX3_init_40 : decode cX3_init 40 = .ok (.dup, 1) := by decide +kernel
theorem dX3_init_41 : decode cX3_init 41 = .ok (.invokespecial 11, 3) := by decide +kernel
theorem dX3_init_44 : decode cX3_init 44 = .ok (.aastore, 1) := by decide +kernel
theorem dX3_init_45 : decode cX3_init 45 = .ok (.iinc 1 1, 3) := by decide +kernel
theorem dX3_init_48 : decode cX3_init 48 = .ok (.goto (-22), 3) := by decide +kernel
theorem dX3_init_51 : decode cX3_init 51 = .ok (.return_, 1) := by decide +kernel
theorem dX3_documentOf_0 : decode cX3_documentOf 0 = .ok (.iload_n 1, 1) := by decide +kernel
theorem dX3_documentOf_1 : decode cX3_documentOf 1 = .ok (.ifCond .lt 18, 3) := by decide +kernel
theorem dX3_documentOf_4 : decode cX3_documentOf 4 = .ok (.iload_n 1, 1) := by decide +kernel
theorem dX3_documentOf_5 : decode cX3_documentOf 5 = .ok (.bipush 6, 2) := by decide +kernel
theorem dX3_documentOf_7 : decode cX3_documentOf 7 = .ok (.if_icmp .gt 12, 3) := by decide +kernel
theorem dX3_documentOf_10 : decode cX3_documentOf 10 = .ok (.aload_n 0, 1) := by decide +kernel
theorem dX3_documentOf_11 : decode cX3_documentOf 11 = .ok (.getfield 18, 3) := by decide +kernel
theorem dX3_documentOf_14 : decode cX3_documentOf 14 = .ok (.iload_n 1, 1) := by decide +kernel
theorem dX3_documentOf_15 : decode cX3_documentOf 15 = .ok (.aaload, 1) := by decide +kernel
theorem dX3_documentOf_16 : decode cX3_documentOf 16 = .ok (.goto 7, 3) := by decide +kernel
theorem dX3_documentOf_19 : decode cX3_documentOf 19 = .ok (.aload_n 0, 1) := by decide +kernel
theorem dX3_documentOf_20 : decode cX3_documentOf 20 = .ok (.getfield 12, 3) := by decide +kernel
theorem dX3_documentOf_23 : decode cX3_documentOf 23 = .ok (.areturn, 1) := by decide +kernel
theorem dX3_advanceClock_0 : decode cX3_advanceClock 0 = .ok (.aload_n 0, 1) := by decide +kernel
theorem dX3_advanceClock_1 : decode cX3_advanceClock 1 = .ok (.dup, 1) := by decide +kernel
theorem dX3_advanceClock_2 : decode cX3_advanceClock 2 = .ok (.getfield 22, 3) := by decide +kernel
theorem dX3_advanceClock_5 : decode cX3_advanceClock 5 = .ok (.iload_n 1, 1) := by decide +kernel
theorem dX3_advanceClock_6 : decode cX3_advanceClock 6 = .ok (.iadd, 1) := by decide +kernel
theorem dX3_advanceClock_7 : decode cX3_advanceClock 7 = .ok (.putfield 22, 3) := by decide +kernel
theorem dX3_advanceClock_10 : decode cX3_advanceClock 10 = .ok (.aload_n 0, 1) := by decide +kernel
theorem dX3_advanceClock_11 : decode cX3_advanceClock 11 = .ok (.getfield 22, 3) := by decide +kernel
theorem dX3_advanceClock_14 : decode cX3_advanceClock 14 = .ok (.ireturn, 1) := by decide +kernel
set_option maxRecDepth 20000 in
theorem ggX3_findsEnded_X0_end : GoodIn wsX3_findsEnded wsX0_end := goodIn_r _ [6, 7, 11, 12, 13, 14, 15, 16, 17, 18, 19, 20, 21, 22, 23, 24, 25] (by decide +kernel) (by decide +kernel)
set_option maxRecDepth 20000 in
theorem gX3_findsEnded_X0_end : GoodIn wsX3_findsEnded (wsV RX3 26 RX0 yX0_end wsX0_end) := goodIn_app (goodIn_of _ (by decide +kernel)) ggX3_findsEnded_X0_end
theorem dX3_findsEnded_0 : decode cX3_findsEnded 0 = .ok (.aload_n 1, 1) := by decide +kernel
theorem dX3_findsEnded_1 : decode cX3_findsEnded 1 = .ok (.invokevirtual 26, 3) := by decide +kernel
theorem dX3_findsEnded_4 : decode cX3_findsEnded 4 = .ok (.aload_n 0, 1) := by decide +kernel
theorem dX3_findsEnded_5 : decode cX3_findsEnded 5 = .ok (.getfield 22, 3) := by decide +kernel
theorem dX3_findsEnded_8 : decode cX3_findsEnded 8 = .ok (.if_icmp .gt 7, 3) := by decide +kernel
theorem dX3_findsEnded_11 : decode cX3_findsEnded 11 = .ok (.iconst 1, 1) := by decide +kernel
theorem dX3_findsEnded_12 : decode cX3_findsEnded 12 = .ok (.goto 4, 3) := by decide +kernel
theorem dX3_findsEnded_15 : decode cX3_findsEnded 15 = .ok (.iconst 0, 1) := by decide +kernel
theorem dX3_findsEnded_16 : decode cX3_findsEnded 16 = .ok (.ireturn, 1) := by decide +kernel
set_option maxRecDepth 20000 in
theorem ggX3_isInForce_X3_documentOf : GoodIn wsX3_isInForce wsX3_documentOf := goodIn_r _ [5, 6, 7, 24, 25, 26] (by decide +kernel) (by decide +kernel)
set_option maxRecDepth 20000 in
theorem gX3_isInForce_X3_documentOf : GoodIn wsX3_isInForce (wsV RX3 30 RX3 yX3_documentOf wsX3_documentOf) := goodIn_app (goodIn_of _ (by decide +kernel)) ggX3_isInForce_X3_documentOf
set_option maxRecDepth 20000 in
theorem ggX3_isInForce_X0_isWhole : GoodIn wsX3_isInForce wsX0_isWhole := goodIn_r _ [12, 13, 27, 28, 29, 30, 31, 32, 33, 34, 35, 36, 37, 38, 39, 40, 41] (by decide +kernel) (by decide +kernel)
set_option maxRecDepth 20000 in
theorem gX3_isInForce_X0_isWhole : GoodIn wsX3_isInForce (wsV RX3 34 RX0 yX0_isWhole wsX0_isWhole) := goodIn_app (goodIn_of _ (by decide +kernel)) ggX3_isInForce_X0_isWhole
set_option maxRecDepth 20000 in
theorem ggX3_isInForce_X3_findsEnded : GoodIn wsX3_isInForce wsX3_findsEnded := goodIn_r _ [17, 18, 19, 20, 21, 11, 22, 23, 24, 25, 26, 27, 28, 29, 30, 31, 32, 33, 34, 35, 36, 37, 38, 39, 40, 41] (by decide +kernel) (by decide +kernel)
set_option maxRecDepth 20000 in
theorem gX3_isInForce_X3_findsEnded : GoodIn wsX3_isInForce (wsV RX3 38 RX3 yX3_findsEnded wsX3_findsEnded) := goodIn_app (goodIn_of _ (by decide +kernel)) ggX3_isInForce_X3_findsEnded
theorem dX3_isInForce_0 : decode cX3_isInForce 0 = .ok (.aload_n 0, 1) := by decide +kernel
theorem dX3_isInForce_1 : decode cX3_isInForce 1 = .ok (.iload_n 1, 1) := by decide +kernel
theorem dX3_isInForce_2 : decode cX3_isInForce 2 = .ok (.invokevirtual 30, 3) := by decide +kernel
theorem dX3_isInForce_5 : decode cX3_isInForce 5 = .ok (.astore_n 2, 1) := by decide +kernel
theorem dX3_isInForce_6 : decode cX3_isInForce 6 = .ok (.aload_n 2, 1) := by decide +kernel
theorem dX3_isInForce_7 : decode cX3_isInForce 7 = .ok (.invokevirtual 34, 3) := by decide +kernel
theorem dX3_isInForce_10 : decode cX3_isInForce 10 = .ok (.ifCond .eq 15, 3) := by decide +kernel
theorem dX3_isInForce_13 : decode cX3_isInForce 13 = .ok (.aload_n 0, 1) := by decide +kernel
theorem dX3_isInForce_14 : decode cX3_isInForce 14 = .ok (.aload_n 2, 1) := by decide +kernel
theorem dX3_isInForce_15 : decode cX3_isInForce 15 = .ok (.invokevirtual 38, 3) := by decide +kernel
theorem dX3_isInForce_18 : decode cX3_isInForce 18 = .ok (.ifCond .ne 7, 3) := by decide +kernel
theorem dX3_isInForce_21 : decode cX3_isInForce 21 = .ok (.iconst 1, 1) := by decide +kernel
theorem dX3_isInForce_22 : decode cX3_isInForce 22 = .ok (.goto 4, 3) := by decide +kernel
theorem dX3_isInForce_25 : decode cX3_isInForce 25 = .ok (.iconst 0, 1) := by decide +kernel
theorem dX3_isInForce_26 : decode cX3_isInForce 26 = .ok (.ireturn, 1) := by decide +kernel
set_option maxRecDepth 20000 in
theorem ggX3_isFresh_X3_isInForce : GoodIn wsX3_isFresh wsX3_isInForce := goodIn_r _ [5, 6, 7, 8, 4, 9, 10, 11, 12, 13, 14, 15, 16, 17, 18, 19, 20, 21, 22, 23, 24, 25, 26, 27, 38, 39, 40, 41, 42, 43, 44, 45, 46, 47, 48, 49, 50, 51, 52, 53, 54, 55] (by decide +kernel) (by decide +kernel)
set_option maxRecDepth 20000 in
theorem gX3_isFresh_X3_isInForce : GoodIn wsX3_isFresh (wsV RX3 42 RX3 yX3_isInForce wsX3_isInForce) := goodIn_app (goodIn_of _ (by decide +kernel)) ggX3_isFresh_X3_isInForce
set_option maxRecDepth 20000 in
theorem ggX3_isFresh_X3_documentOf : GoodIn wsX3_isFresh wsX3_documentOf := goodIn_r _ [9, 10, 11, 38, 39, 40] (by decide +kernel) (by decide +kernel)
set_option maxRecDepth 20000 in
theorem gX3_isFresh_X3_documentOf : GoodIn wsX3_isFresh (wsV RX3 30 RX3 yX3_documentOf wsX3_documentOf) := goodIn_app (goodIn_of _ (by decide +kernel)) ggX3_isFresh_X3_documentOf
set_option maxRecDepth 20000 in
theorem ggX3_isFresh_X0_version : GoodIn wsX3_isFresh wsX0_version := goodIn_r _ [31, 32, 41, 42, 43, 44, 45, 46, 47, 48, 49, 50, 51, 52, 53, 54, 55] (by decide +kernel) (by decide +kernel)
set_option maxRecDepth 20000 in
theorem gX3_isFresh_X0_version : GoodIn wsX3_isFresh (wsV RX3 46 RX0 yX0_version wsX0_version) := goodIn_app (goodIn_of _ (by decide +kernel)) ggX3_isFresh_X0_version
set_option maxRecDepth 20000 in
theorem ggX3_isFresh_X0_versionFor : GoodIn wsX3_isFresh wsX0_versionFor := goodIn_r _ [36, 37, 41, 42, 43, 44, 45, 46, 47, 48, 49, 50, 51, 52, 53, 54, 55] (by decide +kernel) (by decide +kernel)
set_option maxRecDepth 20000 in
theorem gX3_isFresh_X0_versionFor : GoodIn wsX3_isFresh (wsV RX3 49 RX0 yX0_versionFor wsX0_versionFor) := goodIn_app (goodIn_of _ (by decide +kernel)) ggX3_isFresh_X0_versionFor
theorem dX3_isFresh_0 : decode cX3_isFresh 0 = .ok (.aload_n 0, 1) := by decide +kernel
theorem dX3_isFresh_1 : decode cX3_isFresh 1 = .ok (.iload_n 1, 1) := by decide +kernel
theorem dX3_isFresh_2 : decode cX3_isFresh 2 = .ok (.invokevirtual 42, 3) := by decide +kernel
theorem dX3_isFresh_5 : decode cX3_isFresh 5 = .ok (.ifCond .eq 27, 3) := by decide +kernel
theorem dX3_isFresh_8 : decode cX3_isFresh 8 = .ok (.aload_n 0, 1) := by decide +kernel
theorem dX3_isFresh_9 : decode cX3_isFresh 9 = .ok (.iload_n 1, 1) := by decide +kernel
theorem dX3_isFresh_10 : decode cX3_isFresh 10 = .ok (.invokevirtual 30, 3) := by decide +kernel
theorem dX3_isFresh_13 : decode cX3_isFresh 13 = .ok (.invokevirtual 46, 3) := by decide +kernel
theorem dX3_isFresh_16 : decode cX3_isFresh 16 = .ok (.aload_n 0, 1) := by decide +kernel
theorem dX3_isFresh_17 : decode cX3_isFresh 17 = .ok (.iconst 2, 1) := by decide +kernel
theorem dX3_isFresh_18 : decode cX3_isFresh 18 = .ok (.invokevirtual 30, 3) := by decide +kernel
theorem dX3_isFresh_21 : decode cX3_isFresh 21 = .ok (.iload_n 1, 1) := by decide +kernel
theorem dX3_isFresh_22 : decode cX3_isFresh 22 = .ok (.invokevirtual 49, 3) := by decide +kernel
theorem dX3_isFresh_25 : decode cX3_isFresh 25 = .ok (.if_icmp .ne 7, 3) := by decide +kernel
theorem dX3_isFresh_28 : decode cX3_isFresh 28 = .ok (.iconst 1, 1) := by decide +kernel
theorem dX3_isFresh_29 : decode cX3_isFresh 29 = .ok (.goto 4, 3) := by decide +kernel
theorem dX3_isFresh_32 : decode cX3_isFresh 32 = .ok (.iconst 0, 1) := by decide +kernel
theorem dX3_isFresh_33 : decode cX3_isFresh 33 = .ok (.ireturn, 1) := by decide +kernel
set_option maxRecDepth 20000 in
theorem ggX3_allowsSeeking_X3_isInForce : GoodIn wsX3_allowsSeeking wsX3_isInForce := goodIn_r _ [5, 6, 7, 8, 4, 9, 10, 11, 12, 13, 14, 15, 16, 17, 18, 19, 20, 21, 22, 23, 24, 25, 26, 27, 42, 43, 44, 45, 46, 47, 48, 49, 50, 51, 52, 53, 54, 55, 56, 57, 58, 59] (by decide +kernel) (by decide +kernel)
set_option maxRecDepth 20000 in
theorem gX3_allowsSeeking_X3_isInForce : GoodIn wsX3_allowsSeeking (wsV RX3 42 RX3 yX3_isInForce wsX3_isInForce) := goodIn_app (goodIn_of _ (by decide +kernel)) ggX3_allowsSeeking_X3_isInForce
set_option maxRecDepth 20000 in
theorem ggX3_allowsSeeking_X3_isFresh : GoodIn wsX3_allowsSeeking wsX3_isFresh := goodIn_r _ [31, 1, 2, 3, 4, 5, 6, 7, 8, 9, 10, 11, 12, 13, 14, 15, 16, 17, 18, 19, 20, 21, 22, 23, 24, 25, 26, 27, 32, 33, 34, 35, 36, 37, 38, 39, 40, 41, 42, 43, 44, 45, 46, 47, 48, 49, 50, 51, 52, 53, 54, 55, 56, 57, 58, 59] (by decide +kernel) (by decide +kernel)
set_option maxRecDepth 20000 in
theorem gX3_allowsSeeking_X3_isFresh : GoodIn wsX3_allowsSeeking (wsV RX3 53 RX3 yX3_isFresh wsX3_isFresh) := goodIn_app (goodIn_of _ (by decide +kernel)) ggX3_allowsSeeking_X3_isFresh
theorem dX3_allowsSeeking_0 : decode cX3_allowsSeeking 0 = .ok (.aload_n 0, 1) := by decide +kernel
theorem dX3_allowsSeeking_1 : decode cX3_allowsSeeking 1 = .ok (.iconst 0, 1) := by decide +kernel
theorem dX3_allowsSeeking_2 : decode cX3_allowsSeeking 2 = .ok (.invokevirtual 42, 3) := by decide +kernel
theorem dX3_allowsSeeking_5 : decode cX3_allowsSeeking 5 = .ok (.ifCond .eq 31, 3) := by decide +kernel
theorem dX3_allowsSeeking_8 : decode cX3_allowsSeeking 8 = .ok (.aload_n 0, 1) := by decide +kernel
theorem dX3_allowsSeeking_9 : decode cX3_allowsSeeking 9 = .ok (.iconst 1, 1) := by decide +kernel
theorem dX3_allowsSeeking_10 : decode cX3_allowsSeeking 10 = .ok (.invokevirtual 42, 3) := by decide +kernel
theorem dX3_allowsSeeking_13 : decode cX3_allowsSeeking 13 = .ok (.ifCond .eq 23, 3) := by decide +kernel
theorem dX3_allowsSeeking_16 : decode cX3_allowsSeeking 16 = .ok (.aload_n 0, 1) := by decide +kernel
theorem dX3_allowsSeeking_17 : decode cX3_allowsSeeking 17 = .ok (.iconst 2, 1) := by decide +kernel
theorem dX3_allowsSeeking_18 : decode cX3_allowsSeeking 18 = .ok (.invokevirtual 42, 3) := by decide +kernel
theorem dX3_allowsSeeking_21 : decode cX3_allowsSeeking 21 = .ok (.ifCond .eq 15, 3) := by decide +kernel
theorem dX3_allowsSeeking_24 : decode cX3_allowsSeeking 24 = .ok (.aload_n 0, 1) := by decide +kernel
theorem dX3_allowsSeeking_25 : decode cX3_allowsSeeking 25 = .ok (.iconst 3, 1) := by decide +kernel
theorem dX3_allowsSeeking_26 : decode cX3_allowsSeeking 26 = .ok (.invokevirtual 53, 3) := by decide +kernel
theorem dX3_allowsSeeking_29 : decode cX3_allowsSeeking 29 = .ok (.ifCond .eq 7, 3) := by decide +kernel
theorem dX3_allowsSeeking_32 : decode cX3_allowsSeeking 32 = .ok (.iconst 1, 1) := by decide +kernel
theorem dX3_allowsSeeking_33 : decode cX3_allowsSeeking 33 = .ok (.goto 4, 3) := by decide +kernel
theorem dX3_allowsSeeking_36 : decode cX3_allowsSeeking 36 = .ok (.iconst 0, 1) := by decide +kernel
theorem dX3_allowsSeeking_37 : decode cX3_allowsSeeking 37 = .ok (.ireturn, 1) := by decide +kernel
set_option maxRecDepth 20000 in
theorem ggX3_startFrom_X3_documentOf : GoodIn wsX3_startFrom wsX3_documentOf := goodIn_r _ [5, 6, 7, 104, 105, 106] (by decide +kernel) (by decide +kernel)
set_option maxRecDepth 20000 in
theorem gX3_startFrom_X3_documentOf : GoodIn wsX3_startFrom (wsV RX3 30 RX3 yX3_documentOf wsX3_documentOf) := goodIn_app (goodIn_of _ (by decide +kernel)) ggX3_startFrom_X3_documentOf
set_option maxRecDepth 20000 in
theorem ggX3_startFrom_X0_clear : GoodIn wsX3_startFrom wsX0_clear := goodIn_r _ [12, 13, 107, 108, 109, 110, 111, 112, 113, 114, 115, 116, 117, 118, 119, 120, 121] (by decide +kernel) (by decide +kernel)
set_option maxRecDepth 20000 in
theorem gX3_startFrom_X0_clear : GoodIn wsX3_startFrom (wsV RX3 56 RX0 yX0_clear wsX0_clear) := goodIn_app (goodIn_of _ (by decide +kernel)) ggX3_startFrom_X0_clear
set_option maxRecDepth 20000 in
theorem ggX3_startFrom_X0_row : GoodIn wsX3_startFrom wsX0_row := goodIn_r _ [17, 18, 107, 108, 109, 110, 111, 112, 113, 114, 115, 116, 117, 118, 119, 120, 121] (by decide +kernel) (by decide +kernel)
set_option maxRecDepth 20000 in
theorem gX3_startFrom_X0_row : GoodIn wsX3_startFrom (wsV RX3 59 RX0 yX0_row wsX0_row) := goodIn_app (goodIn_of _ (by decide +kernel)) ggX3_startFrom_X0_row
set_option maxRecDepth 20000 in
theorem ggX3_startFrom_X0_read : GoodIn wsX3_startFrom wsX0_read := goodIn_r _ [22, 18, 23, 24, 25, 26, 13, 27, 28, 29, 30, 31, 32, 33, 34, 35, 36, 37, 38, 39, 40, 11, 41, 42, 43, 44, 45, 46, 47, 48, 49, 50, 51, 52, 53, 54, 55, 56, 57, 58, 59, 60, 61, 62, 63, 64, 65, 66, 67, 68, 69, 70, 71, 72, 73, 74, 75, 76, 77, 78, 79, 80, 81, 82, 83, 84, 85, 86, 87, 88, 89, 90, 91, 92, 93, 94, 95, 96, 97, 98, 99, 100, 101, 102, 103, 107, 108, 109, 110, 111, 112, 113, 114, 115, 116, 117, 118, 119, 120, 121, 122, 123] (by decide +kernel) (by decide +kernel)
set_option maxRecDepth 20000 in
theorem gX3_startFrom_X0_read : GoodIn wsX3_startFrom (wsV RX3 63 RX0 yX0_read wsX0_read) := goodIn_app (goodIn_of _ (by decide +kernel)) ggX3_startFrom_X0_read
theorem dX3_startFrom_0 : decode cX3_startFrom 0 = .ok (.iconst 0, 1) := by decide +kernel
theorem dX3_startFrom_1 : decode cX3_startFrom 1 = .ok (.istore_n 2, 1) := by decide +kernel
theorem dX3_startFrom_2 : decode cX3_startFrom 2 = .ok (.iload_n 2, 1) := by decide +kernel
theorem dX3_startFrom_3 : decode cX3_startFrom 3 = .ok (.bipush 6, 2) := by decide +kernel
theorem dX3_startFrom_5 : decode cX3_startFrom 5 = .ok (.if_icmp .gt 17, 3) := by decide +kernel
theorem dX3_startFrom_8 : decode cX3_startFrom 8 = .ok (.aload_n 0, 1) := by decide +kernel
theorem dX3_startFrom_9 : decode cX3_startFrom 9 = .ok (.iload_n 2, 1) := by decide +kernel
theorem dX3_startFrom_10 : decode cX3_startFrom 10 = .ok (.invokevirtual 30, 3) := by decide +kernel
theorem dX3_startFrom_13 : decode cX3_startFrom 13 = .ok (.invokevirtual 56, 3) := by decide +kernel
theorem dX3_startFrom_16 : decode cX3_startFrom 16 = .ok (.iinc 2 1, 3) := by decide +kernel
theorem dX3_startFrom_19 : decode cX3_startFrom 19 = .ok (.goto (-17), 3) := by decide +kernel
theorem dX3_startFrom_22 : decode cX3_startFrom 22 = .ok (.aload_n 0, 1) := by decide +kernel
theorem dX3_startFrom_23 : decode cX3_startFrom 23 = .ok (.iconst 0, 1) := by decide +kernel
theorem dX3_startFrom_24 : decode cX3_startFrom 24 = .ok (.invokevirtual 30, 3) := by decide +kernel
theorem dX3_startFrom_27 : decode cX3_startFrom 27 = .ok (.aload_n 1, 1) := by decide +kernel
theorem dX3_startFrom_28 : decode cX3_startFrom 28 = .ok (.invokevirtual 59, 3) := by decide +kernel
theorem dX3_startFrom_31 : decode cX3_startFrom 31 = .ok (.invokevirtual 63, 3) := by decide +kernel
theorem dX3_startFrom_34 : decode cX3_startFrom 34 = .ok (.return_, 1) := by decide +kernel
set_option maxRecDepth 20000 in
theorem ggX3_hasGroundFor_X3_documentOf : GoodIn wsX3_hasGroundFor wsX3_documentOf := goodIn_r _ [5, 6, 7, 33, 34, 35] (by decide +kernel) (by decide +kernel)
set_option maxRecDepth 20000 in
theorem gX3_hasGroundFor_X3_documentOf : GoodIn wsX3_hasGroundFor (wsV RX3 30 RX3 yX3_documentOf wsX3_documentOf) := goodIn_app (goodIn_of _ (by decide +kernel)) ggX3_hasGroundFor_X3_documentOf
set_option maxRecDepth 20000 in
theorem ggX3_hasGroundFor_X0_isWhole : GoodIn wsX3_hasGroundFor wsX0_isWhole := goodIn_r _ [12, 13, 36, 37, 38, 39, 40, 41, 42, 43, 44, 45, 46, 47, 48, 49, 50] (by decide +kernel) (by decide +kernel)
set_option maxRecDepth 20000 in
theorem gX3_hasGroundFor_X0_isWhole : GoodIn wsX3_hasGroundFor (wsV RX3 34 RX0 yX0_isWhole wsX0_isWhole) := goodIn_app (goodIn_of _ (by decide +kernel)) ggX3_hasGroundFor_X0_isWhole
set_option maxRecDepth 20000 in
theorem ggX3_hasGroundFor_X3_isInForce : GoodIn wsX3_hasGroundFor wsX3_isInForce := goodIn_r _ [17, 1, 2, 3, 4, 5, 6, 7, 8, 9, 10, 11, 12, 13, 18, 19, 20, 21, 22, 23, 24, 25, 26, 27, 33, 34, 35, 36, 37, 38, 39, 40, 41, 42, 43, 44, 45, 46, 47, 48, 49, 50] (by decide +kernel) (by decide +kernel)
set_option maxRecDepth 20000 in
theorem gX3_hasGroundFor_X3_isInForce : GoodIn wsX3_hasGroundFor (wsV RX3 42 RX3 yX3_isInForce wsX3_isInForce) := goodIn_app (goodIn_of _ (by decide +kernel)) ggX3_hasGroundFor_X3_isInForce
set_option maxRecDepth 20000 in
theorem ggX3_hasGroundFor_X0_versionFor : GoodIn wsX3_hasGroundFor wsX0_versionFor := goodIn_r _ [31, 32, 36, 37, 38, 39, 40, 41, 42, 43, 44, 45, 46, 47, 48, 49, 50] (by decide +kernel) (by decide +kernel)
set_option maxRecDepth 20000 in
theorem gX3_hasGroundFor_X0_versionFor : GoodIn wsX3_hasGroundFor (wsV RX3 49 RX0 yX0_versionFor wsX0_versionFor) := goodIn_app (goodIn_of _ (by decide +kernel)) ggX3_hasGroundFor_X0_versionFor
theorem dX3_hasGroundFor_0 : decode cX3_hasGroundFor 0 = .ok (.iload_n 1, 1) := by decide +kernel
theorem dX3_hasGroundFor_1 : decode cX3_hasGroundFor 1 = .ok (.tableswitch 64 0 2 #[27, 36, 42], 27) := by decide +kernel
theorem dX3_hasGroundFor_28 : decode cX3_hasGroundFor 28 = .ok (.aload_n 0, 1) := by decide +kernel
theorem dX3_hasGroundFor_29 : decode cX3_hasGroundFor 29 = .ok (.iconst 0, 1) := by decide +kernel
theorem dX3_hasGroundFor_30 : decode cX3_hasGroundFor 30 = .ok (.invokevirtual 30, 3) := by decide +kernel
theorem dX3_hasGroundFor_33 : decode cX3_hasGroundFor 33 = .ok (.invokevirtual 34, 3) := by decide +kernel
theorem dX3_hasGroundFor_36 : decode cX3_hasGroundFor 36 = .ok (.ireturn, 1) := by decide +kernel
theorem dX3_hasGroundFor_37 : decode cX3_hasGroundFor 37 = .ok (.aload_n 0, 1) := by decide +kernel
theorem dX3_hasGroundFor_38 : decode cX3_hasGroundFor 38 = .ok (.iconst 0, 1) := by decide +kernel
theorem dX3_hasGroundFor_39 : decode cX3_hasGroundFor 39 = .ok (.invokevirtual 42, 3) := by decide +kernel
theorem dX3_hasGroundFor_42 : decode cX3_hasGroundFor 42 = .ok (.ireturn, 1) := by decide +kernel
theorem dX3_hasGroundFor_43 : decode cX3_hasGroundFor 43 = .ok (.aload_n 0, 1) := by decide +kernel
theorem dX3_hasGroundFor_44 : decode cX3_hasGroundFor 44 = .ok (.iconst 0, 1) := by decide +kernel
theorem dX3_hasGroundFor_45 : decode cX3_hasGroundFor 45 = .ok (.invokevirtual 42, 3) := by decide +kernel
theorem dX3_hasGroundFor_48 : decode cX3_hasGroundFor 48 = .ok (.ifCond .eq 15, 3) := by decide +kernel
theorem dX3_hasGroundFor_51 : decode cX3_hasGroundFor 51 = .ok (.aload_n 0, 1) := by decide +kernel
theorem dX3_hasGroundFor_52 : decode cX3_hasGroundFor 52 = .ok (.iconst 1, 1) := by decide +kernel
theorem dX3_hasGroundFor_53 : decode cX3_hasGroundFor 53 = .ok (.invokevirtual 42, 3) := by decide +kernel
theorem dX3_hasGroundFor_56 : decode cX3_hasGroundFor 56 = .ok (.ifCond .eq 7, 3) := by decide +kernel
theorem dX3_hasGroundFor_59 : decode cX3_hasGroundFor 59 = .ok (.iconst 1, 1) := by decide +kernel
theorem dX3_hasGroundFor_60 : decode cX3_hasGroundFor 60 = .ok (.goto 4, 3) := by decide +kernel
theorem dX3_hasGroundFor_63 : decode cX3_hasGroundFor 63 = .ok (.iconst 0, 1) := by decide +kernel
theorem dX3_hasGroundFor_64 : decode cX3_hasGroundFor 64 = .ok (.ireturn, 1) := by decide +kernel
theorem dX3_hasGroundFor_65 : decode cX3_hasGroundFor 65 = .ok (.aload_n 0, 1) := by decide +kernel
theorem dX3_hasGroundFor_66 : decode cX3_hasGroundFor 66 = .ok (.iconst 0, 1) := by decide +kernel
theorem dX3_hasGroundFor_67 : decode cX3_hasGroundFor 67 = .ok (.invokevirtual 42, 3) := by decide +kernel
theorem dX3_hasGroundFor_70 : decode cX3_hasGroundFor 70 = .ok (.ifCond .eq 28, 3) := by decide +kernel
theorem dX3_hasGroundFor_73 : decode cX3_hasGroundFor 73 = .ok (.aload_n 0, 1) := by decide +kernel
theorem dX3_hasGroundFor_74 : decode cX3_hasGroundFor 74 = .ok (.iconst 2, 1) := by decide +kernel
theorem dX3_hasGroundFor_75 : decode cX3_hasGroundFor 75 = .ok (.invokevirtual 42, 3) := by decide +kernel
theorem dX3_hasGroundFor_78 : decode cX3_hasGroundFor 78 = .ok (.ifCond .eq 20, 3) := by decide +kernel
theorem dX3_hasGroundFor_81 : decode cX3_hasGroundFor 81 = .ok (.aload_n 0, 1) := by decide +kernel
theorem dX3_hasGroundFor_82 : decode cX3_hasGroundFor 82 = .ok (.iconst 2, 1) := by decide +kernel
theorem dX3_hasGroundFor_83 : decode cX3_hasGroundFor 83 = .ok (.invokevirtual 30, 3) := by decide +kernel
theorem dX3_hasGroundFor_86 : decode cX3_hasGroundFor 86 = .ok (.iload_n 1, 1) := by decide +kernel
theorem dX3_hasGroundFor_87 : decode cX3_hasGroundFor 87 = .ok (.invokevirtual 49, 3) := by decide +kernel
theorem dX3_hasGroundFor_90 : decode cX3_hasGroundFor 90 = .ok (.iconst (-1), 1) := by decide +kernel
theorem dX3_hasGroundFor_91 : decode cX3_hasGroundFor 91 = .ok (.if_icmp .eq 7, 3) := by decide +kernel
theorem dX3_hasGroundFor_94 : decode cX3_hasGroundFor 94 = .ok (.iconst 1, 1) := by decide +kernel
theorem dX3_hasGroundFor_95 : decode cX3_hasGroundFor 95 = .ok (.goto 4, 3) := by decide +kernel
theorem dX3_hasGroundFor_98 : decode cX3_hasGroundFor 98 = .ok (.iconst 0, 1) := by decide +kernel
theorem dX3_hasGroundFor_99 : decode cX3_hasGroundFor 99 = .ok (.ireturn, 1) := by decide +kernel
set_option maxRecDepth 20000 in
theorem ggX3_findsSigned_X0_role : GoodIn wsX3_findsSigned wsX0_role := goodIn_r _ [5, 6, 54, 55, 56, 57, 58, 59, 60, 61, 62, 63, 64, 65, 66, 67, 68] (by decide +kernel) (by decide +kernel)
set_option maxRecDepth 20000 in
theorem gX3_findsSigned_X0_role : GoodIn wsX3_findsSigned (wsV RX3 67 RX0 yX0_role wsX0_role) := goodIn_app (goodIn_of _ (by decide +kernel)) ggX3_findsSigned_X0_role
set_option maxRecDepth 20000 in
theorem ggX3_findsSigned_X3_documentOf : GoodIn wsX3_findsSigned wsX3_documentOf := goodIn_r _ [11, 12, 13, 69, 70, 71] (by decide +kernel) (by decide +kernel)
set_option maxRecDepth 20000 in
theorem gX3_findsSigned_X3_documentOf : GoodIn wsX3_findsSigned (wsV RX3 30 RX3 yX3_documentOf wsX3_documentOf) := goodIn_app (goodIn_of _ (by decide +kernel)) ggX3_findsSigned_X3_documentOf
set_option maxRecDepth 20000 in
theorem ggX3_findsSigned_X0_rootVouchesFor : GoodIn wsX3_findsSigned wsX0_rootVouchesFor := goodIn_r _ [17, 18, 19, 20, 21, 22, 4, 23, 24, 25, 26, 27, 28, 29, 30, 31, 32, 33, 34, 35, 36, 37, 38, 39, 40, 41, 42, 43, 44, 45, 46, 47, 48, 49, 50, 51, 52, 53, 54, 55, 56, 57, 58, 59, 60, 61, 62, 63, 64, 65, 66, 67, 68, 72, 73] (by decide +kernel) (by decide +kernel)
set_option maxRecDepth 20000 in
theorem gX3_findsSigned_X0_rootVouchesFor : GoodIn wsX3_findsSigned (wsV RX3 70 RX0 yX0_rootVouchesFor wsX0_rootVouchesFor) := goodIn_app (goodIn_of _ (by decide +kernel)) ggX3_findsSigned_X0_rootVouchesFor
theorem dX3_findsSigned_0 : decode cX3_findsSigned 0 = .ok (.aload_n 1, 1) := by decide +kernel
theorem dX3_findsSigned_1 : decode cX3_findsSigned 1 = .ok (.invokevirtual 67, 3) := by decide +kernel
theorem dX3_findsSigned_4 : decode cX3_findsSigned 4 = .ok (.istore_n 2, 1) := by decide +kernel
theorem dX3_findsSigned_5 : decode cX3_findsSigned 5 = .ok (.iload_n 2, 1) := by decide +kernel
theorem dX3_findsSigned_6 : decode cX3_findsSigned 6 = .ok (.iconst 4, 1) := by decide +kernel
theorem dX3_findsSigned_7 : decode cX3_findsSigned 7 = .ok (.if_icmp .lt 5, 3) := by decide +kernel
theorem dX3_findsSigned_10 : decode cX3_findsSigned 10 = .ok (.iconst 1, 1) := by decide +kernel
theorem dX3_findsSigned_11 : decode cX3_findsSigned 11 = .ok (.ireturn, 1) := by decide +kernel
theorem dX3_findsSigned_12 : decode cX3_findsSigned 12 = .ok (.aload_n 0, 1) := by decide +kernel
theorem dX3_findsSigned_13 : decode cX3_findsSigned 13 = .ok (.iconst 0, 1) := by decide +kernel
theorem dX3_findsSigned_14 : decode cX3_findsSigned 14 = .ok (.invokevirtual 30, 3) := by decide +kernel
theorem dX3_findsSigned_17 : decode cX3_findsSigned 17 = .ok (.aload_n 1, 1) := by decide +kernel
theorem dX3_findsSigned_18 : decode cX3_findsSigned 18 = .ok (.iload_n 2, 1) := by decide +kernel
theorem dX3_findsSigned_19 : decode cX3_findsSigned 19 = .ok (.invokevirtual 70, 3) := by decide +kernel
theorem dX3_findsSigned_22 : decode cX3_findsSigned 22 = .ok (.ifCond .eq 20, 3) := by decide +kernel
theorem dX3_findsSigned_25 : decode cX3_findsSigned 25 = .ok (.iload_n 2, 1) := by decide +kernel
theorem dX3_findsSigned_26 : decode cX3_findsSigned 26 = .ok (.ifCond .ne 12, 3) := by decide +kernel
theorem dX3_findsSigned_29 : decode cX3_findsSigned 29 = .ok (.aload_n 1, 1) := by decide +kernel
theorem dX3_findsSigned_30 : decode cX3_findsSigned 30 = .ok (.aload_n 1, 1) := by decide +kernel
theorem dX3_findsSigned_31 : decode cX3_findsSigned 31 = .ok (.iconst 0, 1) := by decide +kernel
theorem dX3_findsSigned_32 : decode cX3_findsSigned 32 = .ok (.invokevirtual 70, 3) := by decide +kernel
theorem dX3_findsSigned_35 : decode cX3_findsSigned 35 = .ok (.ifCond .eq 7, 3) := by decide +kernel
theorem dX3_findsSigned_38 : decode cX3_findsSigned 38 = .ok (.iconst 1, 1) := by decide +kernel
theorem dX3_findsSigned_39 : decode cX3_findsSigned 39 = .ok (.goto 4, 3) := by decide +kernel
theorem dX3_findsSigned_42 : decode cX3_findsSigned 42 = .ok (.iconst 0, 1) := by decide +kernel
theorem dX3_findsSigned_43 : decode cX3_findsSigned 43 = .ok (.ireturn, 1) := by decide +kernel
set_option maxRecDepth 20000 in
theorem ggX3_findsVersionsRight_X0_role : GoodIn wsX3_findsVersionsRight wsX0_role := goodIn_r _ [5, 6, 75, 76, 77, 78, 79, 80, 81, 82, 83, 84, 85, 86, 87, 88, 89] (by decide +kernel) (by decide +kernel)
set_option maxRecDepth 20000 in
theorem gX3_findsVersionsRight_X0_role : GoodIn wsX3_findsVersionsRight (wsV RX3 67 RX0 yX0_role wsX0_role) := goodIn_app (goodIn_of _ (by decide +kernel)) ggX3_findsVersionsRight_X0_role
set_option maxRecDepth 20000 in
theorem ggX3_findsVersionsRight_X0_version : GoodIn wsX3_findsVersionsRight wsX0_version := goodIn_r _ [10, 11, 75, 76, 77, 78, 79, 80, 81, 82, 83, 84, 85, 86, 87, 88, 89] (by decide +kernel) (by decide +kernel)
set_option maxRecDepth 20000 in
theorem gX3_findsVersionsRight_X0_version : GoodIn wsX3_findsVersionsRight (wsV RX3 46 RX0 yX0_version wsX0_version) := goodIn_app (goodIn_of _ (by decide +kernel)) ggX3_findsVersionsRight_X0_version
set_option maxRecDepth 20000 in
theorem ggX3_findsVersionsRight_X3_documentOf : GoodIn wsX3_findsVersionsRight wsX3_documentOf := goodIn_r _ [16, 17, 18, 90, 91, 92] (by decide +kernel) (by decide +kernel)
set_option maxRecDepth 20000 in
theorem gX3_findsVersionsRight_X3_documentOf : GoodIn wsX3_findsVersionsRight (wsV RX3 30 RX3 yX3_documentOf wsX3_documentOf) := goodIn_app (goodIn_of _ (by decide +kernel)) ggX3_findsVersionsRight_X3_documentOf
set_option maxRecDepth 20000 in
theorem ggX3_findsVersionsRight_X3_isNoOlderStamp : GoodIn wsX3_findsVersionsRight wsX3_isNoOlderStamp := goodIn_r _ [22, 12, 13, 14, 15, 16, 17, 18, 23, 24, 25, 4, 26, 27, 7, 8, 9, 10, 11, 28, 29, 30, 31, 32, 33, 34, 35, 36, 37, 38, 39, 90, 91, 92, 75, 76, 77, 78, 79, 80, 81, 82, 83, 84, 85, 86, 87, 88, 89, 93, 94] (by decide +kernel) (by decide +kernel)
set_option maxRecDepth 20000 in
theorem gX3_findsVersionsRight_X3_isNoOlderStamp : GoodIn wsX3_findsVersionsRight (wsV RX3 74 RX3 yX3_isNoOlderStamp wsX3_isNoOlderStamp) := goodIn_app (goodIn_of _ (by decide +kernel)) ggX3_findsVersionsRight_X3_isNoOlderStamp
set_option maxRecDepth 20000 in
theorem ggX3_findsVersionsRight_X3_isAsStamped : GoodIn wsX3_findsVersionsRight wsX3_isAsStamped := goodIn_r _ [43, 12, 13, 14, 15, 16, 17, 18, 7, 8, 9, 4, 10, 11, 28, 29, 30, 31, 32, 33, 34, 35, 36, 37, 38, 39, 44, 45, 46, 47, 48, 49, 50, 51, 52, 53, 54, 55, 56, 57, 58, 59, 60, 61, 62, 63, 64, 65, 90, 91, 92, 75, 76, 77, 78, 79, 80, 81, 82, 83, 84, 85, 86, 87, 88, 89, 93, 94] (by decide +kernel) (by decide +kernel)
set_option maxRecDepth 20000 in
theorem gX3_findsVersionsRight_X3_isAsStamped : GoodIn wsX3_findsVersionsRight (wsV RX3 77 RX3 yX3_isAsStamped wsX3_isAsStamped) := goodIn_app (goodIn_of _ (by decide +kernel)) ggX3_findsVersionsRight_X3_isAsStamped
set_option maxRecDepth 20000 in
theorem ggX3_findsVersionsRight_X3_isNoOlderSnapshot : GoodIn wsX3_findsVersionsRight wsX3_isNoOlderSnapshot := goodIn_r _ [69, 12, 13, 14, 15, 16, 17, 18, 23, 24, 25, 4, 26, 27, 70, 71, 72, 73, 74, 90, 91, 92, 75, 76, 77, 78, 79, 80, 81, 82, 83, 84, 85, 86, 87, 88, 89] (by decide +kernel) (by decide +kernel)
set_option maxRecDepth 20000 in
theorem gX3_findsVersionsRight_X3_isNoOlderSnapshot : GoodIn wsX3_findsVersionsRight (wsV RX3 80 RX3 yX3_isNoOlderSnapshot wsX3_isNoOlderSnapshot) := goodIn_app (goodIn_of _ (by decide +kernel)) ggX3_findsVersionsRight_X3_isNoOlderSnapshot
set_option maxRecDepth 20000 in
theorem ggX3_findsVersionsRight_X0_versionFor : GoodIn wsX3_findsVersionsRight wsX0_versionFor := goodIn_r _ [73, 74, 75, 76, 77, 78, 79, 80, 81, 82, 83, 84, 85, 86, 87, 88, 89] (by decide +kernel) (by decide +kernel)
set_option maxRecDepth 20000 in
theorem gX3_findsVersionsRight_X0_versionFor : GoodIn wsX3_findsVersionsRight (wsV RX3 49 RX0 yX0_versionFor wsX0_versionFor) := goodIn_app (goodIn_of _ (by decide +kernel)) ggX3_findsVersionsRight_X0_versionFor
theorem dX3_findsVersionsRight_0 : decode cX3_findsVersionsRight 0 = .ok (.aload_n 1, 1) := by decide +kernel
theorem dX3_findsVersionsRight_1 : decode cX3_findsVersionsRight 1 = .ok (.invokevirtual 67, 3) := by decide +kernel
theorem dX3_findsVersionsRight_4 : decode cX3_findsVersionsRight 4 = .ok (.tableswitch 79 0 2 #[28, 51, 57], 28) := by decide +kernel
theorem dX3_findsVersionsRight_32 : decode cX3_findsVersionsRight 32 = .ok (.aload_n 1, 1) := by decide +kernel
theorem dX3_findsVersionsRight_33 : decode cX3_findsVersionsRight 33 = .ok (.invokevirtual 46, 3) := by decide +kernel
theorem dX3_findsVersionsRight_36 : decode cX3_findsVersionsRight 36 = .ok (.aload_n 0, 1) := by decide +kernel
theorem dX3_findsVersionsRight_37 : decode cX3_findsVersionsRight 37 = .ok (.iconst 0, 1) := by decide +kernel
theorem dX3_findsVersionsRight_38 : decode cX3_findsVersionsRight 38 = .ok (.invokevirtual 30, 3) := by decide +kernel
theorem dX3_findsVersionsRight_41 : decode cX3_findsVersionsRight 41 = .ok (.invokevirtual 46, 3) := by decide +kernel
theorem dX3_findsVersionsRight_44 : decode cX3_findsVersionsRight 44 = .ok (.iconst 1, 1) := by decide +kernel
theorem dX3_findsVersionsRight_45 : decode cX3_findsVersionsRight 45 = .ok (.iadd, 1) := by decide +kernel
theorem dX3_findsVersionsRight_46 : decode cX3_findsVersionsRight 46 = .ok (.if_icmp .ne 7, 3) := by decide +kernel
theorem dX3_findsVersionsRight_49 : decode cX3_findsVersionsRight 49 = .ok (.iconst 1, 1) := by decide +kernel
theorem dX3_findsVersionsRight_50 : decode cX3_findsVersionsRight 50 = .ok (.goto 4, 3) := by decide +kernel
theorem dX3_findsVersionsRight_53 : decode cX3_findsVersionsRight 53 = .ok (.iconst 0, 1) := by decide +kernel
theorem dX3_findsVersionsRight_54 : decode cX3_findsVersionsRight 54 = .ok (.ireturn, 1) := by decide +kernel
theorem dX3_findsVersionsRight_55 : decode cX3_findsVersionsRight 55 = .ok (.aload_n 0, 1) := by decide +kernel
theorem dX3_findsVersionsRight_56 : decode cX3_findsVersionsRight 56 = .ok (.aload_n 1, 1) := by decide +kernel
theorem dX3_findsVersionsRight_57 : decode cX3_findsVersionsRight 57 = .ok (.invokevirtual 74, 3) := by decide +kernel
theorem dX3_findsVersionsRight_60 : decode cX3_findsVersionsRight 60 = .ok (.ireturn, 1) := by decide +kernel
theorem dX3_findsVersionsRight_61 : decode cX3_findsVersionsRight 61 = .ok (.aload_n 0, 1) := by decide +kernel
theorem dX3_findsVersionsRight_62 : decode cX3_findsVersionsRight 62 = .ok (.aload_n 1, 1) := by decide +kernel
theorem dX3_findsVersionsRight_63 : decode cX3_findsVersionsRight 63 = .ok (.invokevirtual 77, 3) := by decide +kernel
theorem dX3_findsVersionsRight_66 : decode cX3_findsVersionsRight 66 = .ok (.ifCond .eq 15, 3) := by decide +kernel
theorem dX3_findsVersionsRight_69 : decode cX3_findsVersionsRight 69 = .ok (.aload_n 0, 1) := by decide +kernel
theorem dX3_findsVersionsRight_70 : decode cX3_findsVersionsRight 70 = .ok (.aload_n 1, 1) := by decide +kernel
theorem dX3_findsVersionsRight_71 : decode cX3_findsVersionsRight 71 = .ok (.invokevirtual 80, 3) := by decide +kernel
theorem dX3_findsVersionsRight_74 : decode cX3_findsVersionsRight 74 = .ok (.ifCond .eq 7, 3) := by decide +kernel
theorem dX3_findsVersionsRight_77 : decode cX3_findsVersionsRight 77 = .ok (.iconst 1, 1) := by decide +kernel
theorem dX3_findsVersionsRight_78 : decode cX3_findsVersionsRight 78 = .ok (.goto 4, 3) := by decide +kernel
theorem dX3_findsVersionsRight_81 : decode cX3_findsVersionsRight 81 = .ok (.iconst 0, 1) := by decide +kernel
theorem dX3_findsVersionsRight_82 : decode cX3_findsVersionsRight 82 = .ok (.ireturn, 1) := by decide +kernel
theorem dX3_findsVersionsRight_83 : decode cX3_findsVersionsRight 83 = .ok (.aload_n 1, 1) := by decide +kernel
theorem dX3_findsVersionsRight_84 : decode cX3_findsVersionsRight 84 = .ok (.invokevirtual 46, 3) := by decide +kernel
theorem dX3_findsVersionsRight_87 : decode cX3_findsVersionsRight 87 = .ok (.aload_n 0, 1) := by decide +kernel
theorem dX3_findsVersionsRight_88 : decode cX3_findsVersionsRight 88 = .ok (.iconst 2, 1) := by decide +kernel
theorem dX3_findsVersionsRight_89 : decode cX3_findsVersionsRight 89 = .ok (.invokevirtual 30, 3) := by decide +kernel
