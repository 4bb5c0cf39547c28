theorem dX9_begin_24 : decode cX9_begin 24 = .ok (.iconst 1, 1) := by decide +kernel
theorem dX9_begin_25 : decode cX9_begin 25 = .ok (.iastore, 1) := by decide +kernel
theorem dX9_begin_26 : decode cX9_begin 26 = .ok (.return_, 1) := by decide +kernel
theorem dX9_knows_0 : decode cX9_knows 0 = .ok (.iload_n 1, 1) := by decide +kernel
theorem dX9_knows_1 : decode cX9_knows 1 = .ok (.ifCond .le 23, 3) := by decide +kernel
theorem dX9_knows_4 : decode cX9_knows 4 = .ok (.iload_n 1, 1) := by decide +kernel
theorem dX9_knows_5 : decode cX9_knows 5 = .ok (.sipush 4096, 3) := by decide +kernel
theorem dX9_knows_8 : decode cX9_knows 8 = .ok (.if_icmp .ge 16, 3) := by decide +kernel
theorem dX9_knows_11 : decode cX9_knows 11 = .ok (.aload_n 0, 1) := by decide +kernel
theorem dX9_knows_12 : decode cX9_knows 12 = .ok (.getfield 9, 3) := by decide +kernel
theorem dX9_knows_15 : decode cX9_knows 15 = .ok (.iload_n 1, 1) := by decide +kernel
theorem dX9_knows_16 : decode cX9_knows 16 = .ok (.iaload, 1) := by decide +kernel
theorem dX9_knows_17 : decode cX9_knows 17 = .ok (.ifCond .eq 7, 3) := by decide +kernel
theorem dX9_knows_20 : decode cX9_knows 20 = .ok (.iconst 1, 1) := by decide +kernel
theorem dX9_knows_21 : decode cX9_knows 21 = .ok (.goto 4, 3) := by decide +kernel
theorem dX9_knows_24 : decode cX9_knows 24 = .ok (.iconst 0, 1) := by decide +kernel
theorem dX9_knows_25 : decode cX9_knows 25 = .ok (.ireturn, 1) := by decide +kernel
theorem dX9_mark_0 : decode cX9_mark 0 = .ok (.iload_n 1, 1) := by decide +kernel
theorem dX9_mark_1 : decode cX9_mark 1 = .ok (.ifCond .le 21, 3) := by decide +kernel
theorem dX9_mark_4 : decode cX9_mark 4 = .ok (.iload_n 1, 1) := by decide +kernel
theorem dX9_mark_5 : decode cX9_mark 5 = .ok (.sipush 4096, 3) := by decide +kernel
theorem dX9_mark_8 : decode cX9_mark 8 = .ok (.if_icmp .ge 14, 3) := by decide +kernel
theorem dX9_mark_11 : decode cX9_mark 11 = .ok (.aload_n 0, 1) := by decide +kernel
theorem dX9_mark_12 : decode cX9_mark 12 = .ok (.getfield 9, 3) := by decide +kernel
theorem dX9_mark_15 : decode cX9_mark 15 = .ok (.iload_n 1, 1) := by decide +kernel
theorem dX9_mark_16 : decode cX9_mark 16 = .ok (.iload_n 2, 1) := by decide +kernel
theorem dX9_mark_17 : decode cX9_mark 17 = .ok (.iconst 4, 1) := by decide +kernel
theorem dX9_mark_18 : decode cX9_mark 18 = .ok (.imul, 1) := by decide +kernel
theorem dX9_mark_19 : decode cX9_mark 19 = .ok (.iload_n 3, 1) := by decide +kernel
theorem dX9_mark_20 : decode cX9_mark 20 = .ok (.iadd, 1) := by decide +kernel
theorem dX9_mark_21 : decode cX9_mark 21 = .ok (.iastore, 1) := by decide +kernel
theorem dX9_mark_22 : decode cX9_mark 22 = .ok (.return_, 1) := by decide +kernel
set_option maxRecDepth 20000 in
theorem ggX9_before_X9_knows : GoodIn wsX9_before wsX9_knows := goodIn_r _ [6, 1, 7] (by decide +kernel) (by decide +kernel)
set_option maxRecDepth 20000 in
theorem gX9_before_X9_knows : GoodIn wsX9_before (wsV RX9 21 RX9 yX9_knows wsX9_knows) := goodIn_app (goodIn_of _ (by decide +kernel)) ggX9_before_X9_knows
theorem dX9_before_0 : decode cX9_before 0 = .ok (.aload_n 0, 1) := by decide +kernel
theorem dX9_before_1 : decode cX9_before 1 = .ok (.iload_n 1, 1) := by decide +kernel
theorem dX9_before_2 : decode cX9_before 2 = .ok (.invokevirtual 21, 3) := by decide +kernel
theorem dX9_before_5 : decode cX9_before 5 = .ok (.ifCond .eq 14, 3) := by decide +kernel
theorem dX9_before_8 : decode cX9_before 8 = .ok (.aload_n 0, 1) := by decide +kernel
theorem dX9_before_9 : decode cX9_before 9 = .ok (.getfield 9, 3) := by decide +kernel
theorem dX9_before_12 : decode cX9_before 12 = .ok (.iload_n 1, 1) := by decide +kernel
theorem dX9_before_13 : decode cX9_before 13 = .ok (.iaload, 1) := by decide +kernel
theorem dX9_before_14 : decode cX9_before 14 = .ok (.iconst 4, 1) := by decide +kernel
theorem dX9_before_15 : decode cX9_before 15 = .ok (.idiv, 1) := by decide +kernel
theorem dX9_before_16 : decode cX9_before 16 = .ok (.goto 4, 3) := by decide +kernel
theorem dX9_before_19 : decode cX9_before 19 = .ok (.iconst 0, 1) := by decide +kernel
theorem dX9_before_20 : decode cX9_before 20 = .ok (.ireturn, 1) := by decide +kernel
set_option maxRecDepth 20000 in
theorem ggX9_lengthTo_X9_before : GoodIn wsX9_lengthTo wsX9_before := goodIn_r _ [5, 6, 7, 8, 9, 4, 10, 11] (by decide +kernel) (by decide +kernel)
set_option maxRecDepth 20000 in
theorem gX9_lengthTo_X9_before : GoodIn wsX9_lengthTo (wsV RX9 25 RX9 yX9_before wsX9_before) := goodIn_app (goodIn_of _ (by decide +kernel)) ggX9_lengthTo_X9_before
theorem dX9_lengthTo_0 : decode cX9_lengthTo 0 = .ok (.iconst 0, 1) := by decide +kernel
theorem dX9_lengthTo_1 : decode cX9_lengthTo 1 = .ok (.istore_n 2, 1) := by decide +kernel
theorem dX9_lengthTo_2 : decode cX9_lengthTo 2 = .ok (.aload_n 0, 1) := by decide +kernel
theorem dX9_lengthTo_3 : decode cX9_lengthTo 3 = .ok (.iload_n 1, 1) := by decide +kernel
theorem dX9_lengthTo_4 : decode cX9_lengthTo 4 = .ok (.invokevirtual 25, 3) := by decide +kernel
theorem dX9_lengthTo_7 : decode cX9_lengthTo 7 = .ok (.istore_n 3, 1) := by decide +kernel
theorem dX9_lengthTo_8 : decode cX9_lengthTo 8 = .ok (.iconst 0, 1) := by decide +kernel
theorem dX9_lengthTo_9 : decode cX9_lengthTo 9 = .ok (.istore 4, 2) := by decide +kernel
theorem dX9_lengthTo_11 : decode cX9_lengthTo 11 = .ok (.iload 4, 2) := by decide +kernel
theorem dX9_lengthTo_13 : decode cX9_lengthTo 13 = .ok (.sipush 4096, 3) := by decide +kernel
theorem dX9_lengthTo_16 : decode cX9_lengthTo 16 = .ok (.if_icmp .ge 22, 3) := by decide +kernel
theorem dX9_lengthTo_19 : decode cX9_lengthTo 19 = .ok (.iload_n 3, 1) := by decide +kernel
theorem dX9_lengthTo_20 : decode cX9_lengthTo 20 = .ok (.ifCond .eq 18, 3) := by decide +kernel
theorem dX9_lengthTo_23 : decode cX9_lengthTo 23 = .ok (.iinc 2 1, 3) := by decide +kernel
theorem dX9_lengthTo_26 : decode cX9_lengthTo 26 = .ok (.aload_n 0, 1) := by decide +kernel
theorem dX9_lengthTo_27 : decode cX9_lengthTo 27 = .ok (.iload_n 3, 1) := by decide +kernel
theorem dX9_lengthTo_28 : decode cX9_lengthTo 28 = .ok (.invokevirtual 25, 3) := by decide +kernel
theorem dX9_lengthTo_31 : decode cX9_lengthTo 31 = .ok (.istore_n 3, 1) := by decide +kernel
theorem dX9_lengthTo_32 : decode cX9_lengthTo 32 = .ok (.iinc 4 1, 3) := by decide +kernel
theorem dX9_lengthTo_35 : decode cX9_lengthTo 35 = .ok (.goto (-24), 3) := by decide +kernel
theorem dX9_lengthTo_38 : decode cX9_lengthTo 38 = .ok (.iload_n 2, 1) := by decide +kernel
theorem dX9_lengthTo_39 : decode cX9_lengthTo 39 = .ok (.ireturn, 1) := by decide +kernel
set_option maxRecDepth 20000 in
theorem ggX9_giveWord_X10_resize : GoodIn wsX9_giveWord wsX10_resize := goodIn_r _ [6, 7, 8, 9, 10, 11, 27, 28] (by decide +kernel) (by decide +kernel)
set_option maxRecDepth 20000 in
theorem gX9_giveWord_X10_resize : GoodIn wsX9_giveWord (wsV RX9 29 RX10 yX10_resize wsX10_resize) := goodIn_app (goodIn_of _ (by decide +kernel)) ggX9_giveWord_X10_resize
set_option maxRecDepth 20000 in
theorem ggX9_giveWord_X9_knows : GoodIn wsX9_giveWord wsX9_knows := goodIn_r _ [16, 1, 26] (by decide +kernel) (by decide +kernel)
set_option maxRecDepth 20000 in
theorem gX9_giveWord_X9_knows : GoodIn wsX9_giveWord (wsV RX9 21 RX9 yX9_knows wsX9_knows) := goodIn_app (goodIn_of _ (by decide +kernel)) ggX9_giveWord_X9_knows
set_option maxRecDepth 20000 in
theorem ggX9_giveWord_X10_put : GoodIn wsX9_giveWord wsX10_put := goodIn_r _ [20, 11, 21, 27, 28] (by decide +kernel) (by decide +kernel)
set_option maxRecDepth 20000 in
theorem gX9_giveWord_X10_put : GoodIn wsX9_giveWord (wsV RX9 35 RX10 yX10_put wsX10_put) := goodIn_app (goodIn_of _ (by decide +kernel)) ggX9_giveWord_X10_put
set_option maxRecDepth 20000 in
theorem ggX9_giveWord_X9_before : GoodIn wsX9_giveWord wsX9_before := goodIn_r _ [25, 1, 12, 13, 14, 15, 16, 26] (by decide +kernel) (by decide +kernel)
set_option maxRecDepth 20000 in
theorem gX9_giveWord_X9_before : GoodIn wsX9_giveWord (wsV RX9 25 RX9 yX9_before wsX9_before) := goodIn_app (goodIn_of _ (by decide +kernel)) ggX9_giveWord_X9_before
theorem dX9_giveWord_0 : decode cX9_giveWord 0 = .ok (.aload_n 3, 1) := by decide +kernel
theorem dX9_giveWord_1 : decode cX9_giveWord 1 = .ok (.iload_n 2, 1) := by decide +kernel
theorem dX9_giveWord_2 : decode cX9_giveWord 2 = .ok (.invokevirtual 29, 3) := by decide +kernel
theorem dX9_giveWord_5 : decode cX9_giveWord 5 = .ok (.iload_n 1, 1) := by decide +kernel
theorem dX9_giveWord_6 : decode cX9_giveWord 6 = .ok (.istore 4, 2) := by decide +kernel
theorem dX9_giveWord_8 : decode cX9_giveWord 8 = .ok (.iload_n 2, 1) := by decide +kernel
theorem dX9_giveWord_9 : decode cX9_giveWord 9 = .ok (.iconst 1, 1) := by decide +kernel
theorem dX9_giveWord_10 : decode cX9_giveWord 10 = .ok (.isub, 1) := by decide +kernel
theorem dX9_giveWord_11 : decode cX9_giveWord 11 = .ok (.istore 5, 2) := by decide +kernel
theorem dX9_giveWord_13 : decode cX9_giveWord 13 = .ok (.iload 5, 2) := by decide +kernel
theorem dX9_giveWord_15 : decode cX9_giveWord 15 = .ok (.ifCond .lt 41, 3) := by decide +kernel
theorem dX9_giveWord_18 : decode cX9_giveWord 18 = .ok (.aload_n 0, 1) := by decide +kernel
theorem dX9_giveWord_19 : decode cX9_giveWord 19 = .ok (.iload 4, 2) := by decide +kernel
theorem dX9_giveWord_21 : decode cX9_giveWord 21 = .ok (.invokevirtual 21, 3) := by decide +kernel
theorem dX9_giveWord_24 : decode cX9_giveWord 24 = .ok (.ifCond .eq 32, 3) := by decide +kernel
theorem dX9_giveWord_27 : decode cX9_giveWord 27 = .ok (.aload_n 3, 1) := by decide +kernel
theorem dX9_giveWord_28 : decode cX9_giveWord 28 = .ok (.iload 5, 2) := by decide +kernel
theorem dX9_giveWord_30 : decode cX9_giveWord 30 = .ok (.aload_n 0, 1) := by decide +kernel
theorem dX9_giveWord_31 : decode cX9_giveWord 31 = .ok (.getfield 9, 3) := by decide +kernel
theorem dX9_giveWord_34 : decode cX9_giveWord 34 = .ok (.iload 4, 2) := by decide +kernel
theorem dX9_giveWord_36 : decode cX9_giveWord 36 = .ok (.iaload, 1) := by decide +kernel
theorem dX9_giveWord_37 : decode cX9_giveWord 37 = .ok (.iconst 4, 1) := by decide +kernel
theorem dX9_giveWord_38 : decode cX9_giveWord 38 = .ok (.irem, 1) := by decide +kernel
theorem dX9_giveWord_39 : decode cX9_giveWord 39 = .ok (.invokevirtual 35, 3) := by decide +kernel
theorem dX9_giveWord_42 : decode cX9_giveWord 42 = .ok (.aload_n 0, 1) := by decide +kernel
theorem dX9_giveWord_43 : decode cX9_giveWord 43 = .ok (.iload 4, 2) := by decide +kernel
theorem dX9_giveWord_45 : decode cX9_giveWord 45 = .ok (.invokevirtual 25, 3) := by decide +kernel
theorem dX9_giveWord_48 : decode cX9_giveWord 48 = .ok (.istore 4, 2) := by decide +kernel
theorem dX9_giveWord_50 : decode cX9_giveWord 50 = .ok (.iinc 5 (-1), 3) := by decide +kernel
theorem dX9_giveWord_53 : decode cX9_giveWord 53 = .ok (.goto (-40), 3) := by decide +kernel
theorem dX9_giveWord_56 : decode cX9_giveWord 56 = .ok (.return_, 1) := by decide +kernel
theorem dX10_init_0 : decode cX10_init 0 = .ok (.aload_n 0, 1) := by decide +kernel
theorem dX10_init_1 : decode cX10_init 1 = .ok (.invokespecial 3, 3) := by decide +kernel
theorem dX10_init_4 : decode cX10_init 4 = .ok (.aload_n 0, 1) := by decide +kernel
theorem dX10_init_5 : decode cX10_init 5 = .ok (.sipush 600, 3) := by decide +kernel
theorem dX10_init_8 : decode cX10_init 8 = .ok (.newarray .int, 2) := by decide +kernel
theorem dX10_init_10 : decode cX10_init 10 = .ok (.putfield 9, 3) := by decide +kernel
theorem dX10_init_13 : decode cX10_init 13 = .ok (.return_, 1) := by decide +kernel
theorem dX10_length_0 : decode cX10_length 0 = .ok (.aload_n 0, 1) := by decide +kernel
theorem dX10_length_1 : decode cX10_length 1 = .ok (.getfield 15, 3) := by decide +kernel
theorem dX10_length_4 : decode cX10_length 4 = .ok (.ireturn, 1) := by decide +kernel
theorem dX10_clear_0 : decode cX10_clear 0 = .ok (.aload_n 0, 1) := by decide +kernel
theorem dX10_clear_1 : decode cX10_clear 1 = .ok (.iconst 0, 1) := by decide +kernel
theorem dX10_clear_2 : decode cX10_clear 2 = .ok (.putfield 15, 3) := by decide +kernel
theorem dX10_clear_5 : decode cX10_clear 5 = .ok (.return_, 1) := by decide +kernel
theorem dX10_append_0 : decode cX10_append 0 = .ok (.aload_n 0, 1) := by decide +kernel
theorem dX10_append_1 : decode cX10_append 1 = .ok (.getfield 15, 3) := by decide +kernel
theorem dX10_append_4 : decode cX10_append 4 = .ok (.ifCond .lt 13, 3) := by decide +kernel
theorem dX10_append_7 : decode cX10_append 7 = .ok (.aload_n 0, 1) := by decide +kernel
theorem dX10_append_8 : decode cX10_append 8 = .ok (.getfield 15, 3) := by decide +kernel
theorem dX10_append_11 : decode cX10_append 11 = .ok (.sipush 600, 3) := by decide +kernel
theorem dX10_append_14 : decode cX10_append 14 = .ok (.if_icmp .lt 5, 3) := by decide +kernel
theorem dX10_append_17 : decode cX10_append 17 = .ok (.iconst 0, 1) := by decide +kernel
theorem dX10_append_18 : decode cX10_append 18 = .ok (.ireturn, 1) := by decide +kernel
theorem dX10_append_19 : decode cX10_append 19 = .ok (.aload_n 0, 1) := by decide +kernel
theorem dX10_append_20 : decode cX10_append 20 = .ok (.getfield 9, 3) := by decide +kernel
theorem dX10_append_23 : decode cX10_append 23 = .ok (.aload_n 0, 1) := by decide +kernel
theorem dX10_append_24 : decode cX10_append 24 = .ok (.getfield 15, 3) := by decide +kernel
theorem dX10_append_27 : decode cX10_append 27 = .ok (.iload_n 1, 1) := by decide +kernel
theorem dX10_append_28 : decode cX10_append 28 = .ok (.iastore, 1) := by decide +kernel
theorem dX10_append_29 : decode cX10_append 29 = .ok (.aload_n 0, 1) := by decide +kernel
theorem dX10_append_30 : decode cX10_append 30 = .ok (.dup, 1) := by decide +kernel
theorem dX10_append_31 : decode cX10_append 31 = .ok (.getfield 15, 3) := by decide +kernel
theorem dX10_append_34 : decode cX10_append 34 = .ok (.iconst 1, 1) := by decide +kernel
theorem dX10_append_35 : decode cX10_append 35 = .ok (.iadd, 1) := by decide +kernel
theorem dX10_append_36 : decode cX10_append 36 = .ok (.putfield 15, 3) := by decide +kernel
theorem dX10_append_39 : decode cX10_append 39 = .ok (.iconst 1, 1) := by decide +kernel
theorem dX10_append_40 : decode cX10_append 40 = .ok (.ireturn, 1) := by decide +kernel
theorem dX10_resize_0 : decode cX10_resize 0 = .ok (.aload_n 0, 1) := by decide +kernel
theorem dX10_resize_1 : decode cX10_resize 1 = .ok (.iload_n 1, 1) := by decide +kernel
theorem dX10_resize_2 : decode cX10_resize 2 = .ok (.ifCond .ge 7, 3) := by decide +kernel
theorem dX10_resize_5 : decode cX10_resize 5 = .ok (.iconst 0, 1) := by decide +kernel
theorem dX10_resize_6 : decode cX10_resize 6 = .ok (.goto 10, 3) := by decide +kernel
theorem dX10_resize_9 : decode cX10_resize 9 = .ok (.iload_n 1, 1) := by decide +kernel
theorem dX10_resize_10 : decode cX10_resize 10 = .ok (.sipush 600, 3) := by decide +kernel
theorem dX10_resize_13 : decode cX10_resize 13 = .ok (.invokestatic 19, 3) := by decide +kernel
theorem dX10_resize_16 : decode cX10_resize 16 = .ok (.putfield 15, 3) := by decide +kernel
theorem dX10_resize_19 : decode cX10_resize 19 = .ok (.return_, 1) := by decide +kernel
theorem dX10_put_0 : decode cX10_put 0 = .ok (.iload_n 1, 1) := by decide +kernel
theorem dX10_put_1 : decode cX10_put 1 = .ok (.ifCond .lt 25, 3) := by decide +kernel
theorem dX10_put_4 : decode cX10_put 4 = .ok (.iload_n 1, 1) := by decide +kernel
theorem dX10_put_5 : decode cX10_put 5 = .ok (.aload_n 0, 1) := by decide +kernel
theorem dX10_put_6 : decode cX10_put 6 = .ok (.getfield 15, 3) := by decide +kernel
theorem dX10_put_9 : decode cX10_put 9 = .ok (.if_icmp .ge 17, 3) := by decide +kernel
theorem dX10_put_12 : decode cX10_put 12 = .ok (.iload_n 1, 1) := by decide +kernel
theorem dX10_put_13 : decode cX10_put 13 = .ok (.sipush 600, 3) := by decide +kernel
theorem dX10_put_16 : decode cX10_put 16 = .ok (.if_icmp .ge 10, 3) := by decide +kernel
theorem dX10_put_19 : decode cX10_put 19 = .ok (.aload_n 0, 1) := by decide +kernel
theorem dX10_put_20 : decode cX10_put 20 = .ok (.getfield 9, 3) := by decide +kernel
theorem dX10_put_23 : decode cX10_put 23 = .ok (.iload_n 1, 1) := by decide +kernel
theorem dX10_put_24 : decode cX10_put 24 = .ok (.iload_n 2, 1) := by decide +kernel
theorem dX10_put_25 : decode cX10_put 25 = .ok (.iastore, 1) := by decide +kernel
theorem dX10_put_26 : decode cX10_put 26 = .ok (.return_, 1) := by decide +kernel
theorem dX10_at_0 : decode cX10_at 0 = .ok (.iload_n 1, 1) := by decide +kernel
theorem dX10_at_1 : decode cX10_at 1 = .ok (.ifCond .lt 27, 3) := by decide +kernel
theorem dX10_at_4 : decode cX10_at 4 = .ok (.iload_n 1, 1) := by decide +kernel
theorem dX10_at_5 : decode cX10_at 5 = .ok (.aload_n 0, 1) := by decide +kernel
theorem dX10_at_6 : decode cX10_at 6 = .ok (.getfield 15, 3) := by decide +kernel
theorem dX10_at_9 : decode cX10_at 9 = .ok (.if_icmp .ge 19, 3) := by decide +kernel
theorem dX10_at_12 : decode cX10_at 12 = .ok (.iload_n 1, 1) := by decide +kernel
theorem dX10_at_13 : decode cX10_at 13 = .ok (.sipush 600, 3) := by decide +kernel
theorem dX10_at_16 : decode cX10_at 16 = .ok (.if_icmp .ge 12, 3) := by decide +kernel
theorem dX10_at_19 : decode cX10_at 19 = .ok (.aload_n 0, 1) := by decide +kernel
theorem dX10_at_20 : decode cX10_at 20 = .ok (.getfield 9, 3) := by decide +kernel
theorem dX10_at_23 : decode cX10_at 23 = .ok (.iload_n 1, 1) := by decide +kernel
theorem dX10_at_24 : decode cX10_at 24 = .ok (.iaload, 1) := by decide +kernel
theorem dX10_at_25 : decode cX10_at 25 = .ok (.goto 4, 3) := by decide +kernel
theorem dX10_at_28 : decode cX10_at 28 = .ok (.iconst (-1), 1) := by decide +kernel
theorem dX10_at_29 : decode cX10_at 29 = .ok (.ireturn, 1) := by decide +kernel
set_option maxRecDepth 20000 in
theorem ggX10_isOf_X4_hasLetter : GoodIn wsX10_isOf wsX4_hasLetter := goodIn_r _ [7, 8, 11, 12, 13, 14, 15, 16] (by decide +kernel) (by decide +kernel)
set_option maxRecDepth 20000 in
theorem gX10_isOf_X4_hasLetter : GoodIn wsX10_isOf (wsV RX10 25 RX4 yX4_hasLetter wsX4_hasLetter) := goodIn_app (goodIn_of _ (by decide +kernel)) ggX10_isOf_X4_hasLetter
theorem dX10_isOf_0 : decode cX10_isOf 0 = .ok (.iconst 0, 1) := by decide +kernel
theorem dX10_isOf_1 : decode cX10_isOf 1 = .ok (.istore_n 2, 1) := by decide +kernel
theorem dX10_isOf_2 : decode cX10_isOf 2 = .ok (.iload_n 2, 1) := by decide +kernel
theorem dX10_isOf_3 : decode cX10_isOf 3 = .ok (.aload_n 0, 1) := by decide +kernel
theorem dX10_isOf_4 : decode cX10_isOf 4 = .ok (.getfield 15, 3) := by decide +kernel
theorem dX10_isOf_7 : decode cX10_isOf 7 = .ok (.if_icmp .ge 31, 3) := by decide +kernel
theorem dX10_isOf_10 : decode cX10_isOf 10 = .ok (.iload_n 2, 1) := by decide +kernel
theorem dX10_isOf_11 : decode cX10_isOf 11 = .ok (.sipush 600, 3) := by decide +kernel
theorem dX10_isOf_14 : decode cX10_isOf 14 = .ok (.if_icmp .ge 24, 3) := by decide +kernel
theorem dX10_isOf_17 : decode cX10_isOf 17 = .ok (.aload_n 1, 1) := by decide +kernel
theorem dX10_isOf_18 : decode cX10_isOf 18 = .ok (.aload_n 0, 1) := by decide +kernel
theorem dX10_isOf_19 : decode cX10_isOf 19 = .ok (.getfield 9, 3) := by decide +kernel
theorem dX10_isOf_22 : decode cX10_isOf 22 = .ok (.iload_n 2, 1) := by decide +kernel
theorem dX10_isOf_23 : decode cX10_isOf 23 = .ok (.iaload, 1) := by decide +kernel
theorem dX10_isOf_24 : decode cX10_isOf 24 = .ok (.invokevirtual 25, 3) := by decide +kernel
theorem dX10_isOf_27 : decode cX10_isOf 27 = .ok (.ifCond .ne 5, 3) := by decide +kernel
theorem dX10_isOf_30 : decode cX10_isOf 30 = .ok (.iconst 0, 1) := by decide +kernel
theorem dX10_isOf_31 : decode cX10_isOf 31 = .ok (.ireturn, 1) := by decide +kernel
theorem dX10_isOf_32 : decode cX10_isOf 32 = .ok (.iinc 2 1, 3) := by decide +kernel
theorem dX10_isOf_35 : decode cX10_isOf 35 = .ok (.goto (-33), 3) := by decide +kernel
theorem dX10_isOf_38 : decode cX10_isOf 38 = .ok (.iconst 1, 1) := by decide +kernel
theorem dX10_isOf_39 : decode cX10_isOf 39 = .ok (.ireturn, 1) := by decide +kernel
set_option maxRecDepth 20000 in
theorem ggX10_copy_X10_length : GoodIn wsX10_copy wsX10_length := goodIn_r _ [6, 1, 24, 25] (by decide +kernel) (by decide +kernel)
set_option maxRecDepth 20000 in
theorem gX10_copy_X10_length : GoodIn wsX10_copy (wsV RX10 31 RX10 yX10_length wsX10_length) := goodIn_app (goodIn_of _ (by decide +kernel)) ggX10_copy_X10_length
set_option maxRecDepth 20000 in
theorem ggX10_copy_X10_resize : GoodIn wsX10_copy wsX10_resize := goodIn_r _ [10, 11, 12, 13, 14, 1, 24, 25] (by decide +kernel) (by decide +kernel)
set_option maxRecDepth 20000 in
theorem gX10_copy_X10_resize : GoodIn wsX10_copy (wsV RX10 34 RX10 yX10_resize wsX10_resize) := goodIn_app (goodIn_of _ (by decide +kernel)) ggX10_copy_X10_resize
set_option maxRecDepth 20000 in
theorem ggX10_copy_X10_at : GoodIn wsX10_copy wsX10_at := goodIn_r _ [18, 1, 19, 24, 25] (by decide +kernel) (by decide +kernel)
set_option maxRecDepth 20000 in
theorem gX10_copy_X10_at : GoodIn wsX10_copy (wsV RX10 38 RX10 yX10_at wsX10_at) := goodIn_app (goodIn_of _ (by decide +kernel)) ggX10_copy_X10_at
set_option maxRecDepth 20000 in
theorem ggX10_copy_X10_put : GoodIn wsX10_copy wsX10_put := goodIn_r _ [23, 1, 19, 24, 25] (by decide +kernel) (by decide +kernel)
set_option maxRecDepth 20000 in
theorem gX10_copy_X10_put : GoodIn wsX10_copy (wsV RX10 42 RX10 yX10_put wsX10_put) := goodIn_app (goodIn_of _ (by decide +kernel)) ggX10_copy_X10_put
theorem dX10_copy_0 : decode cX10_copy 0 = .ok (.aload_n 0, 1) := by decide +kernel
theorem dX10_copy_1 : decode cX10_copy 1 = .ok (.aload_n 1, 1) := by decide +kernel
theorem dX10_copy_2 : decode cX10_copy 2 = .ok (.invokevirtual 31, 3) := by decide +kernel
theorem dX10_copy_5 : decode cX10_copy 5 = .ok (.invokevirtual 34, 3) := by decide +kernel
theorem dX10_copy_8 : decode cX10_copy 8 = .ok (.iconst 0, 1) := by decide +kernel
theorem dX10_copy_9 : decode cX10_copy 9 = .ok (.istore_n 2, 1) := by decide +kernel
theorem dX10_copy_10 : decode cX10_copy 10 = .ok (.iload_n 2, 1) := by decide +kernel
theorem dX10_copy_11 : decode cX10_copy 11 = .ok (.aload_n 0, 1) := by decide +kernel
theorem dX10_copy_12 : decode cX10_copy 12 = .ok (.getfield 15, 3) := by decide +kernel
theorem dX10_copy_15 : decode cX10_copy 15 = .ok (.if_icmp .ge 19, 3) := by decide +kernel
theorem dX10_copy_18 : decode cX10_copy 18 = .ok (.aload_n 0, 1) := by decide +kernel
theorem dX10_copy_19 : decode cX10_copy 19 = .ok (.iload_n 2, 1) := by decide +kernel
theorem dX10_copy_20 : decode cX10_copy 20 = .ok (.aload_n 1, 1) := by decide +kernel
theorem dX10_copy_21 : decode cX10_copy 21 = .ok (.iload_n 2, 1) := by decide +kernel
theorem dX10_copy_22 : decode cX10_copy 22 = .ok (.invokevirtual 38, 3) := by decide +kernel
theorem dX10_copy_25 : decode cX10_copy 25 = .ok (.invokevirtual 42, 3) := by decide +kernel
theorem dX10_copy_28 : decode cX10_copy 28 = .ok (.iinc 2 1, 3) := by decide +kernel
theorem dX10_copy_31 : decode cX10_copy 31 = .ok (.goto (-21), 3) := by decide +kernel
theorem dX10_copy_34 : decode cX10_copy 34 = .ok (.return_, 1) := by decide +kernel
set_option maxRecDepth 20000 in
theorem ggX10_isAheadOf_X10_length : GoodIn wsX10_isAheadOf wsX10_length := goodIn_r _ [6, 1, 12, 13] (by decide +kernel) (by decide +kernel)
set_option maxRecDepth 20000 in
theorem gX10_isAheadOf_X10_length : GoodIn wsX10_isAheadOf (wsV RX10 31 RX10 yX10_length wsX10_length) := goodIn_app (goodIn_of _ (by decide +kernel)) ggX10_isAheadOf_X10_length
set_option maxRecDepth 20000 in
theorem ggX10_isAheadOf_X10_at : GoodIn wsX10_isAheadOf wsX10_at := goodIn_r _ [10, 1, 11, 12, 13] (by decide +kernel) (by decide +kernel)
set_option maxRecDepth 20000 in
theorem gX10_isAheadOf_X10_at : GoodIn wsX10_isAheadOf (wsV RX10 38 RX10 yX10_at wsX10_at) := goodIn_app (goodIn_of _ (by decide +kernel)) ggX10_isAheadOf_X10_at
theorem dX10_isAheadOf_0 : decode cX10_isAheadOf 0 = .ok (.aload_n 0, 1) := by decide +kernel
theorem dX10_isAheadOf_1 : decode cX10_isAheadOf 1 = .ok (.getfield 15, 3) := by decide +kernel
theorem dX10_isAheadOf_4 : decode cX10_isAheadOf 4 = .ok (.aload_n 1, 1) := by decide +kernel
theorem dX10_isAheadOf_5 : decode cX10_isAheadOf 5 = .ok (.invokevirtual 31, 3) := by decide +kernel
theorem dX10_isAheadOf_8 : decode cX10_isAheadOf 8 = .ok (.if_icmp .eq 20, 3) := by decide +kernel
theorem dX10_isAheadOf_11 : decode cX10_isAheadOf 11 = .ok (.aload_n 0, 1) := by decide +kernel
theorem dX10_isAheadOf_12 : decode cX10_isAheadOf 12 = .ok (.getfield 15, 3) := by decide +kernel
theorem dX10_isAheadOf_15 : decode cX10_isAheadOf 15 = .ok (.aload_n 1, 1) := by decide +kernel
theorem dX10_isAheadOf_16 : decode cX10_isAheadOf 16 = .ok (.invokevirtual 31, 3) := by decide +kernel
theorem dX10_isAheadOf_19 : decode cX10_isAheadOf 19 = .ok (.if_icmp .ge 7, 3) := by decide +kernel
theorem dX10_isAheadOf_22 : decode cX10_isAheadOf 22 = .ok (.iconst 1, 1) := by decide +kernel
theorem dX10_isAheadOf_23 : decode cX10_isAheadOf 23 = .ok (.goto 4, 3) := by decide +kernel
theorem dX10_isAheadOf_26 : decode cX10_isAheadOf 26 = .ok (.iconst 0, 1) := by decide +kernel
theorem dX10_isAheadOf_27 : decode cX10_isAheadOf 27 = .ok (.ireturn, 1) := by decide +kernel
theorem dX10_isAheadOf_28 : decode cX10_isAheadOf 28 = .ok (.iconst 0, 1) := by decide +kernel
theorem dX10_isAheadOf_29 : decode cX10_isAheadOf 29 = .ok (.istore_n 2, 1) := by decide +kernel
theorem dX10_isAheadOf_30 : decode cX10_isAheadOf 30 = .ok (.iload_n 2, 1) := by decide +kernel
theorem dX10_isAheadOf_31 : decode cX10_isAheadOf 31 = .ok (.aload_n 0, 1) := by decide +kernel
theorem dX10_isAheadOf_32 : decode cX10_isAheadOf 32 = .ok (.getfield 15, 3) := by decide +kernel
theorem dX10_isAheadOf_35 : decode cX10_isAheadOf 35 = .ok (.if_icmp .ge 41, 3) := by decide +kernel
theorem dX10_isAheadOf_38 : decode cX10_isAheadOf 38 = .ok (.aload_n 0, 1) := by decide +kernel
theorem dX10_isAheadOf_39 : decode cX10_isAheadOf 39 = .ok (.iload_n 2, 1) := by decide +kernel
theorem dX10_isAheadOf_40 : decode cX10_isAheadOf 40 = .ok (.invokevirtual 38, 3) := by decide +kernel
theorem dX10_isAheadOf_43 : decode cX10_isAheadOf 43 = .ok (.aload_n 1, 1) := by decide +kernel
theorem dX10_isAheadOf_44 : decode cX10_isAheadOf 44 = .ok (.iload_n 2, 1) := by decide +kernel
theorem dX10_isAheadOf_45 : decode cX10_isAheadOf 45 = .ok (.invokevirtual 38, 3) := by decide +kernel
theorem dX10_isAheadOf_48 : decode cX10_isAheadOf 48 = .ok (.if_icmp .eq 22, 3) := by decide +kernel
theorem dX10_isAheadOf_51 : decode cX10_isAheadOf 51 = .ok (.aload_n 0, 1) := by decide +kernel
theorem dX10_isAheadOf_52 : decode cX10_isAheadOf 52 = .ok (.iload_n 2, 1) := by decide +kernel
theorem dX10_isAheadOf_53 : decode cX10_isAheadOf 53 = .ok (.invokevirtual 38, 3) := by decide +kernel
theorem dX10_isAheadOf_56 : decode cX10_isAheadOf 56 = .ok (.aload_n 1, 1) := by decide +kernel
theorem dX10_isAheadOf_57 : decode cX10_isAheadOf 57 = .ok (.iload_n 2, 1) := by decide +kernel
theorem dX10_isAheadOf_58 : decode cX10_isAheadOf 58 = .ok (.invokevirtual 38, 3) := by decide +kernel
theorem dX10_isAheadOf_61 : decode cX10_isAheadOf 61 = .ok (.if_icmp .ge 7, 3) := by decide +kernel
theorem dX10_isAheadOf_64 : decode cX10_isAheadOf 64 = .ok (.iconst 1, 1) := by decide +kernel
theorem dX10_isAheadOf_65 : decode cX10_isAheadOf 65 = .ok (.goto 4, 3) := by decide +kernel
theorem dX10_isAheadOf_68 : decode cX10_isAheadOf 68 = .ok (.iconst 0, 1) := by decide +kernel
theorem dX10_isAheadOf_69 : decode cX10_isAheadOf 69 = .ok (.ireturn, 1) := by decide +kernel
theorem dX10_isAheadOf_70 : decode cX10_isAheadOf 70 = .ok (.iinc 2 1, 3) := by decide +kernel
theorem dX10_isAheadOf_73 : decode cX10_isAheadOf 73 = .ok (.goto (-43), 3) := by decide +kernel
theorem dX10_isAheadOf_76 : decode cX10_isAheadOf 76 = .ok (.iconst 0, 1) := by decide +kernel
theorem dX10_isAheadOf_77 : decode cX10_isAheadOf 77 = .ok (.ireturn, 1) := by decide +kernel
set_option maxRecDepth 20000 in
theorem ggX11_init_X10_init : GoodIn wsX11_init wsX10_init := goodIn_r _ [43, 44, 2, 3, 45, 46, 129, 130] (by decide +kernel) (by decide +kernel)
set_option maxRecDepth 20000 in
theorem gX11_init_X10_init_n17 : GoodIn wsX11_init (wsX10_init) := ggX11_init_X10_init
set_option maxRecDepth 20000 in
theorem ggX11_init_X8_init : GoodIn wsX11_init wsX8_init := goodIn_r _ [48, 49, 2, 3, 45, 50, 51, 131, 132, 133] (by decide +kernel) (by decide +kernel)
set_option maxRecDepth 20000 in
theorem gX11_init_X8_init_n24 : GoodIn wsX11_init (wsX8_init) := ggX11_init_X8_init
set_option maxRecDepth 20000 in
theorem ggX11_init_X9_init : GoodIn wsX11_init wsX9_init := goodIn_r _ [53, 54, 2, 3, 45, 55, 134] (by decide +kernel) (by decide +kernel)
set_option maxRecDepth 20000 in
theorem gX11_init_X9_init_n31 : GoodIn wsX11_init (wsX9_init) := ggX11_init_X9_init
set_option maxRecDepth 20000 in
theorem ggX11_init_X7_init : GoodIn wsX11_init wsX7_init := goodIn_r _ [58, 59, 2, 3, 45, 60, 61, 62, 135, 136, 137, 138] (by decide +kernel) (by decide +kernel)
set_option maxRecDepth 20000 in
theorem gX11_init_X7_init : GoodIn wsX11_init (wsX7_init) := ggX11_init_X7_init
set_option maxRecDepth 20000 in
theorem ggX11_init_X6_init : GoodIn wsX11_init wsX6_init := goodIn_r _ [65, 66, 2, 3, 45, 67, 68, 69, 70, 139, 140, 141, 142, 143] (by decide +kernel) (by decide +kernel)
set_option maxRecDepth 20000 in
theorem gX11_init_X6_init : GoodIn wsX11_init (wsX6_init) := ggX11_init_X6_init
set_option maxRecDepth 20000 in
theorem ggX11_init_X0_init : GoodIn wsX11_init wsX0_init := goodIn_r _ [73, 74, 2, 3, 75, 76, 77, 78, 79, 144, 145, 146, 147] (by decide +kernel) (by decide +kernel)
set_option maxRecDepth 20000 in
theorem gX11_init_X0_init : GoodIn wsX11_init (wsX0_init) := ggX11_init_X0_init
set_option maxRecDepth 20000 in
theorem ggX11_init_X5_init : GoodIn wsX11_init wsX5_init := goodIn_r _ [81, 82, 2, 3, 45, 83, 84, 148, 149, 150] (by decide +kernel) (by decide +kernel)
set_option maxRecDepth 20000 in
theorem gX11_init_X5_init_n63 : GoodIn wsX11_init (wsX5_init) := ggX11_init_X5_init
set_option maxRecDepth 20000 in
theorem ggX11_init_X2_init : GoodIn wsX11_init wsX2_init := goodIn_r _ [87, 88, 2, 3, 89, 7, 8, 90, 91, 92, 93, 94, 42, 43, 44, 45, 46, 129, 130, 151, 152, 153, 154, 155, 156] (by decide +kernel) (by decide +kernel)
set_option maxRecDepth 20000 in
theorem gX11_init_X2_init : GoodIn wsX11_init (wsX2_init) := ggX11_init_X2_init
set_option maxRecDepth 20000 in
theorem ggX11_init_X1_init : GoodIn wsX11_init wsX1_init := goodIn_r _ [96, 97, 2, 3, 45, 98, 99, 100, 101, 102, 103, 104, 105, 106, 107, 108, 109, 110, 111, 112, 113, 114, 115, 116, 117, 157, 158, 159, 160, 161, 162, 163, 164, 165] (by decide +kernel) (by decide +kernel)
set_option maxRecDepth 20000 in
theorem gX11_init_X1_init_n79 : GoodIn wsX11_init (wsX1_init) := ggX11_init_X1_init
theorem dX11_init_0 : decode cX11_init 0 = .ok (.aload_n 0, 1) := by decide +kernel
theorem dX11_init_1 : decode cX11_init 1 = .ok (.invokespecial 3, 3) := by decide +kernel
theorem dX11_init_4 : decode cX11_init 4 = .ok (.aload_n 0, 1) := by decide +kernel
theorem dX11_init_5 : decode cX11_init 5 = .ok (.bipush 6, 2) := by decide +kernel
theorem dX11_init_7 : decode cX11_init 7 = .ok (.anewarray 9, 3) := by decide +kernel
theorem dX11_init_10 : decode cX11_init 10 = .ok (.putfield 11, 3) := by decide +kernel
theorem dX11_init_13 : decode cX11_init 13 = .ok (.aload_n 0, 1) := by decide +kernel
theorem dX11_init_14 : decode cX11_init 14 = .ok (.new 15, 3) := by decide +kernel
theorem dX11_init_17 : decode cX11_init 17 = .ok (.dup, 1) := by decide +kernel
theorem dX11_init_18 : decode cX11_init 18 = .ok (.invokespecial 17, 3) := by decide +kernel
theorem dX11_init_21 : decode cX11_init 21 = .ok (.putfield 18, 3) := by decide +kernel
theorem dX11_init_24 : decode cX11_init 24 = .ok (.aload_n 0, 1) := by decide +kernel
theorem dX11_init_25 : decode cX11_init 25 = .ok (.new 22, 3) := by decide +kernel
theorem dX11_init_28 : decode cX11_init 28 = .ok (.dup, 1) := by decide +kernel
theorem dX11_init_29 : decode cX11_init 29 = .ok (.invokespecial 24, 3) := by decide +kernel
theorem dX11_init_32 : decode cX11_init 32 = .ok (.putfield 25, 3) := by decide +kernel
theorem dX11_init_35 : decode cX11_init 35 = .ok (.aload_n 0, 1) := by decide +kernel
theorem dX11_init_36 : decode cX11_init 36 = .ok (.new 29, 3) := by decide +kernel
theorem dX11_init_39 : decode cX11_init 39 = .ok (.dup, 1) := by decide +kernel
theorem dX11_init_40 : decode cX11_init 40 = .ok (.invokespecial 31, 3) := by decide +kernel
theorem dX11_init_43 : decode cX11_init 43 = .ok (.putfield 32, 3) := by decide +kernel
theorem dX11_init_46 : decode cX11_init 46 = .ok (.aload_n 0, 1) := by decide +kernel
theorem dX11_init_47 : decode cX11_init 47 = .ok (.new 36, 3) := by decide +kernel
theorem dX11_init_50 : decode cX11_init 50 = .ok (.dup, 1) := by decide +kernel
theorem dX11_init_51 : decode cX11_init 51 = .ok (.aload_n 0, 1) := by decide +kernel
theorem dX11_init_52 : decode cX11_init 52 = .ok (.getfield 25, 3) := by decide +kernel
theorem dX11_init_55 : decode cX11_init 55 = .ok (.aload_n 0, 1) := by decide +kernel
theorem dX11_init_56 : decode cX11_init 56 = .ok (.getfield 32, 3) := by decide +kernel
theorem dX11_init_59 : decode cX11_init 59 = .ok (.invokespecial 38, 3) := by decide +kernel
theorem dX11_init_62 : decode cX11_init 62 = .ok (.putfield 41, 3) := by decide +kernel
theorem dX11_init_65 : decode cX11_init 65 = .ok (.aload_n 0, 1) := by decide +kernel
theorem dX11_init_66 : decode cX11_init 66 = .ok (.new 45, 3) := by decide +kernel
theorem dX11_init_69 : decode cX11_init 69 = .ok (.dup, 1) := by decide +kernel
theorem dX11_init_70 : decode cX11_init 70 = .ok (.aload_n 0, 1) := by decide +kernel
theorem dX11_init_71 : decode cX11_init 71 = .ok (.getfield 25, 3) := by decide +kernel
theorem dX11_init_74 : decode cX11_init 74 = .ok (.aload_n 0, 1) := by decide +kernel
theorem dX11_init_75 : decode cX11_init 75 = .ok (.getfield 32, 3) := by decide +kernel
theorem dX11_init_78 : decode cX11_init 78 = .ok (.invokespecial 47, 3) := by decide +kernel
theorem dX11_init_81 : decode cX11_init 81 = .ok (.putfield 48, 3) := by decide +kernel
theorem dX11_init_84 : decode cX11_init 84 = .ok (.aload_n 0, 1) := by decide +kernel
theorem dX11_init_85 : decode cX11_init 85 = .ok (.new 52, 3) := by decide +kernel
theorem dX11_init_88 : decode cX11_init 88 = .ok (.dup, 1) := by decide +kernel
theorem dX11_init_89 : decode cX11_init 89 = .ok (.aload_n 0, 1) := by decide +kernel
theorem dX11_init_90 : decode cX11_init 90 = .ok (.getfield 25, 3) := by decide +kernel
theorem dX11_init_93 : decode cX11_init 93 = .ok (.aload_n 0, 1) := by decide +kernel
theorem dX11_init_94 : decode cX11_init 94 = .ok (.getfield 41, 3) := by decide +kernel
theorem dX11_init_97 : decode cX11_init 97 = .ok (.invokespecial 54, 3) := by decide +kernel
theorem dX11_init_100 : decode cX11_init 100 = .ok (.putfield 57, 3) := by decide +kernel
theorem dX11_init_103 : decode cX11_init 103 = .ok (.aload_n 0, 1) := by decide +kernel
theorem dX11_init_104 : decode cX11_init 104 = .ok (.new 61, 3) := by decide +kernel
theorem dX11_init_107 : decode cX11_init 107 = .ok (.dup, 1) := by decide +kernel
theorem dX11_init_108 : decode cX11_init 108 = .ok (.invokespecial 63, 3) := by decide +kernel
theorem dX11_init_111 : decode cX11_init 111 = .ok (.putfield 64, 3) := by decide +kernel
theorem dX11_init_114 : decode cX11_init 114 = .ok (.aload_n 0, 1) := by decide +kernel
theorem dX11_init_115 : decode cX11_init 115 = .ok (.new 68, 3) := by decide +kernel
theorem dX11_init_118 : decode cX11_init 118 = .ok (.dup, 1) := by decide +kernel
theorem dX11_init_119 : decode cX11_init 119 = .ok (.aload_n 0, 1) := by decide +kernel
theorem dX11_init_120 : decode cX11_init 120 = .ok (.getfield 25, 3) := by decide +kernel
theorem dX11_init_123 : decode cX11_init 123 = .ok (.aload_n 0, 1) := by decide +kernel
theorem dX11_init_124 : decode cX11_init 124 = .ok (.getfield 64, 3) := by decide +kernel
theorem dX11_init_127 : decode cX11_init 127 = .ok (.invokespecial 70, 3) := by decide +kernel
theorem dX11_init_130 : decode cX11_init 130 = .ok (.putfield 73, 3) := by decide +kernel
theorem dX11_init_133 : decode cX11_init 133 = .ok (.aload_n 0, 1) := by decide +kernel
theorem dX11_init_134 : decode cX11_init 134 = .ok (.new 77, 3) := by decide +kernel
theorem dX11_init_137 : decode cX11_init 137 = .ok (.dup, 1) := by decide +kernel
theorem dX11_init_138 : decode cX11_init 138 = .ok (.invokespecial 79, 3) := by decide +kernel
theorem dX11_init_141 : decode cX11_init 141 = .ok (.putfield 80, 3) := by decide +kernel
theorem dX11_init_144 : decode cX11_init 144 = .ok (.return_, 1) := by decide +kernel
set_option maxRecDepth 20000 in
theorem ggX11_machine_X4_init : GoodIn wsX11_machine wsX4_init := goodIn_r _ [7, 8, 9, 10, 11, 12, 13, 14, 15, 16, 17, 18, 19, 20, 21, 39, 40, 41, 42, 43, 44] (by decide +kernel) (by decide +kernel)
set_option maxRecDepth 20000 in
theorem gX11_machine_X4_init : GoodIn wsX11_machine (wsX4_init) := ggX11_machine_X4_init
set_option maxRecDepth 20000 in
theorem ggX11_machine_X11_add : GoodIn wsX11_machine wsX11_add := goodIn_r _ [26, 1, 27, 28, 29, 30, 31, 32, 33, 34, 35, 36, 37, 38] (by decide +kernel) (by decide +kernel)
set_option maxRecDepth 20000 in
theorem gX11_machine_X11_add : GoodIn wsX11_machine (wsV RX11 91 RX11 yX11_add wsX11_add) := goodIn_app (goodIn_of _ (by decide +kernel)) ggX11_machine_X11_add
theorem dX11_machine_0 : decode cX11_machine 0 = .ok (.iload_n 1, 1) := by decide +kernel
theorem dX11_machine_1 : decode cX11_machine 1 = .ok (.iconst 1, 1) := by decide +kernel
theorem dX11_machine_2 : decode cX11_machine 2 = .ok (.if_icmp .lt 19, 3) := by decide +kernel
theorem dX11_machine_5 : decode cX11_machine 5 = .ok (.iload_n 1, 1) := by decide +kernel
theorem dX11_machine_6 : decode cX11_machine 6 = .ok (.bipush 12, 2) := by decide +kernel
theorem dX11_machine_8 : decode cX11_machine 8 = .ok (.if_icmp .gt 13, 3) := by decide +kernel
theorem dX11_machine_11 : decode cX11_machine 11 = .ok (.iload_n 2, 1) := by decide +kernel
theorem dX11_machine_12 : decode cX11_machine 12 = .ok (.iconst 1, 1) := by decide +kernel
theorem dX11_machine_13 : decode cX11_machine 13 = .ok (.if_icmp .lt 8, 3) := by decide +kernel
theorem dX11_machine_16 : decode cX11_machine 16 = .ok (.iload_n 2, 1) := by decide +kernel
theorem dX11_machine_17 : decode cX11_machine 17 = .ok (.iconst 4, 1) := by decide +kernel
theorem dX11_machine_18 : decode cX11_machine 18 = .ok (.if_icmp .le 6, 3) := by decide +kernel
theorem dX11_machine_21 : decode cX11_machine 21 = .ok (.bipush (-2), 2) := by decide +kernel
theorem dX11_machine_23 : decode cX11_machine 23 = .ok (.ireturn, 1) := by decide +kernel
theorem dX11_machine_24 : decode cX11_machine 24 = .ok (.aload_n 0, 1) := by decide +kernel
theorem dX11_machine_25 : decode cX11_machine 25 = .ok (.getfield 84, 3) := by decide +kernel
theorem dX11_machine_28 : decode cX11_machine 28 = .ok (.bipush 6, 2) := by decide +kernel
theorem dX11_machine_30 : decode cX11_machine 30 = .ok (.if_icmp .lt 8, 3) := by decide +kernel
theorem dX11_machine_33 : decode cX11_machine 33 = .ok (.bipush (-4), 2) := by decide +kernel
theorem dX11_machine_35 : decode cX11_machine 35 = .ok (.goto 16, 3) := by decide +kernel
theorem dX11_machine_38 : decode cX11_machine 38 = .ok (.aload_n 0, 1) := by decide +kernel
theorem dX11_machine_39 : decode cX11_machine 39 = .ok (.new 9, 3) := by decide +kernel
theorem dX11_machine_42 : decode cX11_machine 42 = .ok (.dup, 1) := by decide +kernel
theorem dX11_machine_43 : decode cX11_machine 43 = .ok (.iload_n 1, 1) := by decide +kernel
theorem dX11_machine_44 : decode cX11_machine 44 = .ok (.iload_n 2, 1) := by decide +kernel
theorem dX11_machine_45 : decode cX11_machine 45 = .ok (.invokespecial 88, 3) := by decide +kernel
theorem dX11_machine_48 : decode cX11_machine 48 = .ok (.invokevirtual 91, 3) := by decide +kernel
theorem dX11_machine_51 : decode cX11_machine 51 = .ok (.ireturn, 1) := by decide +kernel
set_option maxRecDepth 20000 in
theorem ggX11_ring_X4_init : GoodIn wsX11_ring wsX4_init := goodIn_r _ [7, 8, 9, 10, 11, 12, 13, 14, 15, 16, 17, 18, 19, 20, 21, 51, 52, 53, 54, 55, 56] (by decide +kernel) (by decide +kernel)
set_option maxRecDepth 20000 in
theorem gX11_ring_X4_init : GoodIn wsX11_ring (wsX4_init) := ggX11_ring_X4_init
set_option maxRecDepth 20000 in
theorem ggX11_ring_X4_lead : GoodIn wsX11_ring wsX4_lead := goodIn_r _ [25, 12, 26, 27, 28, 4, 29, 16, 30, 31, 32, 33, 17, 51, 52, 53, 54, 55, 56] (by decide +kernel) (by decide +kernel)
set_option maxRecDepth 20000 in
theorem gX11_ring_X4_lead : GoodIn wsX11_ring (wsV RX11 95 RX4 yX4_lead wsX4_lead) := goodIn_app (goodIn_of _ (by decide +kernel)) ggX11_ring_X4_lead
set_option maxRecDepth 20000 in
theorem ggX11_ring_X11_add : GoodIn wsX11_ring wsX11_add := goodIn_r _ [38, 1, 39, 40, 41, 42, 43, 44, 45, 46, 47, 48, 49, 50] (by decide +kernel) (by decide +kernel)
set_option maxRecDepth 20000 in
theorem gX11_ring_X11_add : GoodIn wsX11_ring (wsV RX11 91 RX11 yX11_add wsX11_add) := goodIn_app (goodIn_of _ (by decide +kernel)) ggX11_ring_X11_add
theorem dX11_ring_0 : decode cX11_ring 0 = .ok (.iload_n 1, 1) := by decide +kernel
theorem dX11_ring_1 : decode cX11_ring 1 = .ok (.iconst 2, 1) := by decide +kernel
theorem dX11_ring_2 : decode cX11_ring 2 = .ok (.if_icmp .lt 9, 3) := by decide +kernel
theorem dX11_ring_5 : decode cX11_ring 5 = .ok (.iload_n 1, 1) := by decide +kernel
theorem dX11_ring_6 : decode cX11_ring 6 = .ok (.bipush 12, 2) := by decide +kernel
theorem dX11_ring_8 : decode cX11_ring 8 = .ok (.if_icmp .le 6, 3) := by decide +kernel
theorem dX11_ring_11 : decode cX11_ring 11 = .ok (.bipush (-2), 2) := by decide +kernel
theorem dX11_ring_13 : decode cX11_ring 13 = .ok (.ireturn, 1) := by decide +kernel
theorem dX11_ring_14 : decode cX11_ring 14 = .ok (.aload_n 0, 1) := by decide +kernel
theorem dX11_ring_15 : decode cX11_ring 15 = .ok (.getfield 84, 3) := by decide +kernel
theorem dX11_ring_18 : decode cX11_ring 18 = .ok (.bipush 6, 2) := by decide +kernel
theorem dX11_ring_20 : decode cX11_ring 20 = .ok (.if_icmp .lt 6, 3) := by decide +kernel
theorem dX11_ring_23 : decode cX11_ring 23 = .ok (.bipush (-4), 2) := by decide +kernel
theorem dX11_ring_25 : decode cX11_ring 25 = .ok (.ireturn, 1) := by decide +kernel
theorem dX11_ring_26 : decode cX11_ring 26 = .ok (.new 9, 3) := by decide +kernel
theorem dX11_ring_29 : decode cX11_ring 29 = .ok (.dup, 1) := by decide +kernel
theorem dX11_ring_30 : decode cX11_ring 30 = .ok (.iload_n 1, 1) := by decide +kernel
theorem dX11_ring_31 : decode cX11_ring 31 = .ok (.iconst 2, 1) := by decide +kernel
theorem dX11_ring_32 : decode cX11_ring 32 = .ok (.invokespecial 88, 3) := by decide +kernel
theorem dX11_ring_35 : decode cX11_ring 35 = .ok (.astore_n 2, 1) := by decide +kernel
theorem dX11_ring_36 : decode cX11_ring 36 = .ok (.iconst 0, 1) := by decide +kernel
theorem dX11_ring_37 : decode cX11_ring 37 = .ok (.istore_n 3, 1) := by decide +kernel
theorem dX11_ring_38 : decode cX11_ring 38 = .ok (.iload_n 3, 1) := by decide +kernel
theorem dX11_ring_39 : decode cX11_ring 39 = .ok (.iload_n 1, 1) := by decide +kernel
theorem dX11_ring_40 : decode cX11_ring 40 = .ok (.if_icmp .ge 57, 3) := by decide +kernel
theorem dX11_ring_43 : decode cX11_ring 43 = .ok (.iload_n 3, 1) := by decide +kernel
theorem dX11_ring_44 : decode cX11_ring 44 = .ok (.iload_n 1, 1) := by decide +kernel
theorem dX11_ring_45 : decode cX11_ring 45 = .ok (.iconst 1, 1) := by decide +kernel
theorem dX11_ring_46 : decode cX11_ring 46 = .ok (.isub, 1) := by decide +kernel
theorem dX11_ring_47 : decode cX11_ring 47 = .ok (.if_icmp .ne 7, 3) := by decide +kernel
theorem dX11_ring_50 : decode cX11_ring 50 = .ok (.iconst 1, 1) := by decide +kernel
theorem dX11_ring_51 : decode cX11_ring 51 = .ok (.goto 4, 3) := by decide +kernel
theorem dX11_ring_54 : decode cX11_ring 54 = .ok (.iconst 0, 1) := by decide +kernel
theorem dX11_ring_55 : decode cX11_ring 55 = .ok (.istore 4, 2) := by decide +kernel
theorem dX11_ring_57 : decode cX11_ring 57 = .ok (.aload_n 2, 1) := by decide +kernel
theorem dX11_ring_58 : decode cX11_ring 58 = .ok (.iload_n 3, 1) := by decide +kernel
theorem dX11_ring_59 : decode cX11_ring 59 = .ok (.iconst 0, 1) := by decide +kernel
theorem dX11_ring_60 : decode cX11_ring 60 = .ok (.iload 4, 2) := by decide +kernel
theorem dX11_ring_62 : decode cX11_ring 62 = .ok (.ifCond .eq 7, 3) := by decide +kernel
theorem dX11_ring_65 : decode cX11_ring 65 = .ok (.iconst 0, 1) := by decide +kernel
theorem dX11_ring_66 : decode cX11_ring 66 = .ok (.goto 6, 3) := by decide +kernel
theorem dX11_ring_69 : decode cX11_ring 69 = .ok (.iload_n 3, 1) := by decide +kernel
theorem dX11_ring_70 : decode cX11_ring 70 = .ok (.iconst 1, 1) := by decide +kernel
theorem dX11_ring_71 : decode cX11_ring 71 = .ok (.iadd, 1) := by decide +kernel
theorem dX11_ring_72 : decode cX11_ring 72 = .ok (.invokevirtual 95, 3) := by decide +kernel
theorem dX11_ring_75 : decode cX11_ring 75 = .ok (.aload_n 2, 1) := by decide +kernel
theorem dX11_ring_76 : decode cX11_ring 76 = .ok (.iload_n 3, 1) := by decide +kernel
theorem dX11_ring_77 : decode cX11_ring 77 = .ok (.iconst 1, 1) := by decide +kernel
theorem dX11_ring_78 : decode cX11_ring 78 = .ok (.iload 4, 2) := by decide +kernel
theorem dX11_ring_80 : decode cX11_ring 80 = .ok (.ifCond .eq 7, 3) := by decide +kernel
theorem dX11_ring_83 : decode cX11_ring 83 = .ok (.iconst 0, 1) := by decide +kernel
theorem dX11_ring_84 : decode cX11_ring 84 = .ok (.goto 4, 3) := by decide +kernel
theorem dX11_ring_87 : decode cX11_ring 87 = .ok (.iload_n 3, 1) := by decide +kernel
theorem dX11_ring_88 : decode cX11_ring 88 = .ok (.invokevirtual 95, 3) := by decide +kernel
theorem dX11_ring_91 : decode cX11_ring 91 = .ok (.iinc 3 1, 3) := by decide +kernel
theorem dX11_ring_94 : decode cX11_ring 94 = .ok (.goto (-56), 3) := by decide +kernel
theorem dX11_ring_97 : decode cX11_ring 97 = .ok (.aload_n 0, 1) := by decide +kernel
theorem dX11_ring_98 : decode cX11_ring 98 = .ok (.aload_n 2, 1) := by decide +kernel
theorem dX11_ring_99 : decode cX11_ring 99 = .ok (.invokevirtual 91, 3) := by decide +kernel
theorem dX11_ring_102 : decode cX11_ring 102 = .ok (.ireturn, 1) := by decide +kernel
set_option maxRecDepth 20000 in
theorem ggX11_move_X11_machineAt : GoodIn wsX11_move wsX11_machineAt := goodIn_r _ [5, 6, 7, 30, 31, 32, 33, 34, 35, 36, 37, 38, 39, 40] (by decide +kernel) (by decide +kernel)
set_option maxRecDepth 20000 in
theorem gX11_move_X11_machineAt : GoodIn wsX11_move (wsV RX11 99 RX11 yX11_machineAt wsX11_machineAt) := goodIn_app (goodIn_of _ (by decide +kernel)) ggX11_move_X11_machineAt
set_option maxRecDepth 20000 in
theorem ggX11_move_X4_hasState : GoodIn wsX11_move wsX4_hasState := goodIn_r _ [12, 13, 41, 42, 43, 44, 45, 46] (by decide +kernel) (by decide +kernel)
set_option maxRecDepth 20000 in
theorem gX11_move_X4_hasState : GoodIn wsX11_move (wsV RX11 103 RX4 yX4_hasState wsX4_hasState) := goodIn_app (goodIn_of _ (by decide +kernel)) ggX11_move_X4_hasState
set_option maxRecDepth 20000 in
theorem ggX11_move_X4_hasLetter : GoodIn wsX11_move wsX4_hasLetter := goodIn_r _ [17, 18, 41, 42, 43, 44, 45, 46] (by decide +kernel) (by decide +kernel)
set_option maxRecDepth 20000 in
theorem gX11_move_X4_hasLetter : GoodIn wsX11_move (wsV RX11 107 RX4 yX4_hasLetter wsX4_hasLetter) := goodIn_app (goodIn_of _ (by decide +kernel)) ggX11_move_X4_hasLetter
set_option maxRecDepth 20000 in
theorem ggX11_move_X4_target : GoodIn wsX11_move wsX4_target := goodIn_r _ [22, 13, 18, 23, 41, 42, 43, 44, 45, 46] (by decide +kernel) (by decide +kernel)
set_option maxRecDepth 20000 in
theorem gX11_move_X4_target : GoodIn wsX11_move (wsV RX11 110 RX4 yX4_target wsX4_target) := goodIn_app (goodIn_of _ (by decide +kernel)) ggX11_move_X4_target
set_option maxRecDepth 20000 in
theorem ggX11_move_X4_lead : GoodIn wsX11_move wsX4_lead := goodIn_r _ [27, 23, 28, 9, 10, 11, 12, 13, 29, 15, 16, 17, 18, 41, 42, 43, 44, 45, 46] (by decide +kernel) (by decide +kernel)
set_option maxRecDepth 20000 in
theorem gX11_move_X4_lead : GoodIn wsX11_move (wsV RX11 95 RX4 yX4_lead wsX4_lead) := goodIn_app (goodIn_of _ (by decide +kernel)) ggX11_move_X4_lead
theorem dX11_move_0 : decode cX11_move 0 = .ok (.aload_n 0, 1) := by decide +kernel
theorem dX11_move_1 : decode cX11_move 1 = .ok (.iload_n 1, 1) := by decide +kernel
theorem dX11_move_2 : decode cX11_move 2 = .ok (.invokevirtual 99, 3) := by decide +kernel
theorem dX11_move_5 : decode cX11_move 5 = .ok (.astore 5, 2) := by decide +kernel
theorem dX11_move_7 : decode cX11_move 7 = .ok (.aload 5, 2) := by decide +kernel
theorem dX11_move_9 : decode cX11_move 9 = .ok (.ifnull 37, 3) := by decide +kernel
theorem dX11_move_12 : decode cX11_move 12 = .ok (.aload 5, 2) := by decide +kernel
theorem dX11_move_14 : decode cX11_move 14 = .ok (.iload_n 2, 1) := by decide +kernel
theorem dX11_move_15 : decode cX11_move 15 = .ok (.invokevirtual 103, 3) := by decide +kernel
theorem dX11_move_18 : decode cX11_move 18 = .ok (.ifCond .eq 28, 3) := by decide +kernel
theorem dX11_move_21 : decode cX11_move 21 = .ok (.aload 5, 2) := by decide +kernel
theorem dX11_move_23 : decode cX11_move 23 = .ok (.iload_n 3, 1) := by decide +kernel
theorem dX11_move_24 : decode cX11_move 24 = .ok (.invokevirtual 107, 3) := by decide +kernel
theorem dX11_move_27 : decode cX11_move 27 = .ok (.ifCond .eq 19, 3) := by decide +kernel
theorem dX11_move_30 : decode cX11_move 30 = .ok (.iload 4, 2) := by decide +kernel
theorem dX11_move_32 : decode cX11_move 32 = .ok (.iconst (-1), 1) := by decide +kernel
theorem dX11_move_33 : decode cX11_move 33 = .ok (.if_icmp .eq 16, 3) := by decide +kernel
theorem dX11_move_36 : decode cX11_move 36 = .ok (.aload 5, 2) := by decide +kernel
theorem dX11_move_38 : decode cX11_move 38 = .ok (.iload 4, 2) := by decide +kernel
theorem dX11_move_40 : decode cX11_move 40 = .ok (.invokevirtual 103, 3) := by decide +kernel
theorem dX11_move_43 : decode cX11_move 43 = .ok (.ifCond .ne 6, 3) := by decide +kernel
theorem dX11_move_46 : decode cX11_move 46 = .ok (.bipush (-2), 2) := by decide +kernel
theorem dX11_move_48 : decode cX11_move 48 = .ok (.ireturn, 1) := by decide +kernel
theorem dX11_move_49 : decode cX11_move 49 = .ok (.aload 5, 2) := by decide +kernel
theorem dX11_move_51 : decode cX11_move 51 = .ok (.iload_n 2, 1) := by decide +kernel
theorem dX11_move_52 : decode cX11_move 52 = .ok (.iload_n 3, 1) := by decide +kernel
theorem dX11_move_53 : decode cX11_move 53 = .ok (.invokevirtual 110, 3) := by decide +kernel
theorem dX11_move_56 : decode cX11_move 56 = .ok (.istore 6, 2) := by decide +kernel
theorem dX11_move_58 : decode cX11_move 58 = .ok (.aload 5, 2) := by decide +kernel
theorem dX11_move_60 : decode cX11_move 60 = .ok (.iload_n 2, 1) := by decide +kernel
theorem dX11_move_61 : decode cX11_move 61 = .ok (.iload_n 3, 1) := by decide +kernel
theorem dX11_move_62 : decode cX11_move 62 = .ok (.iload 4, 2) := by decide +kernel
theorem dX11_move_64 : decode cX11_move 64 = .ok (.invokevirtual 95, 3) := by decide +kernel
theorem dX11_move_67 : decode cX11_move 67 = .ok (.iload 6, 2) := by decide +kernel
theorem dX11_move_69 : decode cX11_move 69 = .ok (.ireturn, 1) := by decide +kernel
set_option maxRecDepth 20000 in
theorem ggX11_light_X11_machineAt : GoodIn wsX11_light wsX11_machineAt := goodIn_r _ [5, 6, 7, 24, 25, 26, 27, 28, 29, 30, 31, 32, 33, 34] (by decide +kernel) (by decide +kernel)
set_option maxRecDepth 20000 in
theorem gX11_light_X11_machineAt : GoodIn wsX11_light (wsV RX11 99 RX11 yX11_machineAt wsX11_machineAt) := goodIn_app (goodIn_of _ (by decide +kernel)) ggX11_light_X11_machineAt
set_option maxRecDepth 20000 in
theorem ggX11_light_X4_hasState : GoodIn wsX11_light wsX4_hasState := goodIn_r _ [12, 13, 35, 36, 37, 38, 39, 40] (by decide +kernel) (by decide +kernel)
set_option maxRecDepth 20000 in
theorem gX11_light_X4_hasState : GoodIn wsX11_light (wsV RX11 103 RX4 yX4_hasState wsX4_hasState) := goodIn_app (goodIn_of _ (by decide +kernel)) ggX11_light_X4_hasState
set_option maxRecDepth 20000 in
theorem ggX11_light_X4_putLight : GoodIn wsX11_light wsX4_putLight := goodIn_r _ [17, 18, 19, 20, 21, 11, 22, 23, 9, 10, 12, 13, 35, 36, 37, 38, 39, 40] (by decide +kernel) (by decide +kernel)
set_option maxRecDepth 20000 in
theorem gX11_light_X4_putLight : GoodIn wsX11_light (wsV RX11 114 RX4 yX4_putLight wsX4_putLight) := goodIn_app (goodIn_of _ (by decide +kernel)) ggX11_light_X4_putLight
theorem dX11_light_0 : decode cX11_light 0 = .ok (.aload_n 0, 1) := by decide +kernel
theorem dX11_light_1 : decode cX11_light 1 = .ok (.iload_n 1, 1) := by decide +kernel
theorem dX11_light_2 : decode cX11_light 2 = .ok (.invokevirtual 99, 3) := by decide +kernel
theorem dX11_light_5 : decode cX11_light 5 = .ok (.astore 4, 2) := by decide +kernel
theorem dX11_light_7 : decode cX11_light 7 = .ok (.aload 4, 2) := by decide +kernel
theorem dX11_light_9 : decode cX11_light 9 = .ok (.ifnull 21, 3) := by decide +kernel
theorem dX11_light_12 : decode cX11_light 12 = .ok (.aload 4, 2) := by decide +kernel
theorem dX11_light_14 : decode cX11_light 14 = .ok (.iload_n 2, 1) := by decide +kernel
theorem dX11_light_15 : decode cX11_light 15 = .ok (.invokevirtual 103, 3) := by decide +kernel
theorem dX11_light_18 : decode cX11_light 18 = .ok (.ifCond .eq 12, 3) := by decide +kernel
theorem dX11_light_21 : decode cX11_light 21 = .ok (.iload_n 3, 1) := by decide +kernel
theorem dX11_light_22 : decode cX11_light 22 = .ok (.ifCond .lt 8, 3) := by decide +kernel
theorem dX11_light_25 : decode cX11_light 25 = .ok (.iload_n 3, 1) := by decide +kernel
theorem dX11_light_26 : decode cX11_light 26 = .ok (.iconst 3, 1) := by decide +kernel
theorem dX11_light_27 : decode cX11_light 27 = .ok (.if_icmp .le 6, 3) := by decide +kernel
theorem dX11_light_30 : decode cX11_light 30 = .ok (.bipush (-2), 2) := by decide +kernel
theorem dX11_light_32 : decode cX11_light 32 = .ok (.ireturn, 1) := by decide +kernel
theorem dX11_light_33 : decode cX11_light 33 = .ok (.aload 4, 2) := by decide +kernel
theorem dX11_light_35 : decode cX11_light 35 = .ok (.iload_n 2, 1) := by decide +kernel
theorem dX11_light_36 : decode cX11_light 36 = .ok (.iload_n 3, 1) := by decide +kernel
theorem dX11_light_37 : decode cX11_light 37 = .ok (.invokevirtual 114, 3) := by decide +kernel
theorem dX11_light_40 : decode cX11_light 40 = .ok (.ireturn, 1) := by decide +kernel
set_option maxRecDepth 20000 in
theorem ggX11_price_X11_machineAt : GoodIn wsX11_price wsX11_machineAt := goodIn_r _ [5, 6, 7, 24, 25, 26, 27, 28, 29, 30, 31, 32, 33, 34] (by decide +kernel) (by decide +kernel)
set_option maxRecDepth 20000 in
theorem gX11_price_X11_machineAt : GoodIn wsX11_price (wsV RX11 99 RX11 yX11_machineAt wsX11_machineAt) := goodIn_app (goodIn_of _ (by decide +kernel)) ggX11_price_X11_machineAt
set_option maxRecDepth 20000 in
theorem ggX11_price_X4_hasLetter : GoodIn wsX11_price wsX4_hasLetter := goodIn_r _ [12, 13, 35, 36, 37, 38, 39, 40] (by decide +kernel) (by decide +kernel)
set_option maxRecDepth 20000 in
theorem gX11_price_X4_hasLetter : GoodIn wsX11_price (wsV RX11 107 RX4 yX4_hasLetter wsX4_hasLetter) := goodIn_app (goodIn_of _ (by decide +kernel)) ggX11_price_X4_hasLetter
set_option maxRecDepth 20000 in
theorem ggX11_price_X4_putPrice : GoodIn wsX11_price wsX4_putPrice := goodIn_r _ [17, 18, 19, 20, 21, 11, 22, 23, 9, 10, 12, 13, 35, 36, 37, 38, 39, 40] (by decide +kernel) (by decide +kernel)
set_option maxRecDepth 20000 in
theorem gX11_price_X4_putPrice : GoodIn wsX11_price (wsV RX11 117 RX4 yX4_putPrice wsX4_putPrice) := goodIn_app (goodIn_of _ (by decide +kernel)) ggX11_price_X4_putPrice
theorem dX11_price_0 : decode cX11_price 0 = .ok (.aload_n 0, 1) := by decide +kernel
theorem dX11_price_1 : decode cX11_price 1 = .ok (.iload_n 1, 1) := by decide +kernel
theorem dX11_price_2 : decode cX11_price 2 = .ok (.invokevirtual 99, 3) := by decide +kernel
theorem dX11_price_5 : decode cX11_price 5 = .ok (.astore 4, 2) := by decide +kernel
theorem dX11_price_7 : decode cX11_price 7 = .ok (.aload 4, 2) := by decide +kernel
theorem dX11_price_9 : decode cX11_price 9 = .ok (.ifnull 23, 3) := by decide +kernel
theorem dX11_price_12 : decode cX11_price 12 = .ok (.aload 4, 2) := by decide +kernel
theorem dX11_price_14 : decode cX11_price 14 = .ok (.iload_n 2, 1) := by decide +kernel
theorem dX11_price_15 : decode cX11_price 15 = .ok (.invokevirtual 107, 3) := by decide +kernel
theorem dX11_price_18 : decode cX11_price 18 = .ok (.ifCond .eq 14, 3) := by decide +kernel
theorem dX11_price_21 : decode cX11_price 21 = .ok (.iload_n 3, 1) := by decide +kernel
theorem dX11_price_22 : decode cX11_price 22 = .ok (.iconst 1, 1) := by decide +kernel
theorem dX11_price_23 : decode cX11_price 23 = .ok (.if_icmp .lt 9, 3) := by decide +kernel
theorem dX11_price_26 : decode cX11_price 26 = .ok (.iload_n 3, 1) := by decide +kernel
theorem dX11_price_27 : decode cX11_price 27 = .ok (.bipush 20, 2) := by decide +kernel
theorem dX11_price_29 : decode cX11_price 29 = .ok (.if_icmp .le 6, 3) := by decide +kernel
theorem dX11_price_32 : decode cX11_price 32 = .ok (.bipush (-2), 2) := by decide +kernel
theorem dX11_price_34 : decode cX11_price 34 = .ok (.ireturn, 1) := by decide +kernel
theorem dX11_price_35 : decode cX11_price 35 = .ok (.aload 4, 2) := by decide +kernel
theorem dX11_price_37 : decode cX11_price 37 = .ok (.iload_n 2, 1) := by decide +kernel
theorem dX11_price_38 : decode cX11_price 38 = .ok (.iload_n 3, 1) := by decide +kernel
theorem dX11_price_39 : decode cX11_price 39 = .ok (.invokevirtual 117, 3) := by decide +kernel
theorem dX11_price_42 : decode cX11_price 42 = .ok (.ireturn, 1) := by decide +kernel
set_option maxRecDepth 20000 in
theorem ggX11_share_X11_machineAt : GoodIn wsX11_share wsX11_machineAt := goodIn_r _ [5, 6, 7, 24, 25, 26, 27, 28, 29, 30, 31, 32, 33, 34] (by decide +kernel) (by decide +kernel)
set_option maxRecDepth 20000 in
theorem gX11_share_X11_machineAt : GoodIn wsX11_share (wsV RX11 99 RX11 yX11_machineAt wsX11_machineAt) := goodIn_app (goodIn_of _ (by decide +kernel)) ggX11_share_X11_machineAt
set_option maxRecDepth 20000 in
theorem ggX11_share_X4_hasLetter : GoodIn wsX11_share wsX4_hasLetter := goodIn_r _ [12, 13, 35, 36, 37, 38, 39, 40] (by decide +kernel) (by decide +kernel)
set_option maxRecDepth 20000 in
theorem gX11_share_X4_hasLetter : GoodIn wsX11_share (wsV RX11 107 RX4 yX4_hasLetter wsX4_hasLetter) := goodIn_app (goodIn_of _ (by decide +kernel)) ggX11_share_X4_hasLetter
set_option maxRecDepth 20000 in
theorem ggX11_share_X4_putShare : GoodIn wsX11_share wsX4_putShare := goodIn_r _ [17, 18, 19, 20, 21, 11, 22, 23, 9, 10, 12, 13, 35, 36, 37, 38, 39, 40] (by decide +kernel) (by decide +kernel)
set_option maxRecDepth 20000 in
theorem gX11_share_X4_putShare : GoodIn wsX11_share (wsV RX11 120 RX4 yX4_putShare wsX4_putShare) := goodIn_app (goodIn_of _ (by decide +kernel)) ggX11_share_X4_putShare
theorem dX11_share_0 : decode cX11_share 0 = .ok (.aload_n 0, 1) := by decide +kernel
theorem dX11_share_1 : decode cX11_share 1 = .ok (.iload_n 1, 1) := by decide +kernel
theorem dX11_share_2 : decode cX11_share 2 = .ok (.invokevirtual 99, 3) := by decide +kernel
theorem dX11_share_5 : decode cX11_share 5 = .ok (.astore 4, 2) := by decide +kernel
theorem dX11_share_7 : decode cX11_share 7 = .ok (.aload 4, 2) := by decide +kernel
theorem dX11_share_9 : decode cX11_share 9 = .ok (.ifnull 21, 3) := by decide +kernel
theorem dX11_share_12 : decode cX11_share 12 = .ok (.aload 4, 2) := by decide +kernel
theorem dX11_share_14 : decode cX11_share 14 = .ok (.iload_n 2, 1) := by decide +kernel
theorem dX11_share_15 : decode cX11_share 15 = .ok (.invokevirtual 107, 3) := by decide +kernel
theorem dX11_share_18 : decode cX11_share 18 = .ok (.ifCond .eq 12, 3) := by decide +kernel
theorem dX11_share_21 : decode cX11_share 21 = .ok (.iload_n 3, 1) := by decide +kernel
theorem dX11_share_22 : decode cX11_share 22 = .ok (.ifCond .lt 8, 3) := by decide +kernel
theorem dX11_share_25 : decode cX11_share 25 = .ok (.iload_n 3, 1) := by decide +kernel
theorem dX11_share_26 : decode cX11_share 26 = .ok (.iconst 5, 1) := by decide +kernel
theorem dX11_share_27 : decode cX11_share 27 = .ok (.if_icmp .le 6, 3) := by decide +kernel
theorem dX11_share_30 : decode cX11_share 30 = .ok (.bipush (-2), 2) := by decide +kernel
theorem dX11_share_32 : decode cX11_share 32 = .ok (.ireturn, 1) := by decide +kernel
theorem dX11_share_33 : decode cX11_share 33 = .ok (.aload 4, 2) := by decide +kernel
theorem dX11_share_35 : decode cX11_share 35 = .ok (.iload_n 2, 1) := by decide +kernel
theorem dX11_share_36 : decode cX11_share 36 = .ok (.iload_n 3, 1) := by decide +kernel
theorem dX11_share_37 : decode cX11_share 37 = .ok (.invokevirtual 120, 3) := by decide +kernel
theorem dX11_share_40 : decode cX11_share 40 = .ok (.ireturn, 1) := by decide +kernel
set_option maxRecDepth 20000 in
theorem ggX11_about_X11_machineAt : GoodIn wsX11_about wsX11_machineAt := goodIn_r _ [5, 6, 7, 31, 32, 33, 34, 35, 36, 37, 38, 39, 40, 41] (by decide +kernel) (by decide +kernel)
set_option maxRecDepth 20000 in
theorem gX11_about_X11_machineAt : GoodIn wsX11_about (wsV RX11 99 RX11 yX11_machineAt wsX11_machineAt) := goodIn_app (goodIn_of _ (by decide +kernel)) ggX11_about_X11_machineAt
set_option maxRecDepth 20000 in
theorem ggX11_about_X11_fact : GoodIn wsX11_about wsX11_fact := goodIn_r _ [10, 11, 12, 13, 14, 15, 16, 17, 18, 19, 20, 21, 22, 23, 24, 25, 26, 27, 28, 29, 30, 42, 43, 44, 45, 46, 47] (by decide +kernel) (by decide +kernel)
set_option maxRecDepth 20000 in
theorem gX11_about_X11_fact : GoodIn wsX11_about (va_wsS RX11 123 yX11_fact wsX11_fact) := goodIn_app (goodIn_of _ (by decide +kernel)) ggX11_about_X11_fact
theorem dX11_about_0 : decode cX11_about 0 = .ok (.aload_n 0, 1) := by decide +kernel
theorem dX11_about_1 : decode cX11_about 1 = .ok (.iload_n 1, 1) := by decide +kernel
theorem dX11_about_2 : decode cX11_about 2 = .ok (.invokevirtual 99, 3) := by decide +kernel
theorem dX11_about_5 : decode cX11_about 5 = .ok (.astore_n 3, 1) := by decide +kernel
theorem dX11_about_6 : decode cX11_about 6 = .ok (.aload_n 3, 1) := by decide +kernel
theorem dX11_about_7 : decode cX11_about 7 = .ok (.ifnull 12, 3) := by decide +kernel
theorem dX11_about_10 : decode cX11_about 10 = .ok (.iload_n 2, 1) := by decide +kernel
theorem dX11_about_11 : decode cX11_about 11 = .ok (.ifCond .lt 8, 3) := by decide +kernel
theorem dX11_about_14 : decode cX11_about 14 = .ok (.iload_n 2, 1) := by decide +kernel
theorem dX11_about_15 : decode cX11_about 15 = .ok (.iconst 2, 1) := by decide +kernel
theorem dX11_about_16 : decode cX11_about 16 = .ok (.if_icmp .le 6, 3) := by decide +kernel
theorem dX11_about_19 : decode cX11_about 19 = .ok (.bipush (-2), 2) := by decide +kernel
theorem dX11_about_21 : decode cX11_about 21 = .ok (.ireturn, 1) := by decide +kernel
theorem dX11_about_22 : decode cX11_about 22 = .ok (.aload_n 3, 1) := by decide +kernel
theorem dX11_about_23 : decode cX11_about 23 = .ok (.iload_n 2, 1) := by decide +kernel
theorem dX11_about_24 : decode cX11_about 24 = .ok (.invokestatic 123, 3) := by decide +kernel
theorem dX11_about_27 : decode cX11_about 27 = .ok (.ireturn, 1) := by decide +kernel
set_option maxRecDepth 20000 in
theorem ggX11_moveOf_X11_machineAt : GoodIn wsX11_moveOf wsX11_machineAt := goodIn_r _ [5, 6, 7, 24, 25, 26, 27, 28, 29, 30, 31, 32, 33, 34] (by decide +kernel) (by decide +kernel)
set_option maxRecDepth 20000 in
theorem gX11_moveOf_X11_machineAt : GoodIn wsX11_moveOf (wsV RX11 99 RX11 yX11_machineAt wsX11_machineAt) := goodIn_app (goodIn_of _ (by decide +kernel)) ggX11_moveOf_X11_machineAt
set_option maxRecDepth 20000 in
theorem ggX11_moveOf_X4_hasState : GoodIn wsX11_moveOf wsX4_hasState := goodIn_r _ [12, 13, 35, 36, 37, 38, 39, 40] (by decide +kernel) (by decide +kernel)
set_option maxRecDepth 20000 in
theorem gX11_moveOf_X4_hasState : GoodIn wsX11_moveOf (wsV RX11 103 RX4 yX4_hasState wsX4_hasState) := goodIn_app (goodIn_of _ (by decide +kernel)) ggX11_moveOf_X4_hasState
set_option maxRecDepth 20000 in
theorem ggX11_moveOf_X4_hasLetter : GoodIn wsX11_moveOf wsX4_hasLetter := goodIn_r _ [17, 18, 35, 36, 37, 38, 39, 40] (by decide +kernel) (by decide +kernel)
set_option maxRecDepth 20000 in
theorem gX11_moveOf_X4_hasLetter : GoodIn wsX11_moveOf (wsV RX11 107 RX4 yX4_hasLetter wsX4_hasLetter) := goodIn_app (goodIn_of _ (by decide +kernel)) ggX11_moveOf_X4_hasLetter
set_option maxRecDepth 20000 in
theorem ggX11_moveOf_X4_target : GoodIn wsX11_moveOf wsX4_target := goodIn_r _ [22, 13, 18, 23, 35, 36, 37, 38, 39, 40] (by decide +kernel) (by decide +kernel)
set_option maxRecDepth 20000 in
theorem gX11_moveOf_X4_target : GoodIn wsX11_moveOf (wsV RX11 110 RX4 yX4_target wsX4_target) := goodIn_app (goodIn_of _ (by decide +kernel)) ggX11_moveOf_X4_target
theorem dX11_moveOf_0 : decode cX11_moveOf 0 = .ok (.aload_n 0, 1) := by decide +kernel
theorem dX11_moveOf_1 : decode cX11_moveOf 1 = .ok (.iload_n 1, 1) := by decide +kernel
theorem dX11_moveOf_2 : decode cX11_moveOf 2 = .ok (.invokevirtual 99, 3) := by decide +kernel
theorem dX11_moveOf_5 : decode cX11_moveOf 5 = .ok (.astore 4, 2) := by decide +kernel
theorem dX11_moveOf_7 : decode cX11_moveOf 7 = .ok (.aload 4, 2) := by decide +kernel
theorem dX11_moveOf_9 : decode cX11_moveOf 9 = .ok (.ifnull 21, 3) := by decide +kernel
theorem dX11_moveOf_12 : decode cX11_moveOf 12 = .ok (.aload 4, 2) := by decide +kernel
theorem dX11_moveOf_14 : decode cX11_moveOf 14 = .ok (.iload_n 2, 1) := by decide +kernel
theorem dX11_moveOf_15 : decode cX11_moveOf 15 = .ok (.invokevirtual 103, 3) := by decide +kernel
theorem dX11_moveOf_18 : decode cX11_moveOf 18 = .ok (.ifCond .eq 12, 3) := by decide +kernel
theorem dX11_moveOf_21 : decode cX11_moveOf 21 = .ok (.aload 4, 2) := by decide +kernel
theorem dX11_moveOf_23 : decode cX11_moveOf 23 = .ok (.iload_n 3, 1) := by decide +kernel
theorem dX11_moveOf_24 : decode cX11_moveOf 24 = .ok (.invokevirtual 107, 3) := by decide +kernel
theorem dX11_moveOf_27 : decode cX11_moveOf 27 = .ok (.ifCond .ne 6, 3) := by decide +kernel
theorem dX11_moveOf_30 : decode cX11_moveOf 30 = .ok (.bipush (-2), 2) := by decide +kernel
theorem dX11_moveOf_32 : decode cX11_moveOf 32 = .ok (.ireturn, 1) := by decide +kernel
theorem dX11_moveOf_33 : decode cX11_moveOf 33 = .ok (.aload 4, 2) := by decide +kernel
theorem dX11_moveOf_35 : decode cX11_moveOf 35 = .ok (.iload_n 2, 1) := by decide +kernel
theorem dX11_moveOf_36 : decode cX11_moveOf 36 = .ok (.iload_n 3, 1) := by decide +kernel
theorem dX11_moveOf_37 : decode cX11_moveOf 37 = .ok (.invokevirtual 110, 3) := by decide +kernel
theorem dX11_moveOf_40 : decode cX11_moveOf 40 = .ok (.ireturn, 1) := by decide +kernel
set_option maxRecDepth 20000 in
theorem ggX11_empty_X10_length : GoodIn wsX11_empty wsX10_length := goodIn_r _ [6, 7, 23, 24] (by decide +kernel) (by decide +kernel)
set_option maxRecDepth 20000 in
theorem gX11_empty_X10_length : GoodIn wsX11_empty (wsV RX11 127 RX10 yX10_length wsX10_length) := goodIn_app (goodIn_of _ (by decide +kernel)) ggX11_empty_X10_length
set_option maxRecDepth 20000 in
theorem ggX11_empty_X10_clear : GoodIn wsX11_empty wsX10_clear := goodIn_r _ [11, 7, 23, 24] (by decide +kernel) (by decide +kernel)
set_option maxRecDepth 20000 in
theorem gX11_empty_X10_clear : GoodIn wsX11_empty (wsV RX11 131 RX10 yX10_clear wsX10_clear) := goodIn_app (goodIn_of _ (by decide +kernel)) ggX11_empty_X10_clear
theorem dX11_empty_0 : decode cX11_empty 0 = .ok (.aload_n 0, 1) := by decide +kernel
theorem dX11_empty_1 : decode cX11_empty 1 = .ok (.getfield 18, 3) := by decide +kernel
theorem dX11_empty_4 : decode cX11_empty 4 = .ok (.invokevirtual 127, 3) := by decide +kernel
theorem dX11_empty_7 : decode cX11_empty 7 = .ok (.istore_n 1, 1) := by decide +kernel
theorem dX11_empty_8 : decode cX11_empty 8 = .ok (.aload_n 0, 1) := by decide +kernel
theorem dX11_empty_9 : decode cX11_empty 9 = .ok (.getfield 18, 3) := by decide +kernel
theorem dX11_empty_12 : decode cX11_empty 12 = .ok (.invokevirtual 131, 3) := by decide +kernel
theorem dX11_empty_15 : decode cX11_empty 15 = .ok (.iload_n 1, 1) := by decide +kernel
theorem dX11_empty_16 : decode cX11_empty 16 = .ok (.ireturn, 1) := by decide +kernel
set_option maxRecDepth 20000 in
theorem ggX11_letter_X10_append : GoodIn wsX11_letter wsX10_append := goodIn_r _ [6, 7, 8, 24, 25] (by decide +kernel) (by decide +kernel)
set_option maxRecDepth 20000 in
theorem gX11_letter_X10_append : GoodIn wsX11_letter (wsV RX11 134 RX10 yX10_append wsX10_append) := goodIn_app (goodIn_of _ (by decide +kernel)) ggX11_letter_X10_append
set_option maxRecDepth 20000 in
theorem ggX11_letter_X10_length : GoodIn wsX11_letter wsX10_length := goodIn_r _ [12, 7, 24, 25] (by decide +kernel) (by decide +kernel)
set_option maxRecDepth 20000 in
theorem gX11_letter_X10_length : GoodIn wsX11_letter (wsV RX11 127 RX10 yX10_length wsX10_length) := goodIn_app (goodIn_of _ (by decide +kernel)) ggX11_letter_X10_length
theorem dX11_letter_0 : decode cX11_letter 0 = .ok (.iload_n 1, 1) := by decide +kernel
theorem dX11_letter_1 : decode cX11_letter 1 = .ok (.ifCond .lt 8, 3) := by decide +kernel
theorem dX11_letter_4 : decode cX11_letter 4 = .ok (.iload_n 1, 1) := by decide +kernel
theorem dX11_letter_5 : decode cX11_letter 5 = .ok (.iconst 4, 1) := by decide +kernel
theorem dX11_letter_6 : decode cX11_letter 6 = .ok (.if_icmp .lt 6, 3) := by decide +kernel
theorem dX11_letter_9 : decode cX11_letter 9 = .ok (.bipush (-2), 2) := by decide +kernel
theorem dX11_letter_11 : decode cX11_letter 11 = .ok (.ireturn, 1) := by decide +kernel
theorem dX11_letter_12 : decode cX11_letter 12 = .ok (.aload_n 0, 1) := by decide +kernel
theorem dX11_letter_13 : decode cX11_letter 13 = .ok (.getfield 18, 3) := by decide +kernel
theorem dX11_letter_16 : decode cX11_letter 16 = .ok (.iload_n 1, 1) := by decide +kernel
theorem dX11_letter_17 : decode cX11_letter 17 = .ok (.invokevirtual 134, 3) := by decide +kernel
theorem dX11_letter_20 : decode cX11_letter 20 = .ok (.ifCond .eq 13, 3) := by decide +kernel
theorem dX11_letter_23 : decode cX11_letter 23 = .ok (.aload_n 0, 1) := by decide +kernel
theorem dX11_letter_24 : decode cX11_letter 24 = .ok (.getfield 18, 3) := by decide +kernel
theorem dX11_letter_27 : decode cX11_letter 27 = .ok (.invokevirtual 127, 3) := by decide +kernel
theorem dX11_letter_30 : decode cX11_letter 30 = .ok (.goto 5, 3) := by decide +kernel
theorem dX11_letter_33 : decode cX11_letter 33 = .ok (.bipush (-4), 2) := by decide +kernel
theorem dX11_letter_35 : decode cX11_letter 35 = .ok (.ireturn, 1) := by decide +kernel
set_option maxRecDepth 20000 in
theorem ggX11_letterAt_X10_at : GoodIn wsX11_letterAt wsX10_at := goodIn_r _ [6, 7, 8, 20, 21] (by decide +kernel) (by decide +kernel)
set_option maxRecDepth 20000 in
theorem gX11_letterAt_X10_at : GoodIn wsX11_letterAt (wsV RX11 137 RX10 yX10_at wsX10_at) := goodIn_app (goodIn_of _ (by decide +kernel)) ggX11_letterAt_X10_at
theorem dX11_letterAt_0 : decode cX11_letterAt 0 = .ok (.aload_n 0, 1) := by decide +kernel
theorem dX11_letterAt_1 : decode cX11_letterAt 1 = .ok (.getfield 18, 3) := by decide +kernel
theorem dX11_letterAt_4 : decode cX11_letterAt 4 = .ok (.iload_n 1, 1) := by decide +kernel
theorem dX11_letterAt_5 : decode cX11_letterAt 5 = .ok (.invokevirtual 137, 3) := by decide +kernel
theorem dX11_letterAt_8 : decode cX11_letterAt 8 = .ok (.ireturn, 1) := by decide +kernel
set_option maxRecDepth 20000 in
theorem ggX11_goes_X11_machineAt : GoodIn wsX11_goes wsX11_machineAt := goodIn_r _ [7, 8, 9, 68, 69, 70, 71, 72, 73, 74, 75, 76, 77, 78] (by decide +kernel) (by decide +kernel)
set_option maxRecDepth 20000 in
theorem gX11_goes_X11_machineAt : GoodIn wsX11_goes (wsV RX11 99 RX11 yX11_machineAt wsX11_machineAt) := goodIn_app (goodIn_of _ (by decide +kernel)) ggX11_goes_X11_machineAt
set_option maxRecDepth 20000 in
theorem ggX11_goes_X4_hasSet : GoodIn wsX11_goes wsX4_hasSet := goodIn_r _ [14, 15, 79, 80, 81, 82, 83, 84] (by decide +kernel) (by decide +kernel)
set_option maxRecDepth 20000 in
theorem gX11_goes_X4_hasSet : GoodIn wsX11_goes (wsV RX11 141 RX4 yX4_hasSet wsX4_hasSet) := goodIn_app (goodIn_of _ (by decide +kernel)) ggX11_goes_X4_hasSet
set_option maxRecDepth 20000 in
theorem ggX11_goes_X10_isOf : GoodIn wsX11_goes wsX10_isOf := goodIn_r _ [20, 21, 22, 23, 24, 25, 13, 26, 27, 85, 86, 79, 80, 81, 82, 83, 84] (by decide +kernel) (by decide +kernel)
set_option maxRecDepth 20000 in
theorem gX11_goes_X10_isOf : GoodIn wsX11_goes (wsV RX11 144 RX10 yX10_isOf wsX10_isOf) := goodIn_app (goodIn_of _ (by decide +kernel)) ggX11_goes_X10_isOf
set_option maxRecDepth 20000 in
theorem ggX11_goes_X8_load : GoodIn wsX11_goes wsX8_load := goodIn_r _ [32, 33, 34, 35, 36, 37, 38, 13, 39, 27, 40, 41, 31, 42, 43, 44, 45, 46, 15, 47, 48, 49, 50, 51, 87, 88, 89, 79, 80, 81, 82, 83, 84] (by decide +kernel) (by decide +kernel)
set_option maxRecDepth 20000 in
theorem gX11_goes_X8_load : GoodIn wsX11_goes (wsV RX11 148 RX8 yX8_load wsX8_load) := goodIn_app (goodIn_of _ (by decide +kernel)) ggX11_goes_X8_load
set_option maxRecDepth 20000 in
theorem ggX11_goes_X8_afterWord : GoodIn wsX11_goes wsX8_afterWord := goodIn_r _ [55, 56, 57, 58, 19, 59, 21, 60, 61, 62, 63, 22, 64, 65, 66, 31, 67, 34, 35, 85, 86, 87, 88, 89] (by decide +kernel) (by decide +kernel)
set_option maxRecDepth 20000 in
theorem gX11_goes_X8_afterWord : GoodIn wsX11_goes (wsV RX11 152 RX8 yX8_afterWord wsX8_afterWord) := goodIn_app (goodIn_of _ (by decide +kernel)) ggX11_goes_X8_afterWord
theorem dX11_goes_0 : decode cX11_goes 0 = .ok (.aload_n 0, 1) := by decide +kernel
theorem dX11_goes_1 : decode cX11_goes 1 = .ok (.iload_n 1, 1) := by decide +kernel
theorem dX11_goes_2 : decode cX11_goes 2 = .ok (.invokevirtual 99, 3) := by decide +kernel
theorem dX11_goes_5 : decode cX11_goes 5 = .ok (.astore_n 3, 1) := by decide +kernel
theorem dX11_goes_6 : decode cX11_goes 6 = .ok (.aload_n 3, 1) := by decide +kernel
theorem dX11_goes_7 : decode cX11_goes 7 = .ok (.ifnull 22, 3) := by decide +kernel
theorem dX11_goes_10 : decode cX11_goes 10 = .ok (.aload_n 3, 1) := by decide +kernel
theorem dX11_goes_11 : decode cX11_goes 11 = .ok (.iload_n 2, 1) := by decide +kernel
theorem dX11_goes_12 : decode cX11_goes 12 = .ok (.invokevirtual 141, 3) := by decide +kernel
theorem dX11_goes_15 : decode cX11_goes 15 = .ok (.ifCond .eq 14, 3) := by decide +kernel
theorem dX11_goes_18 : decode cX11_goes 18 = .ok (.aload_n 0, 1) := by decide +kernel
theorem dX11_goes_19 : decode cX11_goes 19 = .ok (.getfield 18, 3) := by decide +kernel
theorem dX11_goes_22 : decode cX11_goes 22 = .ok (.aload_n 3, 1) := by decide +kernel
theorem dX11_goes_23 : decode cX11_goes 23 = .ok (.invokevirtual 144, 3) := by decide +kernel
theorem dX11_goes_26 : decode cX11_goes 26 = .ok (.ifCond .ne 6, 3) := by decide +kernel
theorem dX11_goes_29 : decode cX11_goes 29 = .ok (.bipush (-2), 2) := by decide +kernel
theorem dX11_goes_31 : decode cX11_goes 31 = .ok (.ireturn, 1) := by decide +kernel
theorem dX11_goes_32 : decode cX11_goes 32 = .ok (.aload_n 0, 1) := by decide +kernel
theorem dX11_goes_33 : decode cX11_goes 33 = .ok (.getfield 25, 3) := by decide +kernel
theorem dX11_goes_36 : decode cX11_goes 36 = .ok (.aload_n 3, 1) := by decide +kernel
theorem dX11_goes_37 : decode cX11_goes 37 = .ok (.invokevirtual 148, 3) := by decide +kernel
theorem dX11_goes_40 : decode cX11_goes 40 = .ok (.aload_n 0, 1) := by decide +kernel
theorem dX11_goes_41 : decode cX11_goes 41 = .ok (.getfield 25, 3) := by decide +kernel
theorem dX11_goes_44 : decode cX11_goes 44 = .ok (.iload_n 2, 1) := by decide +kernel
theorem dX11_goes_45 : decode cX11_goes 45 = .ok (.aload_n 0, 1) := by decide +kernel
theorem dX11_goes_46 : decode cX11_goes 46 = .ok (.getfield 18, 3) := by decide +kernel
theorem dX11_goes_49 : decode cX11_goes 49 = .ok (.invokevirtual 152, 3) := by decide +kernel
theorem dX11_goes_52 : decode cX11_goes 52 = .ok (.istore 4, 2) := by decide +kernel
theorem dX11_goes_54 : decode cX11_goes 54 = .ok (.iload 4, 2) := by decide +kernel
theorem dX11_goes_56 : decode cX11_goes 56 = .ok (.ifCond .ne 7, 3) := by decide +kernel
theorem dX11_goes_59 : decode cX11_goes 59 = .ok (.iconst (-1), 1) := by decide +kernel
theorem dX11_goes_60 : decode cX11_goes 60 = .ok (.goto 5, 3) := by decide +kernel
theorem dX11_goes_63 : decode cX11_goes 63 = .ok (.iload 4, 2) := by decide +kernel
theorem dX11_goes_65 : decode cX11_goes 65 = .ok (.ireturn, 1) := by decide +kernel
set_option maxRecDepth 20000 in
theorem ggX11_shortest_X11_machineAt : GoodIn wsX11_shortest wsX11_machineAt := goodIn_r _ [6, 7, 8, 119, 120, 121, 122, 123, 124, 125, 126, 127, 128, 129] (by decide +kernel) (by decide +kernel)
set_option maxRecDepth 20000 in
theorem gX11_shortest_X11_machineAt : GoodIn wsX11_shortest (wsV RX11 99 RX11 yX11_machineAt wsX11_machineAt) := goodIn_app (goodIn_of _ (by decide +kernel)) ggX11_shortest_X11_machineAt
set_option maxRecDepth 20000 in
theorem ggX11_shortest_X4_hasSet : GoodIn wsX11_shortest wsX4_hasSet := goodIn_r _ [13, 14, 130, 131, 132, 133, 134, 135] (by decide +kernel) (by decide +kernel)
set_option maxRecDepth 20000 in
theorem gX11_shortest_X4_hasSet : GoodIn wsX11_shortest (wsV RX11 141 RX4 yX4_hasSet wsX4_hasSet) := goodIn_app (goodIn_of _ (by decide +kernel)) ggX11_shortest_X4_hasSet
set_option maxRecDepth 20000 in
theorem ggX11_shortest_X7_look : GoodIn wsX11_shortest wsX7_look := goodIn_r _ [19, 20, 21, 22, 23, 24, 25, 26, 27, 28, 29, 30, 31, 32, 33, 34, 12, 35, 36, 37, 38, 39, 40, 41, 42, 43, 14, 44, 45, 46, 47, 48, 49, 50, 51, 52, 53, 54, 55, 56, 57, 58, 59, 60, 18, 61, 62, 63, 64, 65, 66, 67, 68, 69, 70, 71, 72, 73, 74, 75, 76, 77, 78, 79, 80, 81, 82, 83, 84, 136, 137, 138, 139, 140, 141, 142, 130, 131, 132, 133, 134, 135, 143] (by decide +kernel) (by decide +kernel)
set_option maxRecDepth 20000 in
theorem gX11_shortest_X7_look : GoodIn wsX11_shortest (wsV RX11 156 RX7 yX7_look wsX7_look) := goodIn_app (goodIn_of _ (by decide +kernel)) ggX11_shortest_X7_look
set_option maxRecDepth 20000 in
theorem ggX11_shortest_X11_tellWordTo : GoodIn wsX11_shortest wsX11_tellWordTo := goodIn_r _ [88, 89, 90, 91, 92, 93, 52, 94, 95, 96, 97, 98, 54, 99, 78, 79, 80, 100, 101, 102, 103, 104, 105, 106, 107, 108, 109, 110, 111, 112, 113, 114, 115, 116, 117, 118, 119, 120, 121, 122, 123, 124, 125, 126, 127, 128, 129, 143, 144, 145] (by decide +kernel) (by decide +kernel)
set_option maxRecDepth 20000 in
theorem gX11_shortest_X11_tellWordTo : GoodIn wsX11_shortest (wsV RX11 160 RX11 yX11_tellWordTo wsX11_tellWordTo) := goodIn_app (goodIn_of _ (by decide +kernel)) ggX11_shortest_X11_tellWordTo
theorem dX11_shortest_0 : decode cX11_shortest 0 = .ok (.aload_n 0, 1) := by decide +kernel
theorem dX11_shortest_1 : decode cX11_shortest 1 = .ok (.iload_n 1, 1) := by decide +kernel
theorem dX11_shortest_2 : decode cX11_shortest 2 = .ok (.invokevirtual 99, 3) := by decide +kernel
theorem dX11_shortest_5 : decode cX11_shortest 5 = .ok (.astore_n 3, 1) := by decide +kernel
theorem dX11_shortest_6 : decode cX11_shortest 6 = .ok (.aload_n 3, 1) := by decide +kernel
theorem dX11_shortest_7 : decode cX11_shortest 7 = .ok (.ifnull 11, 3) := by decide +kernel
theorem dX11_shortest_10 : decode cX11_shortest 10 = .ok (.aload_n 3, 1) := by decide +kernel
theorem dX11_shortest_11 : decode cX11_shortest 11 = .ok (.iload_n 2, 1) := by decide +kernel
theorem dX11_shortest_12 : decode cX11_shortest 12 = .ok (.invokevirtual 141, 3) := by decide +kernel
theorem dX11_shortest_15 : decode cX11_shortest 15 = .ok (.ifCond .ne 6, 3) := by decide +kernel
theorem dX11_shortest_18 : decode cX11_shortest 18 = .ok (.bipush (-2), 2) := by decide +kernel
theorem dX11_shortest_20 : decode cX11_shortest 20 = .ok (.ireturn, 1) := by decide +kernel
theorem dX11_shortest_21 : decode cX11_shortest 21 = .ok (.aload_n 0, 1) := by decide +kernel
theorem dX11_shortest_22 : decode cX11_shortest 22 = .ok (.aload_n 0, 1) := by decide +kernel
theorem dX11_shortest_23 : decode cX11_shortest 23 = .ok (.getfield 41, 3) := by decide +kernel
theorem dX11_shortest_26 : decode cX11_shortest 26 = .ok (.aload_n 3, 1) := by decide +kernel
theorem dX11_shortest_27 : decode cX11_shortest 27 = .ok (.iload_n 2, 1) := by decide +kernel
theorem dX11_shortest_28 : decode cX11_shortest 28 = .ok (.iconst 0, 1) := by decide +kernel
theorem dX11_shortest_29 : decode cX11_shortest 29 = .ok (.invokevirtual 156, 3) := by decide +kernel
theorem dX11_shortest_32 : decode cX11_shortest 32 = .ok (.invokevirtual 160, 3) := by decide +kernel
theorem dX11_shortest_35 : decode cX11_shortest 35 = .ok (.ireturn, 1) := by decide +kernel
set_option maxRecDepth 20000 in
theorem ggX11_shortestTo_X11_machineAt : GoodIn wsX11_shortestTo wsX11_machineAt := goodIn_r _ [6, 7, 8, 120, 121, 122, 123, 124, 125, 126, 127, 128, 129, 130] (by decide +kernel) (by decide +kernel)
set_option maxRecDepth 20000 in
theorem gX11_shortestTo_X11_machineAt : GoodIn wsX11_shortestTo (wsV RX11 99 RX11 yX11_machineAt wsX11_machineAt) := goodIn_app (goodIn_of _ (by decide +kernel)) ggX11_shortestTo_X11_machineAt
set_option maxRecDepth 20000 in
theorem ggX11_shortestTo_X4_hasSet : GoodIn wsX11_shortestTo wsX4_hasSet := goodIn_r _ [13, 14, 131, 132, 133, 134, 135, 136] (by decide +kernel) (by decide +kernel)
set_option maxRecDepth 20000 in
theorem gX11_shortestTo_X4_hasSet : GoodIn wsX11_shortestTo (wsV RX11 141 RX4 yX4_hasSet wsX4_hasSet) := goodIn_app (goodIn_of _ (by decide +kernel)) ggX11_shortestTo_X4_hasSet
set_option maxRecDepth 20000 in
theorem ggX11_shortestTo_X4_hasState : GoodIn wsX11_shortestTo wsX4_hasState := goodIn_r _ [18, 14, 131, 132, 133, 134, 135, 136] (by decide +kernel) (by decide +kernel)
set_option maxRecDepth 20000 in
theorem gX11_shortestTo_X4_hasState : GoodIn wsX11_shortestTo (wsV RX11 103 RX4 yX4_hasState wsX4_hasState) := goodIn_app (goodIn_of _ (by decide +kernel)) ggX11_shortestTo_X4_hasState
set_option maxRecDepth 20000 in
theorem ggX11_shortestTo_X7_look : GoodIn wsX11_shortestTo wsX7_look := goodIn_r _ [23, 24, 25, 26, 27, 28, 29, 30, 31, 32, 33, 34, 35, 36, 37, 38, 12, 39, 40, 41, 42, 43, 44, 16, 17, 18, 14, 45, 46, 47, 48, 49, 50, 51, 52, 53, 54, 55, 56, 57, 58, 59, 60, 61, 22, 62, 63, 64, 65, 66, 67, 68, 69, 70, 71, 72, 73, 74, 75, 76, 77, 78, 79, 80, 81, 82, 83, 84, 85, 137, 138, 139, 140, 141, 142, 143, 131, 132, 133, 134, 135, 136, 144] (by decide +kernel) (by decide +kernel)
set_option maxRecDepth 20000 in
theorem gX11_shortestTo_X7_look : GoodIn wsX11_shortestTo (wsV RX11 156 RX7 yX7_look wsX7_look) := goodIn_app (goodIn_of _ (by decide +kernel)) ggX11_shortestTo_X7_look
set_option maxRecDepth 20000 in
theorem ggX11_shortestTo_X11_tellWordTo : GoodIn wsX11_shortestTo wsX11_tellWordTo := goodIn_r _ [89, 90, 91, 92, 93, 94, 53, 95, 96, 97, 98, 99, 55, 100, 79, 80, 81, 101, 102, 103, 104, 105, 106, 107, 108, 109, 110, 111, 112, 113, 114, 115, 116, 117, 118, 119, 120, 121, 122, 123, 124, 125, 126, 127, 128, 129, 130, 144, 145, 146] (by decide +kernel) (by decide +kernel)
set_option maxRecDepth 20000 in
theorem gX11_shortestTo_X11_tellWordTo : GoodIn wsX11_shortestTo (wsV RX11 160 RX11 yX11_tellWordTo wsX11_tellWordTo) := goodIn_app (goodIn_of _ (by decide +kernel)) ggX11_shortestTo_X11_tellWordTo
theorem dX11_shortestTo_0 : decode cX11_shortestTo 0 = .ok (.aload_n 0, 1) := by decide +kernel
theorem dX11_shortestTo_1 : decode cX11_shortestTo 1 = .ok (.iload_n 1, 1) := by decide +kernel
theorem dX11_shortestTo_2 : decode cX11_shortestTo 2 = .ok (.invokevirtual 99, 3) := by decide +kernel
theorem dX11_shortestTo_5 : decode cX11_shortestTo 5 = .ok (.astore 4, 2) := by decide +kernel
theorem dX11_shortestTo_7 : decode cX11_shortestTo 7 = .ok (.aload 4, 2) := by decide +kernel
theorem dX11_shortestTo_9 : decode cX11_shortestTo 9 = .ok (.ifnull 21, 3) := by decide +kernel
theorem dX11_shortestTo_12 : decode cX11_shortestTo 12 = .ok (.aload 4, 2) := by decide +kernel
theorem dX11_shortestTo_14 : decode cX11_shortestTo 14 = .ok (.iload_n 2, 1) := by decide +kernel
theorem dX11_shortestTo_15 : decode cX11_shortestTo 15 = .ok (.invokevirtual 141, 3) := by decide +kernel
theorem dX11_shortestTo_18 : decode cX11_shortestTo 18 = .ok (.ifCond .eq 12, 3) := by decide +kernel
theorem dX11_shortestTo_21 : decode cX11_shortestTo 21 = .ok (.aload 4, 2) := by decide +kernel
theorem dX11_shortestTo_23 : decode cX11_shortestTo 23 = .ok (.iload_n 3, 1) := by decide +kernel
theorem dX11_shortestTo_24 : decode cX11_shortestTo 24 = .ok (.invokevirtual 103, 3) := by decide +kernel
theorem dX11_shortestTo_27 : decode cX11_shortestTo 27 = .ok (.ifCond .ne 6, 3) := by decide +kernel
theorem dX11_shortestTo_30 : decode cX11_shortestTo 30 = .ok (.bipush (-2), 2) := by decide +kernel
theorem dX11_shortestTo_32 : decode cX11_shortestTo 32 = .ok (.ireturn, 1) := by decide +kernel
theorem dX11_shortestTo_33 : decode cX11_shortestTo 33 = .ok (.aload_n 0, 1) := by decide +kernel
theorem dX11_shortestTo_34 : decode cX11_shortestTo 34 = .ok (.aload_n 0, 1) := by decide +kernel
theorem dX11_shortestTo_35 : decode cX11_shortestTo 35 = .ok (.getfield 41, 3) := by decide +kernel
theorem dX11_shortestTo_38 : decode cX11_shortestTo 38 = .ok (.aload 4, 2) := by decide +kernel
theorem dX11_shortestTo_40 : decode cX11_shortestTo 40 = .ok (.iload_n 2, 1) := by decide +kernel
theorem dX11_shortestTo_41 : decode cX11_shortestTo 41 = .ok (.iconst 1, 1) := by decide +kernel
theorem dX11_shortestTo_42 : decode cX11_shortestTo 42 = .ok (.iload_n 3, 1) := by decide +kernel
theorem dX11_shortestTo_43 : decode cX11_shortestTo 43 = .ok (.ishl, 1) := by decide +kernel
theorem dX11_shortestTo_44 : decode cX11_shortestTo 44 = .ok (.invokevirtual 156, 3) := by decide +kernel
theorem dX11_shortestTo_47 : decode cX11_shortestTo 47 = .ok (.invokevirtual 160, 3) := by decide +kernel
theorem dX11_shortestTo_50 : decode cX11_shortestTo 50 = .ok (.ireturn, 1) := by decide +kernel
set_option maxRecDepth 20000 in
theorem ggX11_rank_X11_machineAt : GoodIn wsX11_rank wsX11_machineAt := goodIn_r _ [6, 7, 8, 135, 136, 137, 138, 139, 140, 141, 142, 143, 144, 145] (by decide +kernel) (by decide +kernel)
set_option maxRecDepth 20000 in
theorem gX11_rank_X11_machineAt : GoodIn wsX11_rank (wsV RX11 99 RX11 yX11_machineAt wsX11_machineAt) := goodIn_app (goodIn_of _ (by decide +kernel)) ggX11_rank_X11_machineAt
set_option maxRecDepth 20000 in
theorem ggX11_rank_X4_hasSet : GoodIn wsX11_rank wsX4_hasSet := goodIn_r _ [13, 14, 146, 147, 148, 149, 150, 151] (by decide +kernel) (by decide +kernel)
set_option maxRecDepth 20000 in
theorem gX11_rank_X4_hasSet : GoodIn wsX11_rank (wsV RX11 141 RX4 yX4_hasSet wsX4_hasSet) := goodIn_app (goodIn_of _ (by decide +kernel)) ggX11_rank_X4_hasSet
set_option maxRecDepth 20000 in
theorem ggX11_rank_X7_look : GoodIn wsX11_rank wsX7_look := goodIn_r _ [19, 20, 21, 22, 23, 24, 25, 26, 27, 28, 29, 30, 31, 32, 33, 34, 12, 35, 36, 37, 38, 39, 40, 41, 42, 43, 14, 44, 45, 46, 47, 48, 49, 50, 51, 52, 53, 54, 55, 56, 57, 58, 59, 60, 18, 61, 62, 63, 64, 65, 66, 67, 68, 69, 70, 71, 72, 73, 74, 75, 76, 77, 78, 79, 80, 81, 82, 83, 84, 152, 153, 154, 155, 156, 157, 158, 146, 147, 148, 149, 150, 151, 159] (by decide +kernel) (by decide +kernel)
set_option maxRecDepth 20000 in
theorem gX11_rank_X7_look : GoodIn wsX11_rank (wsV RX11 156 RX7 yX7_look wsX7_look) := goodIn_app (goodIn_of _ (by decide +kernel)) ggX11_rank_X7_look
set_option maxRecDepth 20000 in
theorem ggX11_rank_X7_fewest : GoodIn wsX11_rank wsX7_fewest := goodIn_r _ [88, 23, 89, 90, 91, 18, 92, 22, 93, 94, 95, 96, 97, 98, 99, 152, 153, 154, 155] (by decide +kernel) (by decide +kernel)
set_option maxRecDepth 20000 in
theorem gX11_rank_X7_fewest : GoodIn wsX11_rank (wsV RX11 163 RX7 yX7_fewest wsX7_fewest) := goodIn_app (goodIn_of _ (by decide +kernel)) ggX11_rank_X7_fewest
set_option maxRecDepth 20000 in
theorem ggX11_rank_X11_tellWordTo : GoodIn wsX11_rank wsX11_tellWordTo := goodIn_r _ [103, 104, 105, 106, 107, 108, 52, 109, 110, 111, 112, 113, 54, 114, 78, 79, 80, 115, 116, 117, 118, 119, 120, 121, 122, 123, 124, 125, 126, 127, 128, 129, 130, 131, 132, 133, 135, 136, 137, 138, 139, 140, 141, 142, 143, 144, 145, 159, 160, 161] (by decide +kernel) (by decide +kernel)
set_option maxRecDepth 20000 in
theorem gX11_rank_X11_tellWordTo : GoodIn wsX11_rank (wsV RX11 160 RX11 yX11_tellWordTo wsX11_tellWordTo) := goodIn_app (goodIn_of _ (by decide +kernel)) ggX11_rank_X11_tellWordTo
set_option maxRecDepth 20000 in
theorem ggX11_rank_J6_bitCount_0f7a4 : GoodIn wsX11_rank wsJ6_bitCount_0f7a4 := goodIn_r _ [96, 97, 98, 99] (by decide +kernel) (by decide +kernel)
set_option maxRecDepth 20000 in
theorem gX11_rank_J6_bitCount_0f7a4 : GoodIn wsX11_rank (va_wsS RX11 166 yJ6_bitCount_0f7a4 wsJ6_bitCount_0f7a4) := goodIn_app (goodIn_of _ (by decide +kernel)) ggX11_rank_J6_bitCount_0f7a4
theorem dX11_rank_0 : decode cX11_rank 0 = .ok (.aload_n 0, 1) := by decide +kernel
theorem dX11_rank_1 : decode cX11_rank 1 = .ok (.iload_n 1, 1) := by decide +kernel
theorem dX11_rank_2 : decode cX11_rank 2 = .ok (.invokevirtual 99, 3) := by decide +kernel
theorem dX11_rank_5 : decode cX11_rank 5 = .ok (.astore_n 3, 1) := by decide +kernel
theorem dX11_rank_6 : decode cX11_rank 6 = .ok (.aload_n 3, 1) := by decide +kernel
theorem dX11_rank_7 : decode cX11_rank 7 = .ok (.ifnull 11, 3) := by decide +kernel
theorem dX11_rank_10 : decode cX11_rank 10 = .ok (.aload_n 3, 1) := by decide +kernel
theorem dX11_rank_11 : decode cX11_rank 11 = .ok (.iload_n 2, 1) := by decide +kernel
theorem dX11_rank_12 : decode cX11_rank 12 = .ok (.invokevirtual 141, 3) := by decide +kernel
theorem dX11_rank_15 : decode cX11_rank 15 = .ok (.ifCond .ne 6, 3) := by decide +kernel
theorem dX11_rank_18 : decode cX11_rank 18 = .ok (.bipush (-2), 2) := by decide +kernel
theorem dX11_rank_20 : decode cX11_rank 20 = .ok (.ireturn, 1) := by decide +kernel
theorem dX11_rank_21 : decode cX11_rank 21 = .ok (.aload_n 0, 1) := by decide +kernel
theorem dX11_rank_22 : decode cX11_rank 22 = .ok (.getfield 41, 3) := by decide +kernel
theorem dX11_rank_25 : decode cX11_rank 25 = .ok (.aload_n 3, 1) := by decide +kernel
theorem dX11_rank_26 : decode cX11_rank 26 = .ok (.iload_n 2, 1) := by decide +kernel
theorem dX11_rank_27 : decode cX11_rank 27 = .ok (.iconst 0, 1) := by decide +kernel
theorem dX11_rank_28 : decode cX11_rank 28 = .ok (.invokevirtual 156, 3) := by decide +kernel
theorem dX11_rank_31 : decode cX11_rank 31 = .ok (.istore 4, 2) := by decide +kernel
theorem dX11_rank_33 : decode cX11_rank 33 = .ok (.iload 4, 2) := by decide +kernel
theorem dX11_rank_35 : decode cX11_rank 35 = .ok (.ifCond .ne 12, 3) := by decide +kernel
theorem dX11_rank_38 : decode cX11_rank 38 = .ok (.aload_n 0, 1) := by decide +kernel
theorem dX11_rank_39 : decode cX11_rank 39 = .ok (.getfield 41, 3) := by decide +kernel
theorem dX11_rank_42 : decode cX11_rank 42 = .ok (.invokevirtual 163, 3) := by decide +kernel
theorem dX11_rank_45 : decode cX11_rank 45 = .ok (.istore 4, 2) := by decide +kernel
theorem dX11_rank_47 : decode cX11_rank 47 = .ok (.aload_n 0, 1) := by decide +kernel
theorem dX11_rank_48 : decode cX11_rank 48 = .ok (.iload 4, 2) := by decide +kernel
theorem dX11_rank_50 : decode cX11_rank 50 = .ok (.invokevirtual 160, 3) := by decide +kernel
theorem dX11_rank_53 : decode cX11_rank 53 = .ok (.pop, 1) := by decide +kernel
theorem dX11_rank_54 : decode cX11_rank 54 = .ok (.iload 4, 2) := by decide +kernel
theorem dX11_rank_56 : decode cX11_rank 56 = .ok (.invokestatic 166, 3) := by decide +kernel
theorem dX11_rank_59 : decode cX11_rank 59 = .ok (.ireturn, 1) := by decide +kernel
set_option maxRecDepth 20000 in
theorem ggX11_merge_X11_machineAt : GoodIn wsX11_merge wsX11_machineAt := goodIn_r _ [6, 7, 8, 57, 58, 59, 60, 61, 62, 63, 64, 65, 66, 67] (by decide +kernel) (by decide +kernel)
set_option maxRecDepth 20000 in
theorem gX11_merge_X11_machineAt : GoodIn wsX11_merge (wsV RX11 99 RX11 yX11_machineAt wsX11_machineAt) := goodIn_app (goodIn_of _ (by decide +kernel)) ggX11_merge_X11_machineAt
set_option maxRecDepth 20000 in
theorem ggX11_merge_X4_hasState : GoodIn wsX11_merge wsX4_hasState := goodIn_r _ [13, 14, 68, 69, 70, 71, 72, 73] (by decide +kernel) (by decide +kernel)
set_option maxRecDepth 20000 in
theorem gX11_merge_X4_hasState : GoodIn wsX11_merge (wsV RX11 103 RX4 yX4_hasState wsX4_hasState) := goodIn_app (goodIn_of _ (by decide +kernel)) ggX11_merge_X4_hasState
set_option maxRecDepth 20000 in
theorem ggX11_merge_X5_load : GoodIn wsX11_merge wsX5_load := goodIn_r _ [19, 20, 21, 22, 23, 24, 25, 26, 27, 28, 12, 29, 14, 30, 31, 32, 18, 33, 34, 35, 36, 37, 38, 39, 40, 41, 42, 43, 44, 45, 46, 47, 48, 49, 50, 51, 52, 53, 54, 55, 74, 75, 76, 68, 69, 70, 71, 72, 73] (by decide +kernel) (by decide +kernel)
set_option maxRecDepth 20000 in
theorem gX11_merge_X5_load : GoodIn wsX11_merge (wsV RX11 171 RX5 yX5_load wsX5_load) := goodIn_app (goodIn_of _ (by decide +kernel)) ggX11_merge_X5_load
set_option maxRecDepth 20000 in
theorem ggX11_merge_X5_lengthOf : GoodIn wsX11_merge wsX5_lengthOf := goodIn_r _ [41, 20, 74, 75, 76] (by decide +kernel) (by decide +kernel)
set_option maxRecDepth 20000 in
theorem gX11_merge_X5_lengthOf : GoodIn wsX11_merge (wsV RX11 172 RX5 yX5_lengthOf wsX5_lengthOf) := goodIn_app (goodIn_of _ (by decide +kernel)) ggX11_merge_X5_lengthOf
theorem dX11_merge_0 : decode cX11_merge 0 = .ok (.aload_n 0, 1) := by decide +kernel
theorem dX11_merge_1 : decode cX11_merge 1 = .ok (.iload_n 1, 1) := by decide +kernel
theorem dX11_merge_2 : decode cX11_merge 2 = .ok (.invokevirtual 99, 3) := by decide +kernel
theorem dX11_merge_5 : decode cX11_merge 5 = .ok (.astore 4, 2) := by decide +kernel
theorem dX11_merge_7 : decode cX11_merge 7 = .ok (.aload 4, 2) := by decide +kernel
theorem dX11_merge_9 : decode cX11_merge 9 = .ok (.ifnull 26, 3) := by decide +kernel
theorem dX11_merge_12 : decode cX11_merge 12 = .ok (.aload 4, 2) := by decide +kernel
theorem dX11_merge_14 : decode cX11_merge 14 = .ok (.iload_n 2, 1) := by decide +kernel
theorem dX11_merge_15 : decode cX11_merge 15 = .ok (.invokevirtual 103, 3) := by decide +kernel
theorem dX11_merge_18 : decode cX11_merge 18 = .ok (.ifCond .eq 17, 3) := by decide +kernel
theorem dX11_merge_21 : decode cX11_merge 21 = .ok (.aload 4, 2) := by decide +kernel
theorem dX11_merge_23 : decode cX11_merge 23 = .ok (.iload_n 3, 1) := by decide +kernel
theorem dX11_merge_24 : decode cX11_merge 24 = .ok (.invokevirtual 103, 3) := by decide +kernel
theorem dX11_merge_27 : decode cX11_merge 27 = .ok (.ifCond .eq 8, 3) := by decide +kernel
theorem dX11_merge_30 : decode cX11_merge 30 = .ok (.iload_n 2, 1) := by decide +kernel
theorem dX11_merge_31 : decode cX11_merge 31 = .ok (.iload_n 3, 1) := by decide +kernel
theorem dX11_merge_32 : decode cX11_merge 32 = .ok (.if_icmp .ne 6, 3) := by decide +kernel
theorem dX11_merge_35 : decode cX11_merge 35 = .ok (.bipush (-2), 2) := by decide +kernel
theorem dX11_merge_37 : decode cX11_merge 37 = .ok (.ireturn, 1) := by decide +kernel
theorem dX11_merge_38 : decode cX11_merge 38 = .ok (.aload_n 0, 1) := by decide +kernel
theorem dX11_merge_39 : decode cX11_merge 39 = .ok (.getfield 64, 3) := by decide +kernel
theorem dX11_merge_42 : decode cX11_merge 42 = .ok (.aload 4, 2) := by decide +kernel
theorem dX11_merge_44 : decode cX11_merge 44 = .ok (.invokevirtual 171, 3) := by decide +kernel
theorem dX11_merge_47 : decode cX11_merge 47 = .ok (.aload_n 0, 1) := by decide +kernel
theorem dX11_merge_48 : decode cX11_merge 48 = .ok (.getfield 64, 3) := by decide +kernel
theorem dX11_merge_51 : decode cX11_merge 51 = .ok (.iload_n 2, 1) := by decide +kernel
theorem dX11_merge_52 : decode cX11_merge 52 = .ok (.iload_n 3, 1) := by decide +kernel
theorem dX11_merge_53 : decode cX11_merge 53 = .ok (.invokevirtual 172, 3) := by decide +kernel
theorem dX11_merge_56 : decode cX11_merge 56 = .ok (.ireturn, 1) := by decide +kernel
set_option maxRecDepth 20000 in
theorem ggX11_unmerged_X11_machineAt : GoodIn wsX11_unmerged wsX11_machineAt := goodIn_r _ [6, 7, 8, 56, 57, 58, 59, 60, 61, 62, 63, 64, 65, 66] (by decide +kernel) (by decide +kernel)
set_option maxRecDepth 20000 in
theorem gX11_unmerged_X11_machineAt : GoodIn wsX11_unmerged (wsV RX11 99 RX11 yX11_machineAt wsX11_machineAt) := goodIn_app (goodIn_of _ (by decide +kernel)) ggX11_unmerged_X11_machineAt
set_option maxRecDepth 20000 in
theorem ggX11_unmerged_X5_load : GoodIn wsX11_unmerged wsX5_load := goodIn_r _ [13, 14, 15, 16, 17, 18, 19, 20, 21, 22, 23, 24, 25, 26, 27, 28, 12, 29, 30, 31, 32, 33, 34, 35, 36, 37, 38, 39, 40, 41, 42, 43, 44, 45, 46, 47, 48, 49, 50, 51, 67, 68, 69, 70, 71, 72, 73, 74, 75] (by decide +kernel) (by decide +kernel)
set_option maxRecDepth 20000 in
theorem gX11_unmerged_X5_load : GoodIn wsX11_unmerged (wsV RX11 171 RX5 yX5_load wsX5_load) := goodIn_app (goodIn_of _ (by decide +kernel)) ggX11_unmerged_X5_load
set_option maxRecDepth 20000 in
theorem ggX11_unmerged_X5_without : GoodIn wsX11_unmerged wsX5_without := goodIn_r _ [55, 15, 67, 68, 69] (by decide +kernel) (by decide +kernel)
set_option maxRecDepth 20000 in
theorem gX11_unmerged_X5_without : GoodIn wsX11_unmerged (wsV RX11 175 RX5 yX5_without wsX5_without) := goodIn_app (goodIn_of _ (by decide +kernel)) ggX11_unmerged_X5_without
theorem dX11_unmerged_0 : decode cX11_unmerged 0 = .ok (.aload_n 0, 1) := by decide +kernel
theorem dX11_unmerged_1 : decode cX11_unmerged 1 = .ok (.iload_n 1, 1) := by decide +kernel
theorem dX11_unmerged_2 : decode cX11_unmerged 2 = .ok (.invokevirtual 99, 3) := by decide +kernel
theorem dX11_unmerged_5 : decode cX11_unmerged 5 = .ok (.astore_n 2, 1) := by decide +kernel
theorem dX11_unmerged_6 : decode cX11_unmerged 6 = .ok (.aload_n 2, 1) := by decide +kernel
theorem dX11_unmerged_7 : decode cX11_unmerged 7 = .ok (.ifnonnull 6, 3) := by decide +kernel
theorem dX11_unmerged_10 : decode cX11_unmerged 10 = .ok (.bipush (-2), 2) := by decide +kernel
theorem dX11_unmerged_12 : decode cX11_unmerged 12 = .ok (.ireturn, 1) := by decide +kernel
theorem dX11_unmerged_13 : decode cX11_unmerged 13 = .ok (.aload_n 0, 1) := by decide +kernel
theorem dX11_unmerged_14 : decode cX11_unmerged 14 = .ok (.getfield 64, 3) := by decide +kernel
theorem dX11_unmerged_17 : decode cX11_unmerged 17 = .ok (.aload_n 2, 1) := by decide +kernel
theorem dX11_unmerged_18 : decode cX11_unmerged 18 = .ok (.invokevirtual 171, 3) := by decide +kernel
theorem dX11_unmerged_21 : decode cX11_unmerged 21 = .ok (.aload_n 0, 1) := by decide +kernel
theorem dX11_unmerged_22 : decode cX11_unmerged 22 = .ok (.getfield 64, 3) := by decide +kernel
theorem dX11_unmerged_25 : decode cX11_unmerged 25 = .ok (.invokevirtual 175, 3) := by decide +kernel
theorem dX11_unmerged_28 : decode cX11_unmerged 28 = .ok (.ireturn, 1) := by decide +kernel
set_option maxRecDepth 20000 in
theorem ggX11_greedy_X11_machineAt : GoodIn wsX11_greedy wsX11_machineAt := goodIn_r _ [7, 8, 9, 155, 156, 157, 158, 159, 160, 161, 162, 163, 164, 165] (by decide +kernel) (by decide +kernel)
set_option maxRecDepth 20000 in
theorem gX11_greedy_X11_machineAt : GoodIn wsX11_greedy (wsV RX11 99 RX11 yX11_machineAt wsX11_machineAt) := goodIn_app (goodIn_of _ (by decide +kernel)) ggX11_greedy_X11_machineAt
set_option maxRecDepth 20000 in
theorem ggX11_greedy_X4_hasSet : GoodIn wsX11_greedy wsX4_hasSet := goodIn_r _ [14, 15, 166, 167, 168, 169, 170, 171] (by decide +kernel) (by decide +kernel)
set_option maxRecDepth 20000 in
theorem gX11_greedy_X4_hasSet : GoodIn wsX11_greedy (wsV RX11 141 RX4 yX4_hasSet wsX4_hasSet) := goodIn_app (goodIn_of _ (by decide +kernel)) ggX11_greedy_X4_hasSet
set_option maxRecDepth 20000 in
theorem ggX11_greedy_X2_run : GoodIn wsX11_greedy wsX2_run := goodIn_r _ [20, 21, 22, 23, 24, 25, 26, 27, 28, 29, 30, 31, 32, 33, 34, 35, 36, 13, 37, 38, 39, 40, 41, 42, 43, 44, 45, 15, 46, 47, 48, 49, 50, 51, 52, 53, 54, 55, 56, 57, 58, 59, 60, 61, 62, 63, 64, 65, 66, 67, 68, 69, 70, 71, 72, 73, 74, 75, 76, 77, 78, 79, 80, 81, 82, 83, 84, 85, 86, 87, 88, 89, 90, 91, 92, 93, 94, 95, 96, 19, 97, 98, 99, 100, 101, 102, 103, 104, 105, 106, 107, 108, 109, 110, 111, 112, 113, 114, 115, 116, 117, 118, 119, 120, 121, 122, 123, 124, 125, 126, 127, 128, 129, 130, 131, 132, 133, 134, 135, 136, 137, 138, 139, 140, 141, 142, 143, 144, 145, 146, 147, 148, 149, 150, 151, 152, 153, 154, 172, 173, 174, 175, 176, 177, 178, 179, 180, 166, 167, 168, 169, 170, 171, 181, 182, 183, 184, 185] (by decide +kernel) (by decide +kernel)
set_option maxRecDepth 20000 in
theorem gX11_greedy_X2_run : GoodIn wsX11_greedy (wsV RX11 178 RX2 yX2_run wsX2_run) := goodIn_app (goodIn_of _ (by decide +kernel)) ggX11_greedy_X2_run
theorem dX11_greedy_0 : decode cX11_greedy 0 = .ok (.aload_n 0, 1) := by decide +kernel
theorem dX11_greedy_1 : decode cX11_greedy 1 = .ok (.iload_n 1, 1) := by decide +kernel
theorem dX11_greedy_2 : decode cX11_greedy 2 = .ok (.invokevirtual 99, 3) := by decide +kernel
theorem dX11_greedy_5 : decode cX11_greedy 5 = .ok (.astore_n 3, 1) := by decide +kernel
theorem dX11_greedy_6 : decode cX11_greedy 6 = .ok (.aload_n 3, 1) := by decide +kernel
theorem dX11_greedy_7 : decode cX11_greedy 7 = .ok (.ifnull 11, 3) := by decide +kernel
theorem dX11_greedy_10 : decode cX11_greedy 10 = .ok (.aload_n 3, 1) := by decide +kernel
theorem dX11_greedy_11 : decode cX11_greedy 11 = .ok (.iload_n 2, 1) := by decide +kernel
theorem dX11_greedy_12 : decode cX11_greedy 12 = .ok (.invokevirtual 141, 3) := by decide +kernel
theorem dX11_greedy_15 : decode cX11_greedy 15 = .ok (.ifCond .ne 6, 3) := by decide +kernel
theorem dX11_greedy_18 : decode cX11_greedy 18 = .ok (.bipush (-2), 2) := by decide +kernel
theorem dX11_greedy_20 : decode cX11_greedy 20 = .ok (.ireturn, 1) := by decide +kernel
theorem dX11_greedy_21 : decode cX11_greedy 21 = .ok (.aload_n 0, 1) := by decide +kernel
theorem dX11_greedy_22 : decode cX11_greedy 22 = .ok (.getfield 73, 3) := by decide +kernel
theorem dX11_greedy_25 : decode cX11_greedy 25 = .ok (.aload_n 3, 1) := by decide +kernel
theorem dX11_greedy_26 : decode cX11_greedy 26 = .ok (.iload_n 2, 1) := by decide +kernel
theorem dX11_greedy_27 : decode cX11_greedy 27 = .ok (.aload_n 0, 1) := by decide +kernel
theorem dX11_greedy_28 : decode cX11_greedy 28 = .ok (.getfield 18, 3) := by decide +kernel
theorem dX11_greedy_31 : decode cX11_greedy 31 = .ok (.invokevirtual 178, 3) := by decide +kernel
theorem dX11_greedy_34 : decode cX11_greedy 34 = .ok (.ireturn, 1) := by decide +kernel
set_option maxRecDepth 20000 in
theorem ggX11_cheapest_X11_machineAt : GoodIn wsX11_cheapest wsX11_machineAt := goodIn_r _ [6, 7, 8, 148, 149, 150, 151, 152, 153, 154, 155, 156, 157, 158] (by decide +kernel) (by decide +kernel)
set_option maxRecDepth 20000 in
theorem gX11_cheapest_X11_machineAt : GoodIn wsX11_cheapest (wsV RX11 99 RX11 yX11_machineAt wsX11_machineAt) := goodIn_app (goodIn_of _ (by decide +kernel)) ggX11_cheapest_X11_machineAt
set_option maxRecDepth 20000 in
theorem ggX11_cheapest_X4_hasSet : GoodIn wsX11_cheapest wsX4_hasSet := goodIn_r _ [13, 14, 159, 160, 161, 162, 163, 164] (by decide +kernel) (by decide +kernel)
set_option maxRecDepth 20000 in
theorem gX11_cheapest_X4_hasSet : GoodIn wsX11_cheapest (wsV RX11 141 RX4 yX4_hasSet wsX4_hasSet) := goodIn_app (goodIn_of _ (by decide +kernel)) ggX11_cheapest_X4_hasSet
set_option maxRecDepth 20000 in
theorem ggX11_cheapest_X6_look : GoodIn wsX11_cheapest wsX6_look := goodIn_r _ [19, 20, 21, 22, 23, 24, 25, 26, 27, 28, 29, 30, 31, 32, 33, 34, 12, 35, 36, 37, 38, 39, 40, 41, 42, 43, 14, 44, 45, 46, 47, 48, 49, 50, 51, 52, 53, 54, 55, 56, 57, 58, 59, 60, 61, 62, 18, 63, 64, 65, 66, 67, 68, 69, 70, 71, 72, 73, 74, 75, 76, 77, 78, 79, 80, 81, 82, 83, 84, 85, 86, 87, 88, 89, 90, 91, 92, 93, 94, 95, 96, 97, 98, 99, 100, 101, 102, 103, 104, 105, 106, 107, 108, 109, 165, 166, 167, 168, 169, 170, 171, 172, 159, 160, 161, 162, 163, 164, 173] (by decide +kernel) (by decide +kernel)
set_option maxRecDepth 20000 in
theorem gX11_cheapest_X6_look : GoodIn wsX11_cheapest (wsV RX11 182 RX6 yX6_look wsX6_look) := goodIn_app (goodIn_of _ (by decide +kernel)) ggX11_cheapest_X6_look
set_option maxRecDepth 20000 in
theorem ggX11_cheapest_X11_tellWordTo : GoodIn wsX11_cheapest wsX11_tellWordTo := goodIn_r _ [113, 114, 115, 116, 117, 118, 52, 119, 120, 121, 122, 123, 54, 124, 125, 126, 127, 128, 129, 130, 131, 132, 133, 134, 135, 136, 137, 138, 139, 140, 141, 142, 143, 144, 145, 146, 148, 149, 150, 151, 152, 153, 154, 155, 156, 157, 158, 173, 174, 175] (by decide +kernel) (by decide +kernel)
set_option maxRecDepth 20000 in
theorem gX11_cheapest_X11_tellWordTo : GoodIn wsX11_cheapest (wsV RX11 160 RX11 yX11_tellWordTo wsX11_tellWordTo) := goodIn_app (goodIn_of _ (by decide +kernel)) ggX11_cheapest_X11_tellWordTo
set_option maxRecDepth 20000 in
theorem ggX11_cheapest_X6_sumOf : GoodIn wsX11_cheapest wsX6_sumOf := goodIn_r _ [80, 22, 165, 166, 167, 168, 169] (by decide +kernel) (by decide +kernel)
set_option maxRecDepth 20000 in
theorem gX11_cheapest_X6_sumOf : GoodIn wsX11_cheapest (wsV RX11 184 RX6 yX6_sumOf wsX6_sumOf) := goodIn_app (goodIn_of _ (by decide +kernel)) ggX11_cheapest_X6_sumOf
theorem dX11_cheapest_0 : decode cX11_cheapest 0 = .ok (.aload_n 0, 1) := by decide +kernel
theorem dX11_cheapest_1 : decode cX11_cheapest 1 = .ok (.iload_n 1, 1) := by decide +kernel
theorem dX11_cheapest_2 : decode cX11_cheapest 2 = .ok (.invokevirtual 99, 3) := by decide +kernel
theorem dX11_cheapest_5 : decode cX11_cheapest 5 = .ok (.astore_n 3, 1) := by decide +kernel
theorem dX11_cheapest_6 : decode cX11_cheapest 6 = .ok (.aload_n 3, 1) := by decide +kernel
theorem dX11_cheapest_7 : decode cX11_cheapest 7 = .ok (.ifnull 11, 3) := by decide +kernel
theorem dX11_cheapest_10 : decode cX11_cheapest 10 = .ok (.aload_n 3, 1) := by decide +kernel
theorem dX11_cheapest_11 : decode cX11_cheapest 11 = .ok (.iload_n 2, 1) := by decide +kernel
theorem dX11_cheapest_12 : decode cX11_cheapest 12 = .ok (.invokevirtual 141, 3) := by decide +kernel
theorem dX11_cheapest_15 : decode cX11_cheapest 15 = .ok (.ifCond .ne 6, 3) := by decide +kernel
theorem dX11_cheapest_18 : decode cX11_cheapest 18 = .ok (.bipush (-2), 2) := by decide +kernel
theorem dX11_cheapest_20 : decode cX11_cheapest 20 = .ok (.ireturn, 1) := by decide +kernel
theorem dX11_cheapest_21 : decode cX11_cheapest 21 = .ok (.aload_n 0, 1) := by decide +kernel
theorem dX11_cheapest_22 : decode cX11_cheapest 22 = .ok (.getfield 48, 3) := by decide +kernel
theorem dX11_cheapest_25 : decode cX11_cheapest 25 = .ok (.aload_n 3, 1) := by decide +kernel
theorem dX11_cheapest_26 : decode cX11_cheapest 26 = .ok (.iload_n 2, 1) := by decide +kernel
theorem dX11_cheapest_27 : decode cX11_cheapest 27 = .ok (.invokevirtual 182, 3) := by decide +kernel
theorem dX11_cheapest_30 : decode cX11_cheapest 30 = .ok (.istore 4, 2) := by decide +kernel
theorem dX11_cheapest_32 : decode cX11_cheapest 32 = .ok (.iload 4, 2) := by decide +kernel
theorem dX11_cheapest_34 : decode cX11_cheapest 34 = .ok (.ifCond .ne 5, 3) := by decide +kernel
theorem dX11_cheapest_37 : decode cX11_cheapest 37 = .ok (.iconst (-1), 1) := by decide +kernel
theorem dX11_cheapest_38 : decode cX11_cheapest 38 = .ok (.ireturn, 1) := by decide +kernel
theorem dX11_cheapest_39 : decode cX11_cheapest 39 = .ok (.aload_n 0, 1) := by decide +kernel
theorem dX11_cheapest_40 : decode cX11_cheapest 40 = .ok (.iload 4, 2) := by decide +kernel
theorem dX11_cheapest_42 : decode cX11_cheapest 42 = .ok (.invokevirtual 160, 3) := by decide +kernel
theorem dX11_cheapest_45 : decode cX11_cheapest 45 = .ok (.pop, 1) := by decide +kernel
theorem dX11_cheapest_46 : decode cX11_cheapest 46 = .ok (.aload_n 0, 1) := by decide +kernel
theorem dX11_cheapest_47 : decode cX11_cheapest 47 = .ok (.getfield 48, 3) := by decide +kernel
theorem dX11_cheapest_50 : decode cX11_cheapest 50 = .ok (.iload 4, 2) := by decide +kernel
theorem dX11_cheapest_52 : decode cX11_cheapest 52 = .ok (.invokevirtual 184, 3) := by decide +kernel
theorem dX11_cheapest_55 : decode cX11_cheapest 55 = .ok (.ireturn, 1) := by decide +kernel
set_option maxRecDepth 20000 in
theorem ggX11_chance_X11_machineAt : GoodIn wsX11_chance wsX11_machineAt := goodIn_r _ [7, 8, 9, 122, 123, 124, 125, 126, 127, 128, 129, 130, 131, 132] (by decide +kernel) (by decide +kernel)
set_option maxRecDepth 20000 in
theorem gX11_chance_X11_machineAt : GoodIn wsX11_chance (wsV RX11 99 RX11 yX11_machineAt wsX11_machineAt) := goodIn_app (goodIn_of _ (by decide +kernel)) ggX11_chance_X11_machineAt
set_option maxRecDepth 20000 in
theorem ggX11_chance_X4_hasSet : GoodIn wsX11_chance wsX4_hasSet := goodIn_r _ [14, 15, 133, 134, 135, 136, 137, 138] (by decide +kernel) (by decide +kernel)
set_option maxRecDepth 20000 in
theorem gX11_chance_X4_hasSet : GoodIn wsX11_chance (wsV RX11 141 RX4 yX4_hasSet wsX4_hasSet) := goodIn_app (goodIn_of _ (by decide +kernel)) ggX11_chance_X4_hasSet
set_option maxRecDepth 20000 in
theorem ggX11_chance_X0_right : GoodIn wsX11_chance wsX0_right := goodIn_r _ [20, 21, 22, 23, 24, 25, 26, 27, 28, 29, 30, 31, 32, 33, 34, 35, 36, 37, 38, 39, 40, 41, 42, 43, 13, 44, 45, 46, 47, 48, 49, 50, 51, 52, 15, 53, 54, 55, 56, 57, 58, 59, 60, 61, 62, 63, 64, 65, 66, 67, 68, 69, 70, 71, 72, 73, 74, 75, 76, 77, 78, 79, 80, 81, 82, 83, 84, 85, 86, 87, 88, 89, 90, 91, 92, 93, 94, 95, 96, 97, 98, 99, 19, 100, 101, 102, 103, 104, 105, 106, 107, 108, 109, 110, 111, 112, 113, 114, 115, 116, 117, 118, 119, 120, 121, 139, 140, 141, 142, 143, 144, 145, 146, 147, 148, 149, 133, 134, 135, 136, 137, 138, 150] (by decide +kernel) (by decide +kernel)
set_option maxRecDepth 20000 in
theorem gX11_chance_X0_right : GoodIn wsX11_chance (wsV RX11 189 RX0 yX0_right wsX0_right) := goodIn_app (goodIn_of _ (by decide +kernel)) ggX11_chance_X0_right
theorem dX11_chance_0 : decode cX11_chance 0 = .ok (.aload_n 0, 1) := by decide +kernel
theorem dX11_chance_1 : decode cX11_chance 1 = .ok (.iload_n 1, 1) := by decide +kernel
theorem dX11_chance_2 : decode cX11_chance 2 = .ok (.invokevirtual 99, 3) := by decide +kernel
theorem dX11_chance_5 : decode cX11_chance 5 = .ok (.astore 4, 2) := by decide +kernel
theorem dX11_chance_7 : decode cX11_chance 7 = .ok (.aload 4, 2) := by decide +kernel
theorem dX11_chance_9 : decode cX11_chance 9 = .ok (.ifnull 22, 3) := by decide +kernel
theorem dX11_chance_12 : decode cX11_chance 12 = .ok (.aload 4, 2) := by decide +kernel
theorem dX11_chance_14 : decode cX11_chance 14 = .ok (.iload_n 2, 1) := by decide +kernel
theorem dX11_chance_15 : decode cX11_chance 15 = .ok (.invokevirtual 141, 3) := by decide +kernel
theorem dX11_chance_18 : decode cX11_chance 18 = .ok (.ifCond .eq 13, 3) := by decide +kernel
theorem dX11_chance_21 : decode cX11_chance 21 = .ok (.iload_n 3, 1) := by decide +kernel
theorem dX11_chance_22 : decode cX11_chance 22 = .ok (.ifCond .lt 9, 3) := by decide +kernel
theorem dX11_chance_25 : decode cX11_chance 25 = .ok (.iload_n 3, 1) := by decide +kernel
theorem dX11_chance_26 : decode cX11_chance 26 = .ok (.bipush 12, 2) := by decide +kernel
theorem dX11_chance_28 : decode cX11_chance 28 = .ok (.if_icmp .le 7, 3) := by decide +kernel
theorem dX11_chance_31 : decode cX11_chance 31 = .ok (.ldc2_w 187, 3) := by decide +kernel
theorem dX11_chance_34 : decode cX11_chance 34 = .ok (.lreturn, 1) := by decide +kernel
theorem dX11_chance_35 : decode cX11_chance 35 = .ok (.aload_n 0, 1) := by decide +kernel
theorem dX11_chance_36 : decode cX11_chance 36 = .ok (.getfield 57, 3) := by decide +kernel
theorem dX11_chance_39 : decode cX11_chance 39 = .ok (.aload 4, 2) := by decide +kernel
theorem dX11_chance_41 : decode cX11_chance 41 = .ok (.iload_n 2, 1) := by decide +kernel
theorem dX11_chance_42 : decode cX11_chance 42 = .ok (.iload_n 3, 1) := by decide +kernel
theorem dX11_chance_43 : decode cX11_chance 43 = .ok (.invokevirtual 189, 3) := by decide +kernel
theorem dX11_chance_46 : decode cX11_chance 46 = .ok (.lreturn, 1) := by decide +kernel
set_option maxRecDepth 20000 in
theorem ggX11_chances_X11_machineAt : GoodIn wsX11_chances wsX11_machineAt := goodIn_r _ [7, 8, 9, 30, 31, 32, 33, 34, 35, 36, 37, 38, 39, 40] (by decide +kernel) (by decide +kernel)
set_option maxRecDepth 20000 in
theorem gX11_chances_X11_machineAt : GoodIn wsX11_chances (wsV RX11 99 RX11 yX11_machineAt wsX11_machineAt) := goodIn_app (goodIn_of _ (by decide +kernel)) ggX11_chances_X11_machineAt
set_option maxRecDepth 20000 in
theorem ggX11_chances_X0_all : GoodIn wsX11_chances wsX0_all := goodIn_r _ [14, 15, 16, 17, 18, 19, 20, 21, 22, 23, 24, 25, 26, 27, 28, 29, 41, 42, 43, 44, 45, 46] (by decide +kernel) (by decide +kernel)
set_option maxRecDepth 20000 in
theorem gX11_chances_X0_all : GoodIn wsX11_chances (wsV RX11 193 RX0 yX0_all wsX0_all) := goodIn_app (goodIn_of _ (by decide +kernel)) ggX11_chances_X0_all
theorem dX11_chances_0 : decode cX11_chances 0 = .ok (.aload_n 0, 1) := by decide +kernel
theorem dX11_chances_1 : decode cX11_chances 1 = .ok (.iload_n 1, 1) := by decide +kernel
theorem dX11_chances_2 : decode cX11_chances 2 = .ok (.invokevirtual 99, 3) := by decide +kernel
theorem dX11_chances_5 : decode cX11_chances 5 = .ok (.astore_n 3, 1) := by decide +kernel
theorem dX11_chances_6 : decode cX11_chances 6 = .ok (.aload_n 3, 1) := by decide +kernel
theorem dX11_chances_7 : decode cX11_chances 7 = .ok (.ifnull 13, 3) := by decide +kernel
theorem dX11_chances_10 : decode cX11_chances 10 = .ok (.iload_n 2, 1) := by decide +kernel
theorem dX11_chances_11 : decode cX11_chances 11 = .ok (.ifCond .lt 9, 3) := by decide +kernel
theorem dX11_chances_14 : decode cX11_chances 14 = .ok (.iload_n 2, 1) := by decide +kernel
theorem dX11_chances_15 : decode cX11_chances 15 = .ok (.bipush 12, 2) := by decide +kernel
theorem dX11_chances_17 : decode cX11_chances 17 = .ok (.if_icmp .le 7, 3) := by decide +kernel
theorem dX11_chances_20 : decode cX11_chances 20 = .ok (.ldc2_w 187, 3) := by decide +kernel
theorem dX11_chances_23 : decode cX11_chances 23 = .ok (.lreturn, 1) := by decide +kernel
theorem dX11_chances_24 : decode cX11_chances 24 = .ok (.aload_n 0, 1) := by decide +kernel
theorem dX11_chances_25 : decode cX11_chances 25 = .ok (.getfield 57, 3) := by decide +kernel
theorem dX11_chances_28 : decode cX11_chances 28 = .ok (.aload_n 3, 1) := by decide +kernel
theorem dX11_chances_29 : decode cX11_chances 29 = .ok (.iload_n 2, 1) := by decide +kernel
theorem dX11_chances_30 : decode cX11_chances 30 = .ok (.invokevirtual 193, 3) := by decide +kernel
theorem dX11_chances_33 : decode cX11_chances 33 = .ok (.lreturn, 1) := by decide +kernel
set_option maxRecDepth 20000 in
theorem ggX11_kinds_X11_machineAt : GoodIn wsX11_kinds wsX11_machineAt := goodIn_r _ [5, 6, 7, 61, 62, 63, 64, 65, 66, 67, 68, 69, 70, 71] (by decide +kernel) (by decide +kernel)
set_option maxRecDepth 20000 in
theorem gX11_kinds_X11_machineAt : GoodIn wsX11_kinds (wsV RX11 99 RX11 yX11_machineAt wsX11_machineAt) := goodIn_app (goodIn_of _ (by decide +kernel)) ggX11_kinds_X11_machineAt
set_option maxRecDepth 20000 in
theorem ggX11_kinds_X4_isWhole : GoodIn wsX11_kinds wsX4_isWhole := goodIn_r _ [12, 13, 14, 15, 16, 17, 11, 18, 19, 72, 73, 74, 75, 76, 77] (by decide +kernel) (by decide +kernel)
set_option maxRecDepth 20000 in
theorem gX11_kinds_X4_isWhole : GoodIn wsX11_kinds (wsV RX11 197 RX4 yX4_isWhole wsX4_isWhole) := goodIn_app (goodIn_of _ (by decide +kernel)) ggX11_kinds_X4_isWhole
set_option maxRecDepth 20000 in
theorem ggX11_kinds_X3_of : GoodIn wsX11_kinds wsX3_of := goodIn_r _ [23, 24, 25, 22, 26, 27, 28, 29, 11, 30, 13, 31, 32, 33, 34, 35, 36, 37, 14, 38, 16, 17, 18, 19, 39, 40, 41, 42, 43, 44, 45, 46, 47, 48, 49, 50, 51, 52, 53, 54, 55, 56, 57, 58, 59, 60, 72, 73, 74, 75, 76, 77] (by decide +kernel) (by decide +kernel)
set_option maxRecDepth 20000 in
theorem gX11_kinds_X3_of : GoodIn wsX11_kinds (va_wsS RX11 201 yX3_of wsX3_of) := goodIn_app (goodIn_of _ (by decide +kernel)) ggX11_kinds_X3_of
theorem dX11_kinds_0 : decode cX11_kinds 0 = .ok (.aload_n 0, 1) := by decide +kernel
theorem dX11_kinds_1 : decode cX11_kinds 1 = .ok (.iload_n 1, 1) := by decide +kernel
theorem dX11_kinds_2 : decode cX11_kinds 2 = .ok (.invokevirtual 99, 3) := by decide +kernel
theorem dX11_kinds_5 : decode cX11_kinds 5 = .ok (.astore_n 2, 1) := by decide +kernel
theorem dX11_kinds_6 : decode cX11_kinds 6 = .ok (.aload_n 2, 1) := by decide +kernel
theorem dX11_kinds_7 : decode cX11_kinds 7 = .ok (.ifnonnull 6, 3) := by decide +kernel
theorem dX11_kinds_10 : decode cX11_kinds 10 = .ok (.bipush (-2), 2) := by decide +kernel
theorem dX11_kinds_12 : decode cX11_kinds 12 = .ok (.ireturn, 1) := by decide +kernel
theorem dX11_kinds_13 : decode cX11_kinds 13 = .ok (.aload_n 2, 1) := by decide +kernel
theorem dX11_kinds_14 : decode cX11_kinds 14 = .ok (.invokevirtual 197, 3) := by decide +kernel
theorem dX11_kinds_17 : decode cX11_kinds 17 = .ok (.ifCond .eq 10, 3) := by decide +kernel
theorem dX11_kinds_20 : decode cX11_kinds 20 = .ok (.aload_n 2, 1) := by decide +kernel
theorem dX11_kinds_21 : decode cX11_kinds 21 = .ok (.invokestatic 201, 3) := by decide +kernel
theorem dX11_kinds_24 : decode cX11_kinds 24 = .ok (.goto 5, 3) := by decide +kernel
theorem dX11_kinds_27 : decode cX11_kinds 27 = .ok (.bipush (-3), 2) := by decide +kernel
theorem dX11_kinds_29 : decode cX11_kinds 29 = .ok (.ireturn, 1) := by decide +kernel
set_option maxRecDepth 20000 in
theorem ggX11_colour_X11_machineAt : GoodIn wsX11_colour wsX11_machineAt := goodIn_r _ [6, 7, 8, 92, 93, 94, 95, 96, 97, 98, 99, 100, 101, 102] (by decide +kernel) (by decide +kernel)
set_option maxRecDepth 20000 in
theorem gX11_colour_X11_machineAt : GoodIn wsX11_colour (wsV RX11 99 RX11 yX11_machineAt wsX11_machineAt) := goodIn_app (goodIn_of _ (by decide +kernel)) ggX11_colour_X11_machineAt
set_option maxRecDepth 20000 in
theorem ggX11_colour_X4_isWhole : GoodIn wsX11_colour wsX4_isWhole := goodIn_r _ [13, 14, 15, 16, 17, 18, 12, 19, 20, 103, 104, 105, 106, 107, 108] (by decide +kernel) (by decide +kernel)
set_option maxRecDepth 20000 in
theorem gX11_colour_X4_isWhole : GoodIn wsX11_colour (wsV RX11 197 RX4 yX4_isWhole wsX4_isWhole) := goodIn_app (goodIn_of _ (by decide +kernel)) ggX11_colour_X4_isWhole
set_option maxRecDepth 20000 in
theorem ggX11_colour_X1_paint : GoodIn wsX11_colour wsX1_paint := goodIn_r _ [25, 26, 27, 28, 29, 30, 31, 32, 33, 12, 34, 14, 35, 36, 37, 24, 38, 39, 40, 41, 42, 43, 15, 44, 45, 46, 47, 48, 49, 50, 51, 52, 17, 18, 19, 20, 53, 54, 55, 56, 57, 58, 59, 60, 61, 62, 63, 64, 65, 66, 67, 68, 69, 70, 71, 72, 73, 74, 75, 76, 77, 78, 79, 80, 81, 82, 83, 84, 85, 86, 87, 88, 89, 90, 91, 109, 110, 111, 103, 104, 105, 106, 107, 108] (by decide +kernel) (by decide +kernel)
set_option maxRecDepth 20000 in
theorem gX11_colour_X1_paint : GoodIn wsX11_colour (wsV RX11 206 RX1 yX1_paint wsX1_paint) := goodIn_app (goodIn_of _ (by decide +kernel)) ggX11_colour_X1_paint
theorem dX11_colour_0 : decode cX11_colour 0 = .ok (.aload_n 0, 1) := by decide +kernel
theorem dX11_colour_1 : decode cX11_colour 1 = .ok (.iload_n 1, 1) := by decide +kernel
theorem dX11_colour_2 : decode cX11_colour 2 = .ok (.invokevirtual 99, 3) := by decide +kernel
theorem dX11_colour_5 : decode cX11_colour 5 = .ok (.astore_n 2, 1) := by decide +kernel
theorem dX11_colour_6 : decode cX11_colour 6 = .ok (.aload_n 2, 1) := by decide +kernel
theorem dX11_colour_7 : decode cX11_colour 7 = .ok (.ifnonnull 6, 3) := by decide +kernel
theorem dX11_colour_10 : decode cX11_colour 10 = .ok (.bipush (-2), 2) := by decide +kernel
theorem dX11_colour_12 : decode cX11_colour 12 = .ok (.ireturn, 1) := by decide +kernel
theorem dX11_colour_13 : decode cX11_colour 13 = .ok (.aload_n 2, 1) := by decide +kernel
theorem dX11_colour_14 : decode cX11_colour 14 = .ok (.invokevirtual 197, 3) := by decide +kernel
theorem dX11_colour_17 : decode cX11_colour 17 = .ok (.ifCond .eq 14, 3) := by decide +kernel
theorem dX11_colour_20 : decode cX11_colour 20 = .ok (.aload_n 0, 1) := by decide +kernel
theorem dX11_colour_21 : decode cX11_colour 21 = .ok (.getfield 80, 3) := by decide +kernel
theorem dX11_colour_24 : decode cX11_colour 24 = .ok (.aload_n 2, 1) := by decide +kernel
theorem dX11_colour_25 : decode cX11_colour 25 = .ok (.invokevirtual 206, 3) := by decide +kernel
theorem dX11_colour_28 : decode cX11_colour 28 = .ok (.goto 5, 3) := by decide +kernel
theorem dX11_colour_31 : decode cX11_colour 31 = .ok (.bipush (-3), 2) := by decide +kernel
theorem dX11_colour_33 : decode cX11_colour 33 = .ok (.ireturn, 1) := by decide +kernel
set_option maxRecDepth 20000 in
theorem ggX11_apart_X11_machineAt : GoodIn wsX11_apart wsX11_machineAt := goodIn_r _ [6, 7, 8, 54, 55, 56, 57, 58, 59, 60, 61, 62, 63, 64] (by decide +kernel) (by decide +kernel)
set_option maxRecDepth 20000 in
theorem gX11_apart_X11_machineAt : GoodIn wsX11_apart (wsV RX11 99 RX11 yX11_machineAt wsX11_machineAt) := goodIn_app (goodIn_of _ (by decide +kernel)) ggX11_apart_X11_machineAt
set_option maxRecDepth 20000 in
theorem ggX11_apart_X4_hasState : GoodIn wsX11_apart wsX4_hasState := goodIn_r _ [13, 14, 65, 66, 67, 68, 69, 70] (by decide +kernel) (by decide +kernel)
set_option maxRecDepth 20000 in
theorem gX11_apart_X4_hasState : GoodIn wsX11_apart (wsV RX11 103 RX4 yX4_hasState wsX4_hasState) := goodIn_app (goodIn_of _ (by decide +kernel)) ggX11_apart_X4_hasState
set_option maxRecDepth 20000 in
theorem ggX11_apart_X5_lengthApart : GoodIn wsX11_apart wsX5_lengthApart := goodIn_r _ [19, 20, 21, 22, 23, 24, 25, 26, 27, 28, 18, 29, 30, 31, 32, 12, 33, 34, 35, 10, 11, 13, 14, 36, 37, 38, 39, 40, 41, 42, 43, 44, 45, 46, 47, 48, 49, 50, 51, 52, 53, 71, 72, 73, 65, 66, 67, 68, 69, 70] (by decide +kernel) (by decide +kernel)
set_option maxRecDepth 20000 in
theorem gX11_apart_X5_lengthApart : GoodIn wsX11_apart (wsV RX11 209 RX5 yX5_lengthApart wsX5_lengthApart) := goodIn_app (goodIn_of _ (by decide +kernel)) ggX11_apart_X5_lengthApart
theorem dX11_apart_0 : decode cX11_apart 0 = .ok (.aload_n 0, 1) := by decide +kernel
theorem dX11_apart_1 : decode cX11_apart 1 = .ok (.iload_n 1, 1) := by decide +kernel
theorem dX11_apart_2 : decode cX11_apart 2 = .ok (.invokevirtual 99, 3) := by decide +kernel
theorem dX11_apart_5 : decode cX11_apart 5 = .ok (.astore 4, 2) := by decide +kernel
theorem dX11_apart_7 : decode cX11_apart 7 = .ok (.aload 4, 2) := by decide +kernel
theorem dX11_apart_9 : decode cX11_apart 9 = .ok (.ifnull 21, 3) := by decide +kernel
theorem dX11_apart_12 : decode cX11_apart 12 = .ok (.aload 4, 2) := by decide +kernel
theorem dX11_apart_14 : decode cX11_apart 14 = .ok (.iload_n 2, 1) := by decide +kernel
theorem dX11_apart_15 : decode cX11_apart 15 = .ok (.invokevirtual 103, 3) := by decide +kernel
theorem dX11_apart_18 : decode cX11_apart 18 = .ok (.ifCond .eq 12, 3) := by decide +kernel
theorem dX11_apart_21 : decode cX11_apart 21 = .ok (.aload 4, 2) := by decide +kernel
theorem dX11_apart_23 : decode cX11_apart 23 = .ok (.iload_n 3, 1) := by decide +kernel
theorem dX11_apart_24 : decode cX11_apart 24 = .ok (.invokevirtual 103, 3) := by decide +kernel
theorem dX11_apart_27 : decode cX11_apart 27 = .ok (.ifCond .ne 6, 3) := by decide +kernel
theorem dX11_apart_30 : decode cX11_apart 30 = .ok (.bipush (-2), 2) := by decide +kernel
theorem dX11_apart_32 : decode cX11_apart 32 = .ok (.ireturn, 1) := by decide +kernel
theorem dX11_apart_33 : decode cX11_apart 33 = .ok (.aload_n 0, 1) := by decide +kernel
theorem dX11_apart_34 : decode cX11_apart 34 = .ok (.getfield 64, 3) := by decide +kernel
theorem dX11_apart_37 : decode cX11_apart 37 = .ok (.aload 4, 2) := by decide +kernel
theorem dX11_apart_39 : decode cX11_apart 39 = .ok (.iload_n 2, 1) := by decide +kernel
theorem dX11_apart_40 : decode cX11_apart 40 = .ok (.iload_n 3, 1) := by decide +kernel
theorem dX11_apart_41 : decode cX11_apart 41 = .ok (.invokevirtual 209, 3) := by decide +kernel
theorem dX11_apart_44 : decode cX11_apart 44 = .ok (.ireturn, 1) := by decide +kernel
set_option maxRecDepth 20000 in
theorem ggX11_count_X10_length : GoodIn wsX11_count wsX10_length := goodIn_r _ [7, 8, 20, 21] (by decide +kernel) (by decide +kernel)
set_option maxRecDepth 20000 in
theorem gX11_count_X10_length : GoodIn wsX11_count (wsV RX11 127 RX10 yX10_length wsX10_length) := goodIn_app (goodIn_of _ (by decide +kernel)) ggX11_count_X10_length
theorem dX11_count_0 : decode cX11_count 0 = .ok (.iload_n 1, 1) := by decide +kernel
theorem dX11_count_1 : decode cX11_count 1 = .ok (.ifCond .lt 8, 3) := by decide +kernel
theorem dX11_count_4 : decode cX11_count 4 = .ok (.iload_n 1, 1) := by decide +kernel
theorem dX11_count_5 : decode cX11_count 5 = .ok (.iconst 1, 1) := by decide +kernel
theorem dX11_count_6 : decode cX11_count 6 = .ok (.if_icmp .le 6, 3) := by decide +kernel
theorem dX11_count_9 : decode cX11_count 9 = .ok (.bipush (-2), 2) := by decide +kernel
theorem dX11_count_11 : decode cX11_count 11 = .ok (.ireturn, 1) := by decide +kernel
theorem dX11_count_12 : decode cX11_count 12 = .ok (.iload_n 1, 1) := by decide +kernel
theorem dX11_count_13 : decode cX11_count 13 = .ok (.ifCond .ne 10, 3) := by decide +kernel
theorem dX11_count_16 : decode cX11_count 16 = .ok (.aload_n 0, 1) := by decide +kernel
theorem dX11_count_17 : decode cX11_count 17 = .ok (.getfield 84, 3) := by decide +kernel
theorem dX11_count_20 : decode cX11_count 20 = .ok (.goto 10, 3) := by decide +kernel
theorem dX11_count_23 : decode cX11_count 23 = .ok (.aload_n 0, 1) := by decide +kernel
theorem dX11_count_24 : decode cX11_count 24 = .ok (.getfield 18, 3) := by decide +kernel
theorem dX11_count_27 : decode cX11_count 27 = .ok (.invokevirtual 127, 3) := by decide +kernel
theorem dX11_count_30 : decode cX11_count 30 = .ok (.ireturn, 1) := by decide +kernel
set_option maxRecDepth 20000 in
theorem ggX11_digest_X11_digestOf : GoodIn wsX11_digest wsX11_digestOf := goodIn_r _ [9, 4, 10, 11, 8, 12, 13, 14, 15, 16, 17, 18, 19, 20, 21, 22, 23, 24, 25, 26, 27, 28, 29, 30, 31, 32, 33, 34, 35, 36, 37, 38, 39, 40, 41, 42, 43, 44, 45, 46, 47, 48, 49, 50, 51, 52, 53, 54, 55, 56, 79, 80, 81, 82, 83, 84] (by decide +kernel) (by decide +kernel)
set_option maxRecDepth 20000 in
theorem gX11_digest_X11_digestOf : GoodIn wsX11_digest (va_wsS RX11 214 yX11_digestOf wsX11_digestOf) := goodIn_app (goodIn_of _ (by decide +kernel)) ggX11_digest_X11_digestOf
set_option maxRecDepth 20000 in
theorem ggX11_digest_X10_length : GoodIn wsX11_digest wsX10_length := goodIn_r _ [61, 62, 85, 86] (by decide +kernel) (by decide +kernel)
set_option maxRecDepth 20000 in
theorem gX11_digest_X10_length : GoodIn wsX11_digest (wsV RX11 127 RX10 yX10_length wsX10_length) := goodIn_app (goodIn_of _ (by decide +kernel)) ggX11_digest_X10_length
set_option maxRecDepth 20000 in
theorem ggX11_digest_X10_at : GoodIn wsX11_digest wsX10_at := goodIn_r _ [66, 62, 67, 85, 86] (by decide +kernel) (by decide +kernel)
set_option maxRecDepth 20000 in
theorem gX11_digest_X10_at : GoodIn wsX11_digest (wsV RX11 137 RX10 yX10_at wsX10_at) := goodIn_app (goodIn_of _ (by decide +kernel)) ggX11_digest_X10_at
theorem dX11_digest_0 : decode cX11_digest 0 = .ok (.ldc2_w 212, 3) := by decide +kernel
theorem dX11_digest_3 : decode cX11_digest 3 = .ok (.lstore_n 1, 1) := by decide +kernel
theorem dX11_digest_4 : decode cX11_digest 4 = .ok (.iconst 0, 1) := by decide +kernel
theorem dX11_digest_5 : decode cX11_digest 5 = .ok (.istore_n 3, 1) := by decide +kernel
theorem dX11_digest_6 : decode cX11_digest 6 = .ok (.iload_n 3, 1) := by decide +kernel
theorem dX11_digest_7 : decode cX11_digest 7 = .ok (.aload_n 0, 1) := by decide +kernel
theorem dX11_digest_8 : decode cX11_digest 8 = .ok (.getfield 84, 3) := by decide +kernel
theorem dX11_digest_11 : decode cX11_digest 11 = .ok (.if_icmp .ge 35, 3) := by decide +kernel
theorem dX11_digest_14 : decode cX11_digest 14 = .ok (.iload_n 3, 1) := by decide +kernel
theorem dX11_digest_15 : decode cX11_digest 15 = .ok (.bipush 6, 2) := by decide +kernel
theorem dX11_digest_17 : decode cX11_digest 17 = .ok (.if_icmp .ge 29, 3) := by decide +kernel
theorem dX11_digest_20 : decode cX11_digest 20 = .ok (.aload_n 0, 1) := by decide +kernel
theorem dX11_digest_21 : decode cX11_digest 21 = .ok (.getfield 11, 3) := by decide +kernel
theorem dX11_digest_24 : decode cX11_digest 24 = .ok (.iload_n 3, 1) := by decide +kernel
theorem dX11_digest_25 : decode cX11_digest 25 = .ok (.aaload, 1) := by decide +kernel
theorem dX11_digest_26 : decode cX11_digest 26 = .ok (.ifnull 14, 3) := by decide +kernel
theorem dX11_digest_29 : decode cX11_digest 29 = .ok (.aload_n 0, 1) := by decide +kernel
theorem dX11_digest_30 : decode cX11_digest 30 = .ok (.getfield 11, 3) := by decide +kernel
theorem dX11_digest_33 : decode cX11_digest 33 = .ok (.iload_n 3, 1) := by decide +kernel
theorem dX11_digest_34 : decode cX11_digest 34 = .ok (.aaload, 1) := by decide +kernel
theorem dX11_digest_35 : decode cX11_digest 35 = .ok (.lload_n 1, 1) := by decide +kernel
theorem dX11_digest_36 : decode cX11_digest 36 = .ok (.invokestatic 214, 3) := by decide +kernel
theorem dX11_digest_39 : decode cX11_digest 39 = .ok (.lstore_n 1, 1) := by decide +kernel
theorem dX11_digest_40 : decode cX11_digest 40 = .ok (.iinc 3 1, 3) := by decide +kernel
theorem dX11_digest_43 : decode cX11_digest 43 = .ok (.goto (-37), 3) := by decide +kernel
theorem dX11_digest_46 : decode cX11_digest 46 = .ok (.ldc2_w 218, 3) := by decide +kernel
theorem dX11_digest_49 : decode cX11_digest 49 = .ok (.lload_n 1, 1) := by decide +kernel
theorem dX11_digest_50 : decode cX11_digest 50 = .ok (.lmul, 1) := by decide +kernel
theorem dX11_digest_51 : decode cX11_digest 51 = .ok (.aload_n 0, 1) := by decide +kernel
theorem dX11_digest_52 : decode cX11_digest 52 = .ok (.getfield 18, 3) := by decide +kernel
theorem dX11_digest_55 : decode cX11_digest 55 = .ok (.invokevirtual 127, 3) := by decide +kernel
theorem dX11_digest_58 : decode cX11_digest 58 = .ok (.i2l, 1) := by decide +kernel
theorem dX11_digest_59 : decode cX11_digest 59 = .ok (.ladd, 1) := by decide +kernel
theorem dX11_digest_60 : decode cX11_digest 60 = .ok (.lstore_n 1, 1) := by decide +kernel
theorem dX11_digest_61 : decode cX11_digest 61 = .ok (.iconst 0, 1) := by decide +kernel
theorem dX11_digest_62 : decode cX11_digest 62 = .ok (.istore_n 3, 1) := by decide +kernel
theorem dX11_digest_63 : decode cX11_digest 63 = .ok (.iload_n 3, 1) := by decide +kernel
theorem dX11_digest_64 : decode cX11_digest 64 = .ok (.aload_n 0, 1) := by decide +kernel
theorem dX11_digest_65 : decode cX11_digest 65 = .ok (.getfield 18, 3) := by decide +kernel
theorem dX11_digest_68 : decode cX11_digest 68 = .ok (.invokevirtual 127, 3) := by decide +kernel
theorem dX11_digest_71 : decode cX11_digest 71 = .ok (.if_icmp .ge 25, 3) := by decide +kernel
theorem dX11_digest_74 : decode cX11_digest 74 = .ok (.ldc2_w 218, 3) := by decide +kernel
theorem dX11_digest_77 : decode cX11_digest 77 = .ok (.lload_n 1, 1) := by decide +kernel
theorem dX11_digest_78 : decode cX11_digest 78 = .ok (.lmul, 1) := by decide +kernel
theorem dX11_digest_79 : decode cX11_digest 79 = .ok (.aload_n 0, 1) := by decide +kernel
theorem dX11_digest_80 : decode cX11_digest 80 = .ok (.getfield 18, 3) := by decide +kernel
theorem dX11_digest_83 : decode cX11_digest 83 = .ok (.iload_n 3, 1) := by decide +kernel
theorem dX11_digest_84 : decode cX11_digest 84 = .ok (.invokevirtual 137, 3) := by decide +kernel
theorem dX11_digest_87 : decode cX11_digest 87 = .ok (.i2l, 1) := by decide +kernel
theorem dX11_digest_88 : decode cX11_digest 88 = .ok (.ladd, 1) := by decide +kernel
theorem dX11_digest_89 : decode cX11_digest 89 = .ok (.lstore_n 1, 1) := by decide +kernel
theorem dX11_digest_90 : decode cX11_digest 90 = .ok (.iinc 3 1, 3) := by decide +kernel
theorem dX11_digest_93 : decode cX11_digest 93 = .ok (.goto (-30), 3) := by decide +kernel
theorem dX11_digest_96 : decode cX11_digest 96 = .ok (.lload_n 1, 1) := by decide +kernel
theorem dX11_digest_97 : decode cX11_digest 97 = .ok (.lreturn, 1) := by decide +kernel
set_option maxRecDepth 20000 in
theorem ggX11_digestOf_X11_fact : GoodIn wsX11_digestOf wsX11_fact := goodIn_r _ [5, 6, 7, 8, 9, 10, 11, 12, 13, 14, 15, 16, 17, 18, 19, 20, 21, 22, 23, 24, 25, 50, 51, 52, 53, 54, 55] (by decide +kernel) (by decide +kernel)
set_option maxRecDepth 20000 in
theorem gX11_digestOf_X11_fact : GoodIn wsX11_digestOf (va_wsS RX11 123 yX11_fact wsX11_fact) := goodIn_app (goodIn_of _ (by decide +kernel)) ggX11_digestOf_X11_fact
set_option maxRecDepth 20000 in
theorem ggX11_digestOf_X4_states : GoodIn wsX11_digestOf wsX4_states := goodIn_r _ [10, 11, 50, 51, 52, 53, 54, 55] (by decide +kernel) (by decide +kernel)
set_option maxRecDepth 20000 in
theorem gX11_digestOf_X4_states : GoodIn wsX11_digestOf (wsV RX11 220 RX4 yX4_states wsX4_states) := goodIn_app (goodIn_of _ (by decide +kernel)) ggX11_digestOf_X4_states
set_option maxRecDepth 20000 in
theorem ggX11_digestOf_X4_letters : GoodIn wsX11_digestOf wsX4_letters := goodIn_r _ [15, 16, 50, 51, 52, 53, 54, 55] (by decide +kernel) (by decide +kernel)
set_option maxRecDepth 20000 in
theorem gX11_digestOf_X4_letters : GoodIn wsX11_digestOf (wsV RX11 223 RX4 yX4_letters wsX4_letters) := goodIn_app (goodIn_of _ (by decide +kernel)) ggX11_digestOf_X4_letters
set_option maxRecDepth 20000 in
theorem ggX11_digestOf_X4_target : GoodIn wsX11_digestOf wsX4_target := goodIn_r _ [24, 11, 16, 25, 50, 51, 52, 53, 54, 55] (by decide +kernel) (by decide +kernel)
set_option maxRecDepth 20000 in
theorem gX11_digestOf_X4_target : GoodIn wsX11_digestOf (wsV RX11 110 RX4 yX4_target wsX4_target) := goodIn_app (goodIn_of _ (by decide +kernel)) ggX11_digestOf_X4_target
set_option maxRecDepth 20000 in
theorem ggX11_digestOf_X4_lightOf : GoodIn wsX11_digestOf wsX4_lightOf := goodIn_r _ [30, 31, 32, 33, 34, 9, 35, 11, 50, 51, 52, 53, 54, 55] (by decide +kernel) (by decide +kernel)
set_option maxRecDepth 20000 in
theorem gX11_digestOf_X4_lightOf : GoodIn wsX11_digestOf (wsV RX11 226 RX4 yX4_lightOf wsX4_lightOf) := goodIn_app (goodIn_of _ (by decide +kernel)) ggX11_digestOf_X4_lightOf
set_option maxRecDepth 20000 in
theorem ggX11_digestOf_X4_priceOf : GoodIn wsX11_digestOf wsX4_priceOf := goodIn_r _ [39, 40, 41, 42, 43, 9, 44, 16, 50, 51, 52, 53, 54, 55] (by decide +kernel) (by decide +kernel)
set_option maxRecDepth 20000 in
theorem gX11_digestOf_X4_priceOf : GoodIn wsX11_digestOf (wsV RX11 229 RX4 yX4_priceOf wsX4_priceOf) := goodIn_app (goodIn_of _ (by decide +kernel)) ggX11_digestOf_X4_priceOf
set_option maxRecDepth 20000 in
theorem ggX11_digestOf_X4_shareOf : GoodIn wsX11_digestOf wsX4_shareOf := goodIn_r _ [48, 49, 41, 42, 43, 9, 44, 16, 50, 51, 52, 53, 54, 55] (by decide +kernel) (by decide +kernel)
set_option maxRecDepth 20000 in
theorem gX11_digestOf_X4_shareOf : GoodIn wsX11_digestOf (wsV RX11 232 RX4 yX4_shareOf wsX4_shareOf) := goodIn_app (goodIn_of _ (by decide +kernel)) ggX11_digestOf_X4_shareOf
theorem dX11_digestOf_0 : decode cX11_digestOf 0 = .ok (.lload_n 1, 1) := by decide +kernel
theorem dX11_digestOf_1 : decode cX11_digestOf 1 = .ok (.lstore_n 3, 1) := by decide +kernel
theorem dX11_digestOf_2 : decode cX11_digestOf 2 = .ok (.iconst 0, 1) := by decide +kernel
theorem dX11_digestOf_3 : decode cX11_digestOf 3 = .ok (.istore 5, 2) := by decide +kernel
theorem dX11_digestOf_5 : decode cX11_digestOf 5 = .ok (.iload 5, 2) := by decide +kernel
theorem dX11_digestOf_7 : decode cX11_digestOf 7 = .ok (.iconst 2, 1) := by decide +kernel
theorem dX11_digestOf_8 : decode cX11_digestOf 8 = .ok (.if_icmp .gt 23, 3) := by decide +kernel
theorem dX11_digestOf_11 : decode cX11_digestOf 11 = .ok (.ldc2_w 218, 3) := by decide +kernel
theorem dX11_digestOf_14 : decode cX11_digestOf 14 = .ok (.lload_n 3, 1) := by decide +kernel
theorem dX11_digestOf_15 : decode cX11_digestOf 15 = .ok (.lmul, 1) := by decide +kernel
theorem dX11_digestOf_16 : decode cX11_digestOf 16 = .ok (.aload_n 0, 1) := by decide +kernel
theorem dX11_digestOf_17 : decode cX11_digestOf 17 = .ok (.iload 5, 2) := by decide +kernel
theorem dX11_digestOf_19 : decode cX11_digestOf 19 = .ok (.invokestatic 123, 3) := by decide +kernel
theorem dX11_digestOf_22 : decode cX11_digestOf 22 = .ok (.i2l, 1) := by decide +kernel
theorem dX11_digestOf_23 : decode cX11_digestOf 23 = .ok (.ladd, 1) := by decide +kernel
theorem dX11_digestOf_24 : decode cX11_digestOf 24 = .ok (.lstore_n 3, 1) := by decide +kernel
theorem dX11_digestOf_25 : decode cX11_digestOf 25 = .ok (.iinc 5 1, 3) := by decide +kernel
theorem dX11_digestOf_28 : decode cX11_digestOf 28 = .ok (.goto (-23), 3) := by decide +kernel
theorem dX11_digestOf_31 : decode cX11_digestOf 31 = .ok (.iconst 0, 1) := by decide +kernel
theorem dX11_digestOf_32 : decode cX11_digestOf 32 = .ok (.istore 5, 2) := by decide +kernel
theorem dX11_digestOf_34 : decode cX11_digestOf 34 = .ok (.iload 5, 2) := by decide +kernel
theorem dX11_digestOf_36 : decode cX11_digestOf 36 = .ok (.aload_n 0, 1) := by decide +kernel
theorem dX11_digestOf_37 : decode cX11_digestOf 37 = .ok (.invokevirtual 220, 3) := by decide +kernel
theorem dX11_digestOf_40 : decode cX11_digestOf 40 = .ok (.if_icmp .ge 57, 3) := by decide +kernel
theorem dX11_digestOf_43 : decode cX11_digestOf 43 = .ok (.iconst 0, 1) := by decide +kernel
theorem dX11_digestOf_44 : decode cX11_digestOf 44 = .ok (.istore 6, 2) := by decide +kernel
theorem dX11_digestOf_46 : decode cX11_digestOf 46 = .ok (.iload 6, 2) := by decide +kernel
theorem dX11_digestOf_48 : decode cX11_digestOf 48 = .ok (.aload_n 0, 1) := by decide +kernel
theorem dX11_digestOf_49 : decode cX11_digestOf 49 = .ok (.invokevirtual 223, 3) := by decide +kernel
theorem dX11_digestOf_52 : decode cX11_digestOf 52 = .ok (.if_icmp .ge 25, 3) := by decide +kernel
theorem dX11_digestOf_55 : decode cX11_digestOf 55 = .ok (.ldc2_w 218, 3) := by decide +kernel
theorem dX11_digestOf_58 : decode cX11_digestOf 58 = .ok (.lload_n 3, 1) := by decide +kernel
theorem dX11_digestOf_59 : decode cX11_digestOf 59 = .ok (.lmul, 1) := by decide +kernel
theorem dX11_digestOf_60 : decode cX11_digestOf 60 = .ok (.aload_n 0, 1) := by decide +kernel
theorem dX11_digestOf_61 : decode cX11_digestOf 61 = .ok (.iload 5, 2) := by decide +kernel
theorem dX11_digestOf_63 : decode cX11_digestOf 63 = .ok (.iload 6, 2) := by decide +kernel
theorem dX11_digestOf_65 : decode cX11_digestOf 65 = .ok (.invokevirtual 110, 3) := by decide +kernel
theorem dX11_digestOf_68 : decode cX11_digestOf 68 = .ok (.i2l, 1) := by decide +kernel
theorem dX11_digestOf_69 : decode cX11_digestOf 69 = .ok (.ladd, 1) := by decide +kernel
theorem dX11_digestOf_70 : decode cX11_digestOf 70 = .ok (.lstore_n 3, 1) := by decide +kernel
theorem dX11_digestOf_71 : decode cX11_digestOf 71 = .ok (.iinc 6 1, 3) := by decide +kernel
theorem dX11_digestOf_74 : decode cX11_digestOf 74 = .ok (.goto (-28), 3) := by decide +kernel
theorem dX11_digestOf_77 : decode cX11_digestOf 77 = .ok (.ldc2_w 218, 3) := by decide +kernel
theorem dX11_digestOf_80 : decode cX11_digestOf 80 = .ok (.lload_n 3, 1) := by decide +kernel
theorem dX11_digestOf_81 : decode cX11_digestOf 81 = .ok (.lmul, 1) := by decide +kernel
theorem dX11_digestOf_82 : decode cX11_digestOf 82 = .ok (.aload_n 0, 1) := by decide +kernel
theorem dX11_digestOf_83 : decode cX11_digestOf 83 = .ok (.iload 5, 2) := by decide +kernel
theorem dX11_digestOf_85 : decode cX11_digestOf 85 = .ok (.invokevirtual 226, 3) := by decide +kernel
theorem dX11_digestOf_88 : decode cX11_digestOf 88 = .ok (.i2l, 1) := by decide +kernel
theorem dX11_digestOf_89 : decode cX11_digestOf 89 = .ok (.ladd, 1) := by decide +kernel
theorem dX11_digestOf_90 : decode cX11_digestOf 90 = .ok (.lstore_n 3, 1) := by decide +kernel
theorem dX11_digestOf_91 : decode cX11_digestOf 91 = .ok (.iinc 5 1, 3) := by decide +kernel
theorem dX11_digestOf_94 : decode cX11_digestOf 94 = .ok (.goto (-60), 3) := by decide +kernel
theorem dX11_digestOf_97 : decode cX11_digestOf 97 = .ok (.iconst 0, 1) := by decide +kernel
theorem dX11_digestOf_98 : decode cX11_digestOf 98 = .ok (.istore 5, 2) := by decide +kernel
