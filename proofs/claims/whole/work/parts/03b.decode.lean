theorem dX4_hasSet_20 : decode cX4_hasSet 20 = .ok (.iconst 1, 1) := by decide +kernel
theorem dX4_hasSet_21 : decode cX4_hasSet 21 = .ok (.goto 4, 3) := by decide +kernel
theorem dX4_hasSet_24 : decode cX4_hasSet 24 = .ok (.iconst 0, 1) := by decide +kernel
theorem dX4_hasSet_25 : decode cX4_hasSet 25 = .ok (.ireturn, 1) := by decide +kernel
theorem dX4_target_0 : decode cX4_target 0 = .ok (.iload_n 1, 1) := by decide +kernel
theorem dX4_target_1 : decode cX4_target 1 = .ok (.ifCond .lt 38, 3) := by decide +kernel
theorem dX4_target_4 : decode cX4_target 4 = .ok (.iload_n 1, 1) := by decide +kernel
theorem dX4_target_5 : decode cX4_target 5 = .ok (.aload_n 0, 1) := by decide +kernel
theorem dX4_target_6 : decode cX4_target 6 = .ok (.getfield 24, 3) := by decide +kernel
theorem dX4_target_9 : decode cX4_target 9 = .ok (.if_icmp .ge 30, 3) := by decide +kernel
theorem dX4_target_12 : decode cX4_target 12 = .ok (.iload_n 1, 1) := by decide +kernel
theorem dX4_target_13 : decode cX4_target 13 = .ok (.bipush 12, 2) := by decide +kernel
theorem dX4_target_15 : decode cX4_target 15 = .ok (.if_icmp .ge 24, 3) := by decide +kernel
theorem dX4_target_18 : decode cX4_target 18 = .ok (.iload_n 2, 1) := by decide +kernel
theorem dX4_target_19 : decode cX4_target 19 = .ok (.ifCond .lt 20, 3) := by decide +kernel
theorem dX4_target_22 : decode cX4_target 22 = .ok (.iload_n 2, 1) := by decide +kernel
theorem dX4_target_23 : decode cX4_target 23 = .ok (.aload_n 0, 1) := by decide +kernel
theorem dX4_target_24 : decode cX4_target 24 = .ok (.getfield 28, 3) := by decide +kernel
theorem dX4_target_27 : decode cX4_target 27 = .ok (.if_icmp .ge 12, 3) := by decide +kernel
theorem dX4_target_30 : decode cX4_target 30 = .ok (.iload_n 2, 1) := by decide +kernel
theorem dX4_target_31 : decode cX4_target 31 = .ok (.iconst 4, 1) := by decide +kernel
theorem dX4_target_32 : decode cX4_target 32 = .ok (.if_icmp .ge 7, 3) := by decide +kernel
theorem dX4_target_35 : decode cX4_target 35 = .ok (.iconst 1, 1) := by decide +kernel
theorem dX4_target_36 : decode cX4_target 36 = .ok (.goto 4, 3) := by decide +kernel
theorem dX4_target_39 : decode cX4_target 39 = .ok (.iconst 0, 1) := by decide +kernel
theorem dX4_target_40 : decode cX4_target 40 = .ok (.istore_n 3, 1) := by decide +kernel
theorem dX4_target_41 : decode cX4_target 41 = .ok (.iload_n 3, 1) := by decide +kernel
theorem dX4_target_42 : decode cX4_target 42 = .ok (.ifCond .eq 16, 3) := by decide +kernel
theorem dX4_target_45 : decode cX4_target 45 = .ok (.aload_n 0, 1) := by decide +kernel
theorem dX4_target_46 : decode cX4_target 46 = .ok (.getfield 9, 3) := by decide +kernel
theorem dX4_target_49 : decode cX4_target 49 = .ok (.iload_n 1, 1) := by decide +kernel
theorem dX4_target_50 : decode cX4_target 50 = .ok (.iconst 4, 1) := by decide +kernel
theorem dX4_target_51 : decode cX4_target 51 = .ok (.imul, 1) := by decide +kernel
theorem dX4_target_52 : decode cX4_target 52 = .ok (.iload_n 2, 1) := by decide +kernel
theorem dX4_target_53 : decode cX4_target 53 = .ok (.iadd, 1) := by decide +kernel
theorem dX4_target_54 : decode cX4_target 54 = .ok (.iaload, 1) := by decide +kernel
theorem dX4_target_55 : decode cX4_target 55 = .ok (.goto 4, 3) := by decide +kernel
theorem dX4_target_58 : decode cX4_target 58 = .ok (.iconst (-1), 1) := by decide +kernel
theorem dX4_target_59 : decode cX4_target 59 = .ok (.ireturn, 1) := by decide +kernel
set_option maxRecDepth 20000 in
theorem ggX4_lead_X4_hasState : GoodIn wsX4_lead wsX4_hasState := goodIn_r _ [6, 7, 13, 14, 15, 16, 17, 18] (by decide +kernel) (by decide +kernel)
set_option maxRecDepth 20000 in
theorem gX4_lead_X4_hasState : GoodIn wsX4_lead (wsV RX4 37 RX4 yX4_hasState wsX4_hasState) := goodIn_app (goodIn_of _ (by decide +kernel)) ggX4_lead_X4_hasState
set_option maxRecDepth 20000 in
theorem ggX4_lead_X4_hasLetter : GoodIn wsX4_lead wsX4_hasLetter := goodIn_r _ [11, 12, 13, 14, 15, 16, 17, 18] (by decide +kernel) (by decide +kernel)
set_option maxRecDepth 20000 in
theorem gX4_lead_X4_hasLetter : GoodIn wsX4_lead (wsV RX4 41 RX4 yX4_hasLetter wsX4_hasLetter) := goodIn_app (goodIn_of _ (by decide +kernel)) ggX4_lead_X4_hasLetter
theorem dX4_lead_0 : decode cX4_lead 0 = .ok (.aload_n 0, 1) := by decide +kernel
theorem dX4_lead_1 : decode cX4_lead 1 = .ok (.iload_n 1, 1) := by decide +kernel
theorem dX4_lead_2 : decode cX4_lead 2 = .ok (.invokevirtual 37, 3) := by decide +kernel
theorem dX4_lead_5 : decode cX4_lead 5 = .ok (.ifCond .eq 34, 3) := by decide +kernel
theorem dX4_lead_8 : decode cX4_lead 8 = .ok (.aload_n 0, 1) := by decide +kernel
theorem dX4_lead_9 : decode cX4_lead 9 = .ok (.iload_n 2, 1) := by decide +kernel
theorem dX4_lead_10 : decode cX4_lead 10 = .ok (.invokevirtual 41, 3) := by decide +kernel
theorem dX4_lead_13 : decode cX4_lead 13 = .ok (.ifCond .eq 26, 3) := by decide +kernel
theorem dX4_lead_16 : decode cX4_lead 16 = .ok (.aload_n 0, 1) := by decide +kernel
theorem dX4_lead_17 : decode cX4_lead 17 = .ok (.getfield 9, 3) := by decide +kernel
theorem dX4_lead_20 : decode cX4_lead 20 = .ok (.iload_n 1, 1) := by decide +kernel
theorem dX4_lead_21 : decode cX4_lead 21 = .ok (.iconst 4, 1) := by decide +kernel
theorem dX4_lead_22 : decode cX4_lead 22 = .ok (.imul, 1) := by decide +kernel
theorem dX4_lead_23 : decode cX4_lead 23 = .ok (.iload_n 2, 1) := by decide +kernel
theorem dX4_lead_24 : decode cX4_lead 24 = .ok (.iadd, 1) := by decide +kernel
theorem dX4_lead_25 : decode cX4_lead 25 = .ok (.aload_n 0, 1) := by decide +kernel
theorem dX4_lead_26 : decode cX4_lead 26 = .ok (.iload_n 3, 1) := by decide +kernel
theorem dX4_lead_27 : decode cX4_lead 27 = .ok (.invokevirtual 37, 3) := by decide +kernel
theorem dX4_lead_30 : decode cX4_lead 30 = .ok (.ifCond .eq 7, 3) := by decide +kernel
theorem dX4_lead_33 : decode cX4_lead 33 = .ok (.iload_n 3, 1) := by decide +kernel
theorem dX4_lead_34 : decode cX4_lead 34 = .ok (.goto 4, 3) := by decide +kernel
theorem dX4_lead_37 : decode cX4_lead 37 = .ok (.iconst (-1), 1) := by decide +kernel
theorem dX4_lead_38 : decode cX4_lead 38 = .ok (.iastore, 1) := by decide +kernel
theorem dX4_lead_39 : decode cX4_lead 39 = .ok (.return_, 1) := by decide +kernel
set_option maxRecDepth 20000 in
theorem ggX4_lightOf_X4_hasState : GoodIn wsX4_lightOf wsX4_hasState := goodIn_r _ [6, 7, 8, 9, 10, 11, 12, 13] (by decide +kernel) (by decide +kernel)
set_option maxRecDepth 20000 in
theorem gX4_lightOf_X4_hasState : GoodIn wsX4_lightOf (wsV RX4 37 RX4 yX4_hasState wsX4_hasState) := goodIn_app (goodIn_of _ (by decide +kernel)) ggX4_lightOf_X4_hasState
theorem dX4_lightOf_0 : decode cX4_lightOf 0 = .ok (.aload_n 0, 1) := by decide +kernel
theorem dX4_lightOf_1 : decode cX4_lightOf 1 = .ok (.iload_n 1, 1) := by decide +kernel
theorem dX4_lightOf_2 : decode cX4_lightOf 2 = .ok (.invokevirtual 37, 3) := by decide +kernel
theorem dX4_lightOf_5 : decode cX4_lightOf 5 = .ok (.ifCond .eq 12, 3) := by decide +kernel
theorem dX4_lightOf_8 : decode cX4_lightOf 8 = .ok (.aload_n 0, 1) := by decide +kernel
theorem dX4_lightOf_9 : decode cX4_lightOf 9 = .ok (.getfield 15, 3) := by decide +kernel
theorem dX4_lightOf_12 : decode cX4_lightOf 12 = .ok (.iload_n 1, 1) := by decide +kernel
theorem dX4_lightOf_13 : decode cX4_lightOf 13 = .ok (.iaload, 1) := by decide +kernel
theorem dX4_lightOf_14 : decode cX4_lightOf 14 = .ok (.goto 4, 3) := by decide +kernel
theorem dX4_lightOf_17 : decode cX4_lightOf 17 = .ok (.iconst 0, 1) := by decide +kernel
theorem dX4_lightOf_18 : decode cX4_lightOf 18 = .ok (.ireturn, 1) := by decide +kernel
set_option maxRecDepth 20000 in
theorem ggX4_priceOf_X4_hasLetter : GoodIn wsX4_priceOf wsX4_hasLetter := goodIn_r _ [6, 7, 8, 9, 10, 11, 12, 13] (by decide +kernel) (by decide +kernel)
set_option maxRecDepth 20000 in
theorem gX4_priceOf_X4_hasLetter : GoodIn wsX4_priceOf (wsV RX4 41 RX4 yX4_hasLetter wsX4_hasLetter) := goodIn_app (goodIn_of _ (by decide +kernel)) ggX4_priceOf_X4_hasLetter
theorem dX4_priceOf_0 : decode cX4_priceOf 0 = .ok (.aload_n 0, 1) := by decide +kernel
theorem dX4_priceOf_1 : decode cX4_priceOf 1 = .ok (.iload_n 1, 1) := by decide +kernel
theorem dX4_priceOf_2 : decode cX4_priceOf 2 = .ok (.invokevirtual 41, 3) := by decide +kernel
theorem dX4_priceOf_5 : decode cX4_priceOf 5 = .ok (.ifCond .eq 12, 3) := by decide +kernel
theorem dX4_priceOf_8 : decode cX4_priceOf 8 = .ok (.aload_n 0, 1) := by decide +kernel
theorem dX4_priceOf_9 : decode cX4_priceOf 9 = .ok (.getfield 18, 3) := by decide +kernel
theorem dX4_priceOf_12 : decode cX4_priceOf 12 = .ok (.iload_n 1, 1) := by decide +kernel
theorem dX4_priceOf_13 : decode cX4_priceOf 13 = .ok (.iaload, 1) := by decide +kernel
theorem dX4_priceOf_14 : decode cX4_priceOf 14 = .ok (.goto 4, 3) := by decide +kernel
theorem dX4_priceOf_17 : decode cX4_priceOf 17 = .ok (.iconst 1, 1) := by decide +kernel
theorem dX4_priceOf_18 : decode cX4_priceOf 18 = .ok (.ireturn, 1) := by decide +kernel
set_option maxRecDepth 20000 in
theorem ggX4_shareOf_X4_hasLetter : GoodIn wsX4_shareOf wsX4_hasLetter := goodIn_r _ [6, 7, 8, 9, 10, 11, 12, 13] (by decide +kernel) (by decide +kernel)
set_option maxRecDepth 20000 in
theorem gX4_shareOf_X4_hasLetter : GoodIn wsX4_shareOf (wsV RX4 41 RX4 yX4_hasLetter wsX4_hasLetter) := goodIn_app (goodIn_of _ (by decide +kernel)) ggX4_shareOf_X4_hasLetter
theorem dX4_shareOf_0 : decode cX4_shareOf 0 = .ok (.aload_n 0, 1) := by decide +kernel
theorem dX4_shareOf_1 : decode cX4_shareOf 1 = .ok (.iload_n 1, 1) := by decide +kernel
theorem dX4_shareOf_2 : decode cX4_shareOf 2 = .ok (.invokevirtual 41, 3) := by decide +kernel
theorem dX4_shareOf_5 : decode cX4_shareOf 5 = .ok (.ifCond .eq 12, 3) := by decide +kernel
theorem dX4_shareOf_8 : decode cX4_shareOf 8 = .ok (.aload_n 0, 1) := by decide +kernel
theorem dX4_shareOf_9 : decode cX4_shareOf 9 = .ok (.getfield 21, 3) := by decide +kernel
theorem dX4_shareOf_12 : decode cX4_shareOf 12 = .ok (.iload_n 1, 1) := by decide +kernel
theorem dX4_shareOf_13 : decode cX4_shareOf 13 = .ok (.iaload, 1) := by decide +kernel
theorem dX4_shareOf_14 : decode cX4_shareOf 14 = .ok (.goto 4, 3) := by decide +kernel
theorem dX4_shareOf_17 : decode cX4_shareOf 17 = .ok (.iconst 0, 1) := by decide +kernel
theorem dX4_shareOf_18 : decode cX4_shareOf 18 = .ok (.ireturn, 1) := by decide +kernel
set_option maxRecDepth 20000 in
theorem ggX4_putLight_X4_lightOf : GoodIn wsX4_putLight wsX4_lightOf := goodIn_r _ [6, 1, 7, 8, 9, 5, 10, 11, 12, 13, 14, 15, 16, 17] (by decide +kernel) (by decide +kernel)
set_option maxRecDepth 20000 in
theorem gX4_putLight_X4_lightOf : GoodIn wsX4_putLight (wsV RX4 44 RX4 yX4_lightOf wsX4_lightOf) := goodIn_app (goodIn_of _ (by decide +kernel)) ggX4_putLight_X4_lightOf
set_option maxRecDepth 20000 in
theorem ggX4_putLight_X4_hasState : GoodIn wsX4_putLight wsX4_hasState := goodIn_r _ [10, 11, 12, 13, 14, 15, 16, 17] (by decide +kernel) (by decide +kernel)
set_option maxRecDepth 20000 in
theorem gX4_putLight_X4_hasState : GoodIn wsX4_putLight (wsV RX4 37 RX4 yX4_hasState wsX4_hasState) := goodIn_app (goodIn_of _ (by decide +kernel)) ggX4_putLight_X4_hasState
theorem dX4_putLight_0 : decode cX4_putLight 0 = .ok (.aload_n 0, 1) := by decide +kernel
theorem dX4_putLight_1 : decode cX4_putLight 1 = .ok (.iload_n 1, 1) := by decide +kernel
theorem dX4_putLight_2 : decode cX4_putLight 2 = .ok (.invokevirtual 44, 3) := by decide +kernel
theorem dX4_putLight_5 : decode cX4_putLight 5 = .ok (.istore_n 3, 1) := by decide +kernel
theorem dX4_putLight_6 : decode cX4_putLight 6 = .ok (.aload_n 0, 1) := by decide +kernel
theorem dX4_putLight_7 : decode cX4_putLight 7 = .ok (.iload_n 1, 1) := by decide +kernel
theorem dX4_putLight_8 : decode cX4_putLight 8 = .ok (.invokevirtual 37, 3) := by decide +kernel
theorem dX4_putLight_11 : decode cX4_putLight 11 = .ok (.ifCond .eq 10, 3) := by decide +kernel
theorem dX4_putLight_14 : decode cX4_putLight 14 = .ok (.aload_n 0, 1) := by decide +kernel
theorem dX4_putLight_15 : decode cX4_putLight 15 = .ok (.getfield 15, 3) := by decide +kernel
theorem dX4_putLight_18 : decode cX4_putLight 18 = .ok (.iload_n 1, 1) := by decide +kernel
theorem dX4_putLight_19 : decode cX4_putLight 19 = .ok (.iload_n 2, 1) := by decide +kernel
theorem dX4_putLight_20 : decode cX4_putLight 20 = .ok (.iastore, 1) := by decide +kernel
theorem dX4_putLight_21 : decode cX4_putLight 21 = .ok (.iload_n 3, 1) := by decide +kernel
theorem dX4_putLight_22 : decode cX4_putLight 22 = .ok (.ireturn, 1) := by decide +kernel
set_option maxRecDepth 20000 in
theorem ggX4_putPrice_X4_priceOf : GoodIn wsX4_putPrice wsX4_priceOf := goodIn_r _ [6, 1, 7, 8, 9, 5, 10, 11, 12, 13, 14, 15, 16, 17] (by decide +kernel) (by decide +kernel)
set_option maxRecDepth 20000 in
theorem gX4_putPrice_X4_priceOf : GoodIn wsX4_putPrice (wsV RX4 48 RX4 yX4_priceOf wsX4_priceOf) := goodIn_app (goodIn_of _ (by decide +kernel)) ggX4_putPrice_X4_priceOf
set_option maxRecDepth 20000 in
theorem ggX4_putPrice_X4_hasLetter : GoodIn wsX4_putPrice wsX4_hasLetter := goodIn_r _ [10, 11, 12, 13, 14, 15, 16, 17] (by decide +kernel) (by decide +kernel)
set_option maxRecDepth 20000 in
theorem gX4_putPrice_X4_hasLetter : GoodIn wsX4_putPrice (wsV RX4 41 RX4 yX4_hasLetter wsX4_hasLetter) := goodIn_app (goodIn_of _ (by decide +kernel)) ggX4_putPrice_X4_hasLetter
theorem dX4_putPrice_0 : decode cX4_putPrice 0 = .ok (.aload_n 0, 1) := by decide +kernel
theorem dX4_putPrice_1 : decode cX4_putPrice 1 = .ok (.iload_n 1, 1) := by decide +kernel
theorem dX4_putPrice_2 : decode cX4_putPrice 2 = .ok (.invokevirtual 48, 3) := by decide +kernel
theorem dX4_putPrice_5 : decode cX4_putPrice 5 = .ok (.istore_n 3, 1) := by decide +kernel
theorem dX4_putPrice_6 : decode cX4_putPrice 6 = .ok (.aload_n 0, 1) := by decide +kernel
theorem dX4_putPrice_7 : decode cX4_putPrice 7 = .ok (.iload_n 1, 1) := by decide +kernel
theorem dX4_putPrice_8 : decode cX4_putPrice 8 = .ok (.invokevirtual 41, 3) := by decide +kernel
theorem dX4_putPrice_11 : decode cX4_putPrice 11 = .ok (.ifCond .eq 10, 3) := by decide +kernel
theorem dX4_putPrice_14 : decode cX4_putPrice 14 = .ok (.aload_n 0, 1) := by decide +kernel
theorem dX4_putPrice_15 : decode cX4_putPrice 15 = .ok (.getfield 18, 3) := by decide +kernel
theorem dX4_putPrice_18 : decode cX4_putPrice 18 = .ok (.iload_n 1, 1) := by decide +kernel
theorem dX4_putPrice_19 : decode cX4_putPrice 19 = .ok (.iload_n 2, 1) := by decide +kernel
theorem dX4_putPrice_20 : decode cX4_putPrice 20 = .ok (.iastore, 1) := by decide +kernel
theorem dX4_putPrice_21 : decode cX4_putPrice 21 = .ok (.iload_n 3, 1) := by decide +kernel
theorem dX4_putPrice_22 : decode cX4_putPrice 22 = .ok (.ireturn, 1) := by decide +kernel
set_option maxRecDepth 20000 in
theorem ggX4_putShare_X4_shareOf : GoodIn wsX4_putShare wsX4_shareOf := goodIn_r _ [6, 1, 7, 8, 9, 5, 10, 11, 12, 13, 14, 15, 16, 17] (by decide +kernel) (by decide +kernel)
set_option maxRecDepth 20000 in
theorem gX4_putShare_X4_shareOf : GoodIn wsX4_putShare (wsV RX4 51 RX4 yX4_shareOf wsX4_shareOf) := goodIn_app (goodIn_of _ (by decide +kernel)) ggX4_putShare_X4_shareOf
set_option maxRecDepth 20000 in
theorem ggX4_putShare_X4_hasLetter : GoodIn wsX4_putShare wsX4_hasLetter := goodIn_r _ [10, 11, 12, 13, 14, 15, 16, 17] (by decide +kernel) (by decide +kernel)
set_option maxRecDepth 20000 in
theorem gX4_putShare_X4_hasLetter : GoodIn wsX4_putShare (wsV RX4 41 RX4 yX4_hasLetter wsX4_hasLetter) := goodIn_app (goodIn_of _ (by decide +kernel)) ggX4_putShare_X4_hasLetter
theorem dX4_putShare_0 : decode cX4_putShare 0 = .ok (.aload_n 0, 1) := by decide +kernel
theorem dX4_putShare_1 : decode cX4_putShare 1 = .ok (.iload_n 1, 1) := by decide +kernel
theorem dX4_putShare_2 : decode cX4_putShare 2 = .ok (.invokevirtual 51, 3) := by decide +kernel
theorem dX4_putShare_5 : decode cX4_putShare 5 = .ok (.istore_n 3, 1) := by decide +kernel
theorem dX4_putShare_6 : decode cX4_putShare 6 = .ok (.aload_n 0, 1) := by decide +kernel
theorem dX4_putShare_7 : decode cX4_putShare 7 = .ok (.iload_n 1, 1) := by decide +kernel
theorem dX4_putShare_8 : decode cX4_putShare 8 = .ok (.invokevirtual 41, 3) := by decide +kernel
theorem dX4_putShare_11 : decode cX4_putShare 11 = .ok (.ifCond .eq 10, 3) := by decide +kernel
theorem dX4_putShare_14 : decode cX4_putShare 14 = .ok (.aload_n 0, 1) := by decide +kernel
theorem dX4_putShare_15 : decode cX4_putShare 15 = .ok (.getfield 21, 3) := by decide +kernel
theorem dX4_putShare_18 : decode cX4_putShare 18 = .ok (.iload_n 1, 1) := by decide +kernel
theorem dX4_putShare_19 : decode cX4_putShare 19 = .ok (.iload_n 2, 1) := by decide +kernel
theorem dX4_putShare_20 : decode cX4_putShare 20 = .ok (.iastore, 1) := by decide +kernel
theorem dX4_putShare_21 : decode cX4_putShare 21 = .ok (.iload_n 3, 1) := by decide +kernel
theorem dX4_putShare_22 : decode cX4_putShare 22 = .ok (.ireturn, 1) := by decide +kernel
set_option maxRecDepth 20000 in
theorem ggX4_isWhole_X4_target : GoodIn wsX4_isWhole wsX4_target := goodIn_r _ [7, 1, 2, 8, 9, 10, 11, 12, 13, 14] (by decide +kernel) (by decide +kernel)
set_option maxRecDepth 20000 in
theorem gX4_isWhole_X4_target : GoodIn wsX4_isWhole (wsV RX4 54 RX4 yX4_target wsX4_target) := goodIn_app (goodIn_of _ (by decide +kernel)) ggX4_isWhole_X4_target
theorem dX4_isWhole_0 : decode cX4_isWhole 0 = .ok (.iconst 0, 1) := by decide +kernel
theorem dX4_isWhole_1 : decode cX4_isWhole 1 = .ok (.istore_n 1, 1) := by decide +kernel
theorem dX4_isWhole_2 : decode cX4_isWhole 2 = .ok (.iload_n 1, 1) := by decide +kernel
theorem dX4_isWhole_3 : decode cX4_isWhole 3 = .ok (.aload_n 0, 1) := by decide +kernel
theorem dX4_isWhole_4 : decode cX4_isWhole 4 = .ok (.getfield 24, 3) := by decide +kernel
theorem dX4_isWhole_7 : decode cX4_isWhole 7 = .ok (.if_icmp .ge 37, 3) := by decide +kernel
theorem dX4_isWhole_10 : decode cX4_isWhole 10 = .ok (.iconst 0, 1) := by decide +kernel
theorem dX4_isWhole_11 : decode cX4_isWhole 11 = .ok (.istore_n 2, 1) := by decide +kernel
theorem dX4_isWhole_12 : decode cX4_isWhole 12 = .ok (.iload_n 2, 1) := by decide +kernel
theorem dX4_isWhole_13 : decode cX4_isWhole 13 = .ok (.aload_n 0, 1) := by decide +kernel
theorem dX4_isWhole_14 : decode cX4_isWhole 14 = .ok (.getfield 28, 3) := by decide +kernel
theorem dX4_isWhole_17 : decode cX4_isWhole 17 = .ok (.if_icmp .ge 21, 3) := by decide +kernel
theorem dX4_isWhole_20 : decode cX4_isWhole 20 = .ok (.aload_n 0, 1) := by decide +kernel
theorem dX4_isWhole_21 : decode cX4_isWhole 21 = .ok (.iload_n 1, 1) := by decide +kernel
theorem dX4_isWhole_22 : decode cX4_isWhole 22 = .ok (.iload_n 2, 1) := by decide +kernel
theorem dX4_isWhole_23 : decode cX4_isWhole 23 = .ok (.invokevirtual 54, 3) := by decide +kernel
theorem dX4_isWhole_26 : decode cX4_isWhole 26 = .ok (.iconst (-1), 1) := by decide +kernel
theorem dX4_isWhole_27 : decode cX4_isWhole 27 = .ok (.if_icmp .ne 5, 3) := by decide +kernel
theorem dX4_isWhole_30 : decode cX4_isWhole 30 = .ok (.iconst 0, 1) := by decide +kernel
theorem dX4_isWhole_31 : decode cX4_isWhole 31 = .ok (.ireturn, 1) := by decide +kernel
theorem dX4_isWhole_32 : decode cX4_isWhole 32 = .ok (.iinc 2 1, 3) := by decide +kernel
theorem dX4_isWhole_35 : decode cX4_isWhole 35 = .ok (.goto (-23), 3) := by decide +kernel
theorem dX4_isWhole_38 : decode cX4_isWhole 38 = .ok (.iinc 1 1, 3) := by decide +kernel
theorem dX4_isWhole_41 : decode cX4_isWhole 41 = .ok (.goto (-39), 3) := by decide +kernel
theorem dX4_isWhole_44 : decode cX4_isWhole 44 = .ok (.iconst 1, 1) := by decide +kernel
theorem dX4_isWhole_45 : decode cX4_isWhole 45 = .ok (.ireturn, 1) := by decide +kernel
theorem dX5_init_0 : decode cX5_init 0 = .ok (.aload_n 0, 1) := by decide +kernel
theorem dX5_init_1 : decode cX5_init 1 = .ok (.invokespecial 3, 3) := by decide +kernel
theorem dX5_init_4 : decode cX5_init 4 = .ok (.aload_n 0, 1) := by decide +kernel
theorem dX5_init_5 : decode cX5_init 5 = .ok (.sipush 144, 3) := by decide +kernel
theorem dX5_init_8 : decode cX5_init 8 = .ok (.newarray .int, 2) := by decide +kernel
theorem dX5_init_10 : decode cX5_init 10 = .ok (.putfield 9, 3) := by decide +kernel
theorem dX5_init_13 : decode cX5_init 13 = .ok (.aload_n 0, 1) := by decide +kernel
theorem dX5_init_14 : decode cX5_init 14 = .ok (.sipush 144, 3) := by decide +kernel
theorem dX5_init_17 : decode cX5_init 17 = .ok (.newarray .int, 2) := by decide +kernel
theorem dX5_init_19 : decode cX5_init 19 = .ok (.putfield 15, 3) := by decide +kernel
theorem dX5_init_22 : decode cX5_init 22 = .ok (.return_, 1) := by decide +kernel
set_option maxRecDepth 20000 in
theorem ggX5_load_J7_fill_53178 : GoodIn wsX5_load wsJ7_fill_53178 := goodIn_r _ [6] (by decide +kernel) (by decide +kernel)
set_option maxRecDepth 20000 in
theorem gX5_load_J7_fill_53178 : GoodIn wsX5_load (va_wsS RX5 18 yJ7_fill_53178 wsJ7_fill_53178) := goodIn_app (goodIn_of _ (by decide +kernel)) ggX5_load_J7_fill_53178
set_option maxRecDepth 20000 in
theorem ggX5_load_X4_states : GoodIn wsX5_load wsX4_states := goodIn_r _ [11, 12, 43, 44, 45, 46, 47, 48] (by decide +kernel) (by decide +kernel)
set_option maxRecDepth 20000 in
theorem gX5_load_X4_states : GoodIn wsX5_load (wsV RX5 24 RX4 yX4_states wsX4_states) := goodIn_app (goodIn_of _ (by decide +kernel)) ggX5_load_X4_states
set_option maxRecDepth 20000 in
theorem ggX5_load_X5_setLength : GoodIn wsX5_load wsX5_setLength := goodIn_r _ [17, 1, 40, 41, 42] (by decide +kernel) (by decide +kernel)
set_option maxRecDepth 20000 in
theorem gX5_load_X5_setLength : GoodIn wsX5_load (wsV RX5 30 RX5 yX5_setLength wsX5_setLength) := goodIn_app (goodIn_of _ (by decide +kernel)) ggX5_load_X5_setLength
set_option maxRecDepth 20000 in
theorem ggX5_load_X5_findOf : GoodIn wsX5_load wsX5_findOf := goodIn_r _ [21, 2, 7, 8, 9, 10, 11, 12, 22, 23, 24, 16, 25, 1, 26, 27, 28, 29, 30, 31, 32, 33, 34, 35, 36, 37, 38, 39, 13, 14, 15, 17, 40, 41, 42, 43, 44, 45, 46, 47, 48] (by decide +kernel) (by decide +kernel)
set_option maxRecDepth 20000 in
theorem gX5_load_X5_findOf : GoodIn wsX5_load (wsV RX5 38 RX5 yX5_findOf wsX5_findOf) := goodIn_app (goodIn_of _ (by decide +kernel)) ggX5_load_X5_findOf
theorem dX5_load_0 : decode cX5_load 0 = .ok (.aload_n 0, 1) := by decide +kernel
theorem dX5_load_1 : decode cX5_load 1 = .ok (.getfield 9, 3) := by decide +kernel
theorem dX5_load_4 : decode cX5_load 4 = .ok (.iconst (-1), 1) := by decide +kernel
theorem dX5_load_5 : decode cX5_load 5 = .ok (.invokestatic 18, 3) := by decide +kernel
theorem dX5_load_8 : decode cX5_load 8 = .ok (.iconst 0, 1) := by decide +kernel
theorem dX5_load_9 : decode cX5_load 9 = .ok (.istore_n 2, 1) := by decide +kernel
theorem dX5_load_10 : decode cX5_load 10 = .ok (.iload_n 2, 1) := by decide +kernel
theorem dX5_load_11 : decode cX5_load 11 = .ok (.aload_n 1, 1) := by decide +kernel
theorem dX5_load_12 : decode cX5_load 12 = .ok (.invokevirtual 24, 3) := by decide +kernel
theorem dX5_load_15 : decode cX5_load 15 = .ok (.if_icmp .ge 16, 3) := by decide +kernel
theorem dX5_load_18 : decode cX5_load 18 = .ok (.aload_n 0, 1) := by decide +kernel
theorem dX5_load_19 : decode cX5_load 19 = .ok (.iload_n 2, 1) := by decide +kernel
theorem dX5_load_20 : decode cX5_load 20 = .ok (.iload_n 2, 1) := by decide +kernel
theorem dX5_load_21 : decode cX5_load 21 = .ok (.iconst 0, 1) := by decide +kernel
theorem dX5_load_22 : decode cX5_load 22 = .ok (.invokevirtual 30, 3) := by decide +kernel
theorem dX5_load_25 : decode cX5_load 25 = .ok (.iinc 2 1, 3) := by decide +kernel
theorem dX5_load_28 : decode cX5_load 28 = .ok (.goto (-18), 3) := by decide +kernel
theorem dX5_load_31 : decode cX5_load 31 = .ok (.aload_n 0, 1) := by decide +kernel
theorem dX5_load_32 : decode cX5_load 32 = .ok (.aload_n 1, 1) := by decide +kernel
theorem dX5_load_33 : decode cX5_load 33 = .ok (.invokevirtual 24, 3) := by decide +kernel
theorem dX5_load_36 : decode cX5_load 36 = .ok (.aload_n 1, 1) := by decide +kernel
theorem dX5_load_37 : decode cX5_load 37 = .ok (.invokevirtual 24, 3) := by decide +kernel
theorem dX5_load_40 : decode cX5_load 40 = .ok (.iconst 1, 1) := by decide +kernel
theorem dX5_load_41 : decode cX5_load 41 = .ok (.isub, 1) := by decide +kernel
theorem dX5_load_42 : decode cX5_load 42 = .ok (.imul, 1) := by decide +kernel
theorem dX5_load_43 : decode cX5_load 43 = .ok (.iconst 2, 1) := by decide +kernel
theorem dX5_load_44 : decode cX5_load 44 = .ok (.idiv, 1) := by decide +kernel
theorem dX5_load_45 : decode cX5_load 45 = .ok (.putfield 34, 3) := by decide +kernel
theorem dX5_load_48 : decode cX5_load 48 = .ok (.iconst 1, 1) := by decide +kernel
theorem dX5_load_49 : decode cX5_load 49 = .ok (.istore_n 2, 1) := by decide +kernel
theorem dX5_load_50 : decode cX5_load 50 = .ok (.iconst 1, 1) := by decide +kernel
theorem dX5_load_51 : decode cX5_load 51 = .ok (.istore_n 3, 1) := by decide +kernel
theorem dX5_load_52 : decode cX5_load 52 = .ok (.iload_n 3, 1) := by decide +kernel
theorem dX5_load_53 : decode cX5_load 53 = .ok (.sipush 144, 3) := by decide +kernel
theorem dX5_load_56 : decode cX5_load 56 = .ok (.if_icmp .gt 20, 3) := by decide +kernel
theorem dX5_load_59 : decode cX5_load 59 = .ok (.iload_n 2, 1) := by decide +kernel
theorem dX5_load_60 : decode cX5_load 60 = .ok (.ifCond .eq 16, 3) := by decide +kernel
theorem dX5_load_63 : decode cX5_load 63 = .ok (.aload_n 0, 1) := by decide +kernel
theorem dX5_load_64 : decode cX5_load 64 = .ok (.aload_n 1, 1) := by decide +kernel
theorem dX5_load_65 : decode cX5_load 65 = .ok (.iload_n 3, 1) := by decide +kernel
theorem dX5_load_66 : decode cX5_load 66 = .ok (.invokevirtual 38, 3) := by decide +kernel
theorem dX5_load_69 : decode cX5_load 69 = .ok (.istore_n 2, 1) := by decide +kernel
theorem dX5_load_70 : decode cX5_load 70 = .ok (.iinc 3 1, 3) := by decide +kernel
theorem dX5_load_73 : decode cX5_load 73 = .ok (.goto (-21), 3) := by decide +kernel
theorem dX5_load_76 : decode cX5_load 76 = .ok (.return_, 1) := by decide +kernel
set_option maxRecDepth 20000 in
theorem ggX5_findOf_X4_states : GoodIn wsX5_findOf wsX4_states := goodIn_r _ [6, 7, 35, 36, 37, 38, 39, 40] (by decide +kernel) (by decide +kernel)
set_option maxRecDepth 20000 in
theorem gX5_findOf_X4_states : GoodIn wsX5_findOf (wsV RX5 24 RX4 yX4_states wsX4_states) := goodIn_app (goodIn_of _ (by decide +kernel)) ggX5_findOf_X4_states
set_option maxRecDepth 20000 in
theorem ggX5_findOf_X5_lengthOf : GoodIn wsX5_findOf wsX5_lengthOf := goodIn_r _ [12, 13, 32, 33, 34] (by decide +kernel) (by decide +kernel)
set_option maxRecDepth 20000 in
theorem gX5_findOf_X5_lengthOf : GoodIn wsX5_findOf (wsV RX5 42 RX5 yX5_lengthOf wsX5_lengthOf) := goodIn_app (goodIn_of _ (by decide +kernel)) ggX5_findOf_X5_lengthOf
set_option maxRecDepth 20000 in
theorem ggX5_findOf_X5_firstLetter : GoodIn wsX5_findOf wsX5_firstLetter := goodIn_r _ [17, 18, 19, 20, 5, 21, 22, 23, 24, 25, 26, 7, 27, 8, 9, 10, 11, 12, 13, 35, 36, 37, 38, 39, 40, 32, 33, 34] (by decide +kernel) (by decide +kernel)
set_option maxRecDepth 20000 in
theorem gX5_findOf_X5_firstLetter : GoodIn wsX5_findOf (wsV RX5 46 RX5 yX5_firstLetter wsX5_firstLetter) := goodIn_app (goodIn_of _ (by decide +kernel)) ggX5_findOf_X5_firstLetter
set_option maxRecDepth 20000 in
theorem ggX5_findOf_X5_setLength : GoodIn wsX5_findOf wsX5_setLength := goodIn_r _ [31, 13, 32, 33, 34] (by decide +kernel) (by decide +kernel)
set_option maxRecDepth 20000 in
theorem gX5_findOf_X5_setLength : GoodIn wsX5_findOf (wsV RX5 30 RX5 yX5_setLength wsX5_setLength) := goodIn_app (goodIn_of _ (by decide +kernel)) ggX5_findOf_X5_setLength
theorem dX5_findOf_0 : decode cX5_findOf 0 = .ok (.iconst 0, 1) := by decide +kernel
theorem dX5_findOf_1 : decode cX5_findOf 1 = .ok (.istore_n 3, 1) := by decide +kernel
theorem dX5_findOf_2 : decode cX5_findOf 2 = .ok (.iconst 0, 1) := by decide +kernel
theorem dX5_findOf_3 : decode cX5_findOf 3 = .ok (.istore 4, 2) := by decide +kernel
theorem dX5_findOf_5 : decode cX5_findOf 5 = .ok (.iload 4, 2) := by decide +kernel
theorem dX5_findOf_7 : decode cX5_findOf 7 = .ok (.aload_n 1, 1) := by decide +kernel
theorem dX5_findOf_8 : decode cX5_findOf 8 = .ok (.invokevirtual 24, 3) := by decide +kernel
theorem dX5_findOf_11 : decode cX5_findOf 11 = .ok (.if_icmp .ge 86, 3) := by decide +kernel
theorem dX5_findOf_14 : decode cX5_findOf 14 = .ok (.iload 4, 2) := by decide +kernel
theorem dX5_findOf_16 : decode cX5_findOf 16 = .ok (.iconst 1, 1) := by decide +kernel
theorem dX5_findOf_17 : decode cX5_findOf 17 = .ok (.iadd, 1) := by decide +kernel
theorem dX5_findOf_18 : decode cX5_findOf 18 = .ok (.istore 5, 2) := by decide +kernel
theorem dX5_findOf_20 : decode cX5_findOf 20 = .ok (.iload 5, 2) := by decide +kernel
theorem dX5_findOf_22 : decode cX5_findOf 22 = .ok (.aload_n 1, 1) := by decide +kernel
theorem dX5_findOf_23 : decode cX5_findOf 23 = .ok (.invokevirtual 24, 3) := by decide +kernel
theorem dX5_findOf_26 : decode cX5_findOf 26 = .ok (.if_icmp .ge 65, 3) := by decide +kernel
theorem dX5_findOf_29 : decode cX5_findOf 29 = .ok (.aload_n 0, 1) := by decide +kernel
theorem dX5_findOf_30 : decode cX5_findOf 30 = .ok (.iload 4, 2) := by decide +kernel
theorem dX5_findOf_32 : decode cX5_findOf 32 = .ok (.iload 5, 2) := by decide +kernel
theorem dX5_findOf_34 : decode cX5_findOf 34 = .ok (.invokevirtual 42, 3) := by decide +kernel
theorem dX5_findOf_37 : decode cX5_findOf 37 = .ok (.iconst (-1), 1) := by decide +kernel
theorem dX5_findOf_38 : decode cX5_findOf 38 = .ok (.if_icmp .ne 47, 3) := by decide +kernel
theorem dX5_findOf_41 : decode cX5_findOf 41 = .ok (.aload_n 0, 1) := by decide +kernel
theorem dX5_findOf_42 : decode cX5_findOf 42 = .ok (.aload_n 1, 1) := by decide +kernel
theorem dX5_findOf_43 : decode cX5_findOf 43 = .ok (.iload 4, 2) := by decide +kernel
theorem dX5_findOf_45 : decode cX5_findOf 45 = .ok (.iload 5, 2) := by decide +kernel
theorem dX5_findOf_47 : decode cX5_findOf 47 = .ok (.iload_n 2, 1) := by decide +kernel
theorem dX5_findOf_48 : decode cX5_findOf 48 = .ok (.invokevirtual 46, 3) := by decide +kernel
theorem dX5_findOf_51 : decode cX5_findOf 51 = .ok (.iconst (-1), 1) := by decide +kernel
theorem dX5_findOf_52 : decode cX5_findOf 52 = .ok (.if_icmp .eq 33, 3) := by decide +kernel
theorem dX5_findOf_55 : decode cX5_findOf 55 = .ok (.aload_n 0, 1) := by decide +kernel
theorem dX5_findOf_56 : decode cX5_findOf 56 = .ok (.iload 4, 2) := by decide +kernel
theorem dX5_findOf_58 : decode cX5_findOf 58 = .ok (.iload 5, 2) := by decide +kernel
theorem dX5_findOf_60 : decode cX5_findOf 60 = .ok (.iload_n 2, 1) := by decide +kernel
theorem dX5_findOf_61 : decode cX5_findOf 61 = .ok (.invokevirtual 30, 3) := by decide +kernel
theorem dX5_findOf_64 : decode cX5_findOf 64 = .ok (.aload_n 0, 1) := by decide +kernel
theorem dX5_findOf_65 : decode cX5_findOf 65 = .ok (.iload 5, 2) := by decide +kernel
theorem dX5_findOf_67 : decode cX5_findOf 67 = .ok (.iload 4, 2) := by decide +kernel
theorem dX5_findOf_69 : decode cX5_findOf 69 = .ok (.iload_n 2, 1) := by decide +kernel
theorem dX5_findOf_70 : decode cX5_findOf 70 = .ok (.invokevirtual 30, 3) := by decide +kernel
theorem dX5_findOf_73 : decode cX5_findOf 73 = .ok (.aload_n 0, 1) := by decide +kernel
theorem dX5_findOf_74 : decode cX5_findOf 74 = .ok (.dup, 1) := by decide +kernel
theorem dX5_findOf_75 : decode cX5_findOf 75 = .ok (.getfield 34, 3) := by decide +kernel
theorem dX5_findOf_78 : decode cX5_findOf 78 = .ok (.iconst 1, 1) := by decide +kernel
theorem dX5_findOf_79 : decode cX5_findOf 79 = .ok (.isub, 1) := by decide +kernel
theorem dX5_findOf_80 : decode cX5_findOf 80 = .ok (.putfield 34, 3) := by decide +kernel
theorem dX5_findOf_83 : decode cX5_findOf 83 = .ok (.iconst 1, 1) := by decide +kernel
theorem dX5_findOf_84 : decode cX5_findOf 84 = .ok (.istore_n 3, 1) := by decide +kernel
theorem dX5_findOf_85 : decode cX5_findOf 85 = .ok (.iinc 5 1, 3) := by decide +kernel
theorem dX5_findOf_88 : decode cX5_findOf 88 = .ok (.goto (-68), 3) := by decide +kernel
theorem dX5_findOf_91 : decode cX5_findOf 91 = .ok (.iinc 4 1, 3) := by decide +kernel
theorem dX5_findOf_94 : decode cX5_findOf 94 = .ok (.goto (-89), 3) := by decide +kernel
theorem dX5_findOf_97 : decode cX5_findOf 97 = .ok (.iload_n 3, 1) := by decide +kernel
theorem dX5_findOf_98 : decode cX5_findOf 98 = .ok (.ireturn, 1) := by decide +kernel
set_option maxRecDepth 20000 in
theorem ggX5_firstLetter_X4_letters : GoodIn wsX5_firstLetter wsX4_letters := goodIn_r _ [5, 6, 19, 20, 21, 22, 23, 24] (by decide +kernel) (by decide +kernel)
set_option maxRecDepth 20000 in
theorem gX5_firstLetter_X4_letters : GoodIn wsX5_firstLetter (wsV RX5 50 RX4 yX4_letters wsX4_letters) := goodIn_app (goodIn_of _ (by decide +kernel)) ggX5_firstLetter_X4_letters
set_option maxRecDepth 20000 in
theorem ggX5_firstLetter_X4_target : GoodIn wsX5_firstLetter wsX4_target := goodIn_r _ [10, 11, 6, 12, 19, 20, 21, 22, 23, 24] (by decide +kernel) (by decide +kernel)
set_option maxRecDepth 20000 in
theorem gX5_firstLetter_X4_target : GoodIn wsX5_firstLetter (wsV RX5 53 RX4 yX4_target wsX4_target) := goodIn_app (goodIn_of _ (by decide +kernel)) ggX5_firstLetter_X4_target
set_option maxRecDepth 20000 in
theorem ggX5_firstLetter_X5_lengthOf : GoodIn wsX5_firstLetter wsX5_lengthOf := goodIn_r _ [17, 18, 25, 26, 27] (by decide +kernel) (by decide +kernel)
set_option maxRecDepth 20000 in
theorem gX5_firstLetter_X5_lengthOf : GoodIn wsX5_firstLetter (wsV RX5 42 RX5 yX5_lengthOf wsX5_lengthOf) := goodIn_app (goodIn_of _ (by decide +kernel)) ggX5_firstLetter_X5_lengthOf
theorem dX5_firstLetter_0 : decode cX5_firstLetter 0 = .ok (.iconst 0, 1) := by decide +kernel
theorem dX5_firstLetter_1 : decode cX5_firstLetter 1 = .ok (.istore 5, 2) := by decide +kernel
theorem dX5_firstLetter_3 : decode cX5_firstLetter 3 = .ok (.iload 5, 2) := by decide +kernel
theorem dX5_firstLetter_5 : decode cX5_firstLetter 5 = .ok (.aload_n 1, 1) := by decide +kernel
theorem dX5_firstLetter_6 : decode cX5_firstLetter 6 = .ok (.invokevirtual 50, 3) := by decide +kernel
theorem dX5_firstLetter_9 : decode cX5_firstLetter 9 = .ok (.if_icmp .ge 37, 3) := by decide +kernel
theorem dX5_firstLetter_12 : decode cX5_firstLetter 12 = .ok (.aload_n 0, 1) := by decide +kernel
theorem dX5_firstLetter_13 : decode cX5_firstLetter 13 = .ok (.aload_n 1, 1) := by decide +kernel
theorem dX5_firstLetter_14 : decode cX5_firstLetter 14 = .ok (.iload_n 2, 1) := by decide +kernel
theorem dX5_firstLetter_15 : decode cX5_firstLetter 15 = .ok (.iload 5, 2) := by decide +kernel
theorem dX5_firstLetter_17 : decode cX5_firstLetter 17 = .ok (.invokevirtual 53, 3) := by decide +kernel
theorem dX5_firstLetter_20 : decode cX5_firstLetter 20 = .ok (.aload_n 1, 1) := by decide +kernel
theorem dX5_firstLetter_21 : decode cX5_firstLetter 21 = .ok (.iload_n 3, 1) := by decide +kernel
theorem dX5_firstLetter_22 : decode cX5_firstLetter 22 = .ok (.iload 5, 2) := by decide +kernel
theorem dX5_firstLetter_24 : decode cX5_firstLetter 24 = .ok (.invokevirtual 53, 3) := by decide +kernel
theorem dX5_firstLetter_27 : decode cX5_firstLetter 27 = .ok (.invokevirtual 42, 3) := by decide +kernel
theorem dX5_firstLetter_30 : decode cX5_firstLetter 30 = .ok (.iload 4, 2) := by decide +kernel
theorem dX5_firstLetter_32 : decode cX5_firstLetter 32 = .ok (.iconst 1, 1) := by decide +kernel
theorem dX5_firstLetter_33 : decode cX5_firstLetter 33 = .ok (.isub, 1) := by decide +kernel
theorem dX5_firstLetter_34 : decode cX5_firstLetter 34 = .ok (.if_icmp .ne 6, 3) := by decide +kernel
theorem dX5_firstLetter_37 : decode cX5_firstLetter 37 = .ok (.iload 5, 2) := by decide +kernel
theorem dX5_firstLetter_39 : decode cX5_firstLetter 39 = .ok (.ireturn, 1) := by decide +kernel
theorem dX5_firstLetter_40 : decode cX5_firstLetter 40 = .ok (.iinc 5 1, 3) := by decide +kernel
theorem dX5_firstLetter_43 : decode cX5_firstLetter 43 = .ok (.goto (-40), 3) := by decide +kernel
theorem dX5_firstLetter_46 : decode cX5_firstLetter 46 = .ok (.iconst (-1), 1) := by decide +kernel
theorem dX5_firstLetter_47 : decode cX5_firstLetter 47 = .ok (.ireturn, 1) := by decide +kernel
theorem dX5_setLength_0 : decode cX5_setLength 0 = .ok (.iload_n 1, 1) := by decide +kernel
theorem dX5_setLength_1 : decode cX5_setLength 1 = .ok (.ifCond .lt 31, 3) := by decide +kernel
theorem dX5_setLength_4 : decode cX5_setLength 4 = .ok (.iload_n 1, 1) := by decide +kernel
theorem dX5_setLength_5 : decode cX5_setLength 5 = .ok (.bipush 12, 2) := by decide +kernel
theorem dX5_setLength_7 : decode cX5_setLength 7 = .ok (.if_icmp .ge 25, 3) := by decide +kernel
theorem dX5_setLength_10 : decode cX5_setLength 10 = .ok (.iload_n 2, 1) := by decide +kernel
theorem dX5_setLength_11 : decode cX5_setLength 11 = .ok (.ifCond .lt 21, 3) := by decide +kernel
theorem dX5_setLength_14 : decode cX5_setLength 14 = .ok (.iload_n 2, 1) := by decide +kernel
theorem dX5_setLength_15 : decode cX5_setLength 15 = .ok (.bipush 12, 2) := by decide +kernel
theorem dX5_setLength_17 : decode cX5_setLength 17 = .ok (.if_icmp .ge 15, 3) := by decide +kernel
theorem dX5_setLength_20 : decode cX5_setLength 20 = .ok (.aload_n 0, 1) := by decide +kernel
theorem dX5_setLength_21 : decode cX5_setLength 21 = .ok (.getfield 9, 3) := by decide +kernel
theorem dX5_setLength_24 : decode cX5_setLength 24 = .ok (.iload_n 1, 1) := by decide +kernel
theorem dX5_setLength_25 : decode cX5_setLength 25 = .ok (.bipush 12, 2) := by decide +kernel
theorem dX5_setLength_27 : decode cX5_setLength 27 = .ok (.imul, 1) := by decide +kernel
theorem dX5_setLength_28 : decode cX5_setLength 28 = .ok (.iload_n 2, 1) := by decide +kernel
theorem dX5_setLength_29 : decode cX5_setLength 29 = .ok (.iadd, 1) := by decide +kernel
theorem dX5_setLength_30 : decode cX5_setLength 30 = .ok (.iload_n 3, 1) := by decide +kernel
theorem dX5_setLength_31 : decode cX5_setLength 31 = .ok (.iastore, 1) := by decide +kernel
theorem dX5_setLength_32 : decode cX5_setLength 32 = .ok (.return_, 1) := by decide +kernel
theorem dX5_lengthOf_0 : decode cX5_lengthOf 0 = .ok (.iload_n 1, 1) := by decide +kernel
theorem dX5_lengthOf_1 : decode cX5_lengthOf 1 = .ok (.ifCond .lt 33, 3) := by decide +kernel
theorem dX5_lengthOf_4 : decode cX5_lengthOf 4 = .ok (.iload_n 1, 1) := by decide +kernel
theorem dX5_lengthOf_5 : decode cX5_lengthOf 5 = .ok (.bipush 12, 2) := by decide +kernel
theorem dX5_lengthOf_7 : decode cX5_lengthOf 7 = .ok (.if_icmp .ge 27, 3) := by decide +kernel
theorem dX5_lengthOf_10 : decode cX5_lengthOf 10 = .ok (.iload_n 2, 1) := by decide +kernel
theorem dX5_lengthOf_11 : decode cX5_lengthOf 11 = .ok (.ifCond .lt 23, 3) := by decide +kernel
theorem dX5_lengthOf_14 : decode cX5_lengthOf 14 = .ok (.iload_n 2, 1) := by decide +kernel
theorem dX5_lengthOf_15 : decode cX5_lengthOf 15 = .ok (.bipush 12, 2) := by decide +kernel
theorem dX5_lengthOf_17 : decode cX5_lengthOf 17 = .ok (.if_icmp .ge 17, 3) := by decide +kernel
theorem dX5_lengthOf_20 : decode cX5_lengthOf 20 = .ok (.aload_n 0, 1) := by decide +kernel
theorem dX5_lengthOf_21 : decode cX5_lengthOf 21 = .ok (.getfield 9, 3) := by decide +kernel
theorem dX5_lengthOf_24 : decode cX5_lengthOf 24 = .ok (.iload_n 1, 1) := by decide +kernel
theorem dX5_lengthOf_25 : decode cX5_lengthOf 25 = .ok (.bipush 12, 2) := by decide +kernel
theorem dX5_lengthOf_27 : decode cX5_lengthOf 27 = .ok (.imul, 1) := by decide +kernel
theorem dX5_lengthOf_28 : decode cX5_lengthOf 28 = .ok (.iload_n 2, 1) := by decide +kernel
theorem dX5_lengthOf_29 : decode cX5_lengthOf 29 = .ok (.iadd, 1) := by decide +kernel
theorem dX5_lengthOf_30 : decode cX5_lengthOf 30 = .ok (.iaload, 1) := by decide +kernel
theorem dX5_lengthOf_31 : decode cX5_lengthOf 31 = .ok (.goto 4, 3) := by decide +kernel
theorem dX5_lengthOf_34 : decode cX5_lengthOf 34 = .ok (.iconst (-1), 1) := by decide +kernel
theorem dX5_lengthOf_35 : decode cX5_lengthOf 35 = .ok (.ireturn, 1) := by decide +kernel
theorem dX5_without_0 : decode cX5_without 0 = .ok (.aload_n 0, 1) := by decide +kernel
theorem dX5_without_1 : decode cX5_without 1 = .ok (.getfield 34, 3) := by decide +kernel
theorem dX5_without_4 : decode cX5_without 4 = .ok (.ireturn, 1) := by decide +kernel
set_option maxRecDepth 20000 in
theorem ggX5_giveWord_X5_lengthOf : GoodIn wsX5_giveWord wsX5_lengthOf := goodIn_r _ [5, 6, 38, 39, 40] (by decide +kernel) (by decide +kernel)
set_option maxRecDepth 20000 in
theorem gX5_giveWord_X5_lengthOf : GoodIn wsX5_giveWord (wsV RX5 42 RX5 yX5_lengthOf wsX5_lengthOf) := goodIn_app (goodIn_of _ (by decide +kernel)) ggX5_giveWord_X5_lengthOf
set_option maxRecDepth 20000 in
theorem ggX5_giveWord_X10_resize : GoodIn wsX5_giveWord wsX10_resize := goodIn_r _ [11, 12, 13, 14, 15, 16, 41, 42] (by decide +kernel) (by decide +kernel)
set_option maxRecDepth 20000 in
theorem gX5_giveWord_X10_resize : GoodIn wsX5_giveWord (wsV RX5 56 RX10 yX10_resize wsX10_resize) := goodIn_app (goodIn_of _ (by decide +kernel)) ggX5_giveWord_X10_resize
set_option maxRecDepth 20000 in
theorem ggX5_giveWord_X5_firstLetter : GoodIn wsX5_giveWord wsX5_firstLetter := goodIn_r _ [20, 21, 22, 23, 24, 25, 26, 27, 28, 29, 30, 31, 32, 1, 2, 3, 4, 5, 6, 43, 44, 45, 46, 47, 48, 38, 39, 40] (by decide +kernel) (by decide +kernel)
set_option maxRecDepth 20000 in
theorem gX5_giveWord_X5_firstLetter : GoodIn wsX5_giveWord (wsV RX5 46 RX5 yX5_firstLetter wsX5_firstLetter) := goodIn_app (goodIn_of _ (by decide +kernel)) ggX5_giveWord_X5_firstLetter
set_option maxRecDepth 20000 in
theorem ggX5_giveWord_X10_put : GoodIn wsX5_giveWord wsX10_put := goodIn_r _ [36, 16, 37, 41, 42] (by decide +kernel) (by decide +kernel)
set_option maxRecDepth 20000 in
theorem gX5_giveWord_X10_put : GoodIn wsX5_giveWord (wsV RX5 62 RX10 yX10_put wsX10_put) := goodIn_app (goodIn_of _ (by decide +kernel)) ggX5_giveWord_X10_put
set_option maxRecDepth 20000 in
theorem ggX5_giveWord_X4_target : GoodIn wsX5_giveWord wsX4_target := goodIn_r _ [30, 31, 26, 32, 43, 44, 45, 46, 47, 48] (by decide +kernel) (by decide +kernel)
set_option maxRecDepth 20000 in
theorem gX5_giveWord_X4_target : GoodIn wsX5_giveWord (wsV RX5 53 RX4 yX4_target wsX4_target) := goodIn_app (goodIn_of _ (by decide +kernel)) ggX5_giveWord_X4_target
theorem dX5_giveWord_0 : decode cX5_giveWord 0 = .ok (.aload_n 0, 1) := by decide +kernel
theorem dX5_giveWord_1 : decode cX5_giveWord 1 = .ok (.iload_n 2, 1) := by decide +kernel
theorem dX5_giveWord_2 : decode cX5_giveWord 2 = .ok (.iload_n 3, 1) := by decide +kernel
theorem dX5_giveWord_3 : decode cX5_giveWord 3 = .ok (.invokevirtual 42, 3) := by decide +kernel
theorem dX5_giveWord_6 : decode cX5_giveWord 6 = .ok (.istore 5, 2) := by decide +kernel
theorem dX5_giveWord_8 : decode cX5_giveWord 8 = .ok (.iload_n 2, 1) := by decide +kernel
theorem dX5_giveWord_9 : decode cX5_giveWord 9 = .ok (.istore 6, 2) := by decide +kernel
theorem dX5_giveWord_11 : decode cX5_giveWord 11 = .ok (.iload_n 3, 1) := by decide +kernel
theorem dX5_giveWord_12 : decode cX5_giveWord 12 = .ok (.istore 7, 2) := by decide +kernel
theorem dX5_giveWord_14 : decode cX5_giveWord 14 = .ok (.aload 4, 2) := by decide +kernel
theorem dX5_giveWord_16 : decode cX5_giveWord 16 = .ok (.iload 5, 2) := by decide +kernel
theorem dX5_giveWord_18 : decode cX5_giveWord 18 = .ok (.invokevirtual 56, 3) := by decide +kernel
theorem dX5_giveWord_21 : decode cX5_giveWord 21 = .ok (.iconst 0, 1) := by decide +kernel
theorem dX5_giveWord_22 : decode cX5_giveWord 22 = .ok (.istore 8, 2) := by decide +kernel
theorem dX5_giveWord_24 : decode cX5_giveWord 24 = .ok (.iload 8, 2) := by decide +kernel
theorem dX5_giveWord_26 : decode cX5_giveWord 26 = .ok (.iload 5, 2) := by decide +kernel
theorem dX5_giveWord_28 : decode cX5_giveWord 28 = .ok (.if_icmp .ge 54, 3) := by decide +kernel
theorem dX5_giveWord_31 : decode cX5_giveWord 31 = .ok (.aload_n 0, 1) := by decide +kernel
theorem dX5_giveWord_32 : decode cX5_giveWord 32 = .ok (.aload_n 1, 1) := by decide +kernel
theorem dX5_giveWord_33 : decode cX5_giveWord 33 = .ok (.iload 6, 2) := by decide +kernel
theorem dX5_giveWord_35 : decode cX5_giveWord 35 = .ok (.iload 7, 2) := by decide +kernel
theorem dX5_giveWord_37 : decode cX5_giveWord 37 = .ok (.iload 5, 2) := by decide +kernel
theorem dX5_giveWord_39 : decode cX5_giveWord 39 = .ok (.iload 8, 2) := by decide +kernel
theorem dX5_giveWord_41 : decode cX5_giveWord 41 = .ok (.isub, 1) := by decide +kernel
theorem dX5_giveWord_42 : decode cX5_giveWord 42 = .ok (.invokevirtual 46, 3) := by decide +kernel
theorem dX5_giveWord_45 : decode cX5_giveWord 45 = .ok (.istore 9, 2) := by decide +kernel
theorem dX5_giveWord_47 : decode cX5_giveWord 47 = .ok (.aload 4, 2) := by decide +kernel
theorem dX5_giveWord_49 : decode cX5_giveWord 49 = .ok (.iload 8, 2) := by decide +kernel
theorem dX5_giveWord_51 : decode cX5_giveWord 51 = .ok (.iload 9, 2) := by decide +kernel
theorem dX5_giveWord_53 : decode cX5_giveWord 53 = .ok (.invokevirtual 62, 3) := by decide +kernel
theorem dX5_giveWord_56 : decode cX5_giveWord 56 = .ok (.aload_n 1, 1) := by decide +kernel
theorem dX5_giveWord_57 : decode cX5_giveWord 57 = .ok (.iload 6, 2) := by decide +kernel
theorem dX5_giveWord_59 : decode cX5_giveWord 59 = .ok (.iload 9, 2) := by decide +kernel
theorem dX5_giveWord_61 : decode cX5_giveWord 61 = .ok (.invokevirtual 53, 3) := by decide +kernel
theorem dX5_giveWord_64 : decode cX5_giveWord 64 = .ok (.istore 6, 2) := by decide +kernel
theorem dX5_giveWord_66 : decode cX5_giveWord 66 = .ok (.aload_n 1, 1) := by decide +kernel
theorem dX5_giveWord_67 : decode cX5_giveWord 67 = .ok (.iload 7, 2) := by decide +kernel
theorem dX5_giveWord_69 : decode cX5_giveWord 69 = .ok (.iload 9, 2) := by decide +kernel
theorem dX5_giveWord_71 : decode cX5_giveWord 71 = .ok (.invokevirtual 53, 3) := by decide +kernel
theorem dX5_giveWord_74 : decode cX5_giveWord 74 = .ok (.istore 7, 2) := by decide +kernel
theorem dX5_giveWord_76 : decode cX5_giveWord 76 = .ok (.iinc 8 1, 3) := by decide +kernel
theorem dX5_giveWord_79 : decode cX5_giveWord 79 = .ok (.goto (-55), 3) := by decide +kernel
theorem dX5_giveWord_82 : decode cX5_giveWord 82 = .ok (.return_, 1) := by decide +kernel
set_option maxRecDepth 20000 in
theorem ggX5_lengthApart_J7_fill_53178 : GoodIn wsX5_lengthApart wsJ7_fill_53178 := goodIn_r _ [6] (by decide +kernel) (by decide +kernel)
set_option maxRecDepth 20000 in
theorem gX5_lengthApart_J7_fill_53178 : GoodIn wsX5_lengthApart (va_wsS RX5 18 yJ7_fill_53178 wsJ7_fill_53178) := goodIn_app (goodIn_of _ (by decide +kernel)) ggX5_lengthApart_J7_fill_53178
set_option maxRecDepth 20000 in
theorem ggX5_lengthApart_X5_setLength : GoodIn wsX5_lengthApart wsX5_setLength := goodIn_r _ [11, 1, 41, 42, 43] (by decide +kernel) (by decide +kernel)
set_option maxRecDepth 20000 in
theorem gX5_lengthApart_X5_setLength : GoodIn wsX5_lengthApart (wsV RX5 30 RX5 yX5_setLength wsX5_setLength) := goodIn_app (goodIn_of _ (by decide +kernel)) ggX5_lengthApart_X5_setLength
set_option maxRecDepth 20000 in
theorem ggX5_lengthApart_X4_lightOf : GoodIn wsX5_lengthApart wsX4_lightOf := goodIn_r _ [16, 17, 18, 19, 20, 15, 21, 22, 44, 45, 46, 47, 48, 49] (by decide +kernel) (by decide +kernel)
set_option maxRecDepth 20000 in
theorem gX5_lengthApart_X4_lightOf : GoodIn wsX5_lengthApart (wsV RX5 66 RX4 yX4_lightOf wsX4_lightOf) := goodIn_app (goodIn_of _ (by decide +kernel)) ggX5_lengthApart_X4_lightOf
set_option maxRecDepth 20000 in
theorem ggX5_lengthApart_X5_lengthOf : GoodIn wsX5_lengthApart wsX5_lengthOf := goodIn_r _ [26, 1, 41, 42, 43] (by decide +kernel) (by decide +kernel)
set_option maxRecDepth 20000 in
theorem gX5_lengthApart_X5_lengthOf : GoodIn wsX5_lengthApart (wsV RX5 42 RX5 yX5_lengthOf wsX5_lengthOf) := goodIn_app (goodIn_of _ (by decide +kernel)) ggX5_lengthApart_X5_lengthOf
set_option maxRecDepth 20000 in
theorem ggX5_lengthApart_X5_queueNext : GoodIn wsX5_lengthApart wsX5_queueNext := goodIn_r _ [30, 2, 31, 32, 33, 15, 34, 35, 36, 37, 38, 39, 22, 40, 23, 24, 25, 10, 26, 1, 7, 8, 9, 11, 41, 42, 43, 44, 45, 46, 47, 48, 49] (by decide +kernel) (by decide +kernel)
set_option maxRecDepth 20000 in
theorem gX5_lengthApart_X5_queueNext : GoodIn wsX5_lengthApart (wsV RX5 70 RX5 yX5_queueNext wsX5_queueNext) := goodIn_app (goodIn_of _ (by decide +kernel)) ggX5_lengthApart_X5_queueNext
theorem dX5_lengthApart_0 : decode cX5_lengthApart 0 = .ok (.aload_n 0, 1) := by decide +kernel
theorem dX5_lengthApart_1 : decode cX5_lengthApart 1 = .ok (.getfield 9, 3) := by decide +kernel
theorem dX5_lengthApart_4 : decode cX5_lengthApart 4 = .ok (.iconst (-1), 1) := by decide +kernel
theorem dX5_lengthApart_5 : decode cX5_lengthApart 5 = .ok (.invokestatic 18, 3) := by decide +kernel
theorem dX5_lengthApart_8 : decode cX5_lengthApart 8 = .ok (.aload_n 0, 1) := by decide +kernel
theorem dX5_lengthApart_9 : decode cX5_lengthApart 9 = .ok (.iload_n 2, 1) := by decide +kernel
theorem dX5_lengthApart_10 : decode cX5_lengthApart 10 = .ok (.iload_n 3, 1) := by decide +kernel
theorem dX5_lengthApart_11 : decode cX5_lengthApart 11 = .ok (.iconst 0, 1) := by decide +kernel
theorem dX5_lengthApart_12 : decode cX5_lengthApart 12 = .ok (.invokevirtual 30, 3) := by decide +kernel
theorem dX5_lengthApart_15 : decode cX5_lengthApart 15 = .ok (.aload_n 0, 1) := by decide +kernel
theorem dX5_lengthApart_16 : decode cX5_lengthApart 16 = .ok (.getfield 15, 3) := by decide +kernel
theorem dX5_lengthApart_19 : decode cX5_lengthApart 19 = .ok (.iconst 0, 1) := by decide +kernel
theorem dX5_lengthApart_20 : decode cX5_lengthApart 20 = .ok (.iload_n 2, 1) := by decide +kernel
theorem dX5_lengthApart_21 : decode cX5_lengthApart 21 = .ok (.bipush 12, 2) := by decide +kernel
theorem dX5_lengthApart_23 : decode cX5_lengthApart 23 = .ok (.imul, 1) := by decide +kernel
theorem dX5_lengthApart_24 : decode cX5_lengthApart 24 = .ok (.iload_n 3, 1) := by decide +kernel
theorem dX5_lengthApart_25 : decode cX5_lengthApart 25 = .ok (.iadd, 1) := by decide +kernel
theorem dX5_lengthApart_26 : decode cX5_lengthApart 26 = .ok (.iastore, 1) := by decide +kernel
theorem dX5_lengthApart_27 : decode cX5_lengthApart 27 = .ok (.iconst 1, 1) := by decide +kernel
theorem dX5_lengthApart_28 : decode cX5_lengthApart 28 = .ok (.istore 4, 2) := by decide +kernel
theorem dX5_lengthApart_30 : decode cX5_lengthApart 30 = .ok (.iconst 0, 1) := by decide +kernel
theorem dX5_lengthApart_31 : decode cX5_lengthApart 31 = .ok (.istore 5, 2) := by decide +kernel
theorem dX5_lengthApart_33 : decode cX5_lengthApart 33 = .ok (.iload 5, 2) := by decide +kernel
theorem dX5_lengthApart_35 : decode cX5_lengthApart 35 = .ok (.iload 4, 2) := by decide +kernel
theorem dX5_lengthApart_37 : decode cX5_lengthApart 37 = .ok (.if_icmp .ge 78, 3) := by decide +kernel
theorem dX5_lengthApart_40 : decode cX5_lengthApart 40 = .ok (.iload 5, 2) := by decide +kernel
theorem dX5_lengthApart_42 : decode cX5_lengthApart 42 = .ok (.sipush 144, 3) := by decide +kernel
theorem dX5_lengthApart_45 : decode cX5_lengthApart 45 = .ok (.if_icmp .ge 70, 3) := by decide +kernel
theorem dX5_lengthApart_48 : decode cX5_lengthApart 48 = .ok (.aload_n 0, 1) := by decide +kernel
theorem dX5_lengthApart_49 : decode cX5_lengthApart 49 = .ok (.getfield 15, 3) := by decide +kernel
theorem dX5_lengthApart_52 : decode cX5_lengthApart 52 = .ok (.iload 5, 2) := by decide +kernel
theorem dX5_lengthApart_54 : decode cX5_lengthApart 54 = .ok (.iaload, 1) := by decide +kernel
theorem dX5_lengthApart_55 : decode cX5_lengthApart 55 = .ok (.bipush 12, 2) := by decide +kernel
theorem dX5_lengthApart_57 : decode cX5_lengthApart 57 = .ok (.idiv, 1) := by decide +kernel
theorem dX5_lengthApart_58 : decode cX5_lengthApart 58 = .ok (.istore 6, 2) := by decide +kernel
theorem dX5_lengthApart_60 : decode cX5_lengthApart 60 = .ok (.aload_n 0, 1) := by decide +kernel
theorem dX5_lengthApart_61 : decode cX5_lengthApart 61 = .ok (.getfield 15, 3) := by decide +kernel
theorem dX5_lengthApart_64 : decode cX5_lengthApart 64 = .ok (.iload 5, 2) := by decide +kernel
theorem dX5_lengthApart_66 : decode cX5_lengthApart 66 = .ok (.iaload, 1) := by decide +kernel
theorem dX5_lengthApart_67 : decode cX5_lengthApart 67 = .ok (.bipush 12, 2) := by decide +kernel
theorem dX5_lengthApart_69 : decode cX5_lengthApart 69 = .ok (.irem, 1) := by decide +kernel
theorem dX5_lengthApart_70 : decode cX5_lengthApart 70 = .ok (.istore 7, 2) := by decide +kernel
theorem dX5_lengthApart_72 : decode cX5_lengthApart 72 = .ok (.aload_n 1, 1) := by decide +kernel
theorem dX5_lengthApart_73 : decode cX5_lengthApart 73 = .ok (.iload 6, 2) := by decide +kernel
theorem dX5_lengthApart_75 : decode cX5_lengthApart 75 = .ok (.invokevirtual 66, 3) := by decide +kernel
theorem dX5_lengthApart_78 : decode cX5_lengthApart 78 = .ok (.aload_n 1, 1) := by decide +kernel
theorem dX5_lengthApart_79 : decode cX5_lengthApart 79 = .ok (.iload 7, 2) := by decide +kernel
theorem dX5_lengthApart_81 : decode cX5_lengthApart 81 = .ok (.invokevirtual 66, 3) := by decide +kernel
theorem dX5_lengthApart_84 : decode cX5_lengthApart 84 = .ok (.if_icmp .eq 12, 3) := by decide +kernel
theorem dX5_lengthApart_87 : decode cX5_lengthApart 87 = .ok (.aload_n 0, 1) := by decide +kernel
theorem dX5_lengthApart_88 : decode cX5_lengthApart 88 = .ok (.iload 6, 2) := by decide +kernel
theorem dX5_lengthApart_90 : decode cX5_lengthApart 90 = .ok (.iload 7, 2) := by decide +kernel
theorem dX5_lengthApart_92 : decode cX5_lengthApart 92 = .ok (.invokevirtual 42, 3) := by decide +kernel
theorem dX5_lengthApart_95 : decode cX5_lengthApart 95 = .ok (.ireturn, 1) := by decide +kernel
theorem dX5_lengthApart_96 : decode cX5_lengthApart 96 = .ok (.aload_n 0, 1) := by decide +kernel
theorem dX5_lengthApart_97 : decode cX5_lengthApart 97 = .ok (.aload_n 1, 1) := by decide +kernel
theorem dX5_lengthApart_98 : decode cX5_lengthApart 98 = .ok (.iload 6, 2) := by decide +kernel
theorem dX5_lengthApart_100 : decode cX5_lengthApart 100 = .ok (.iload 7, 2) := by decide +kernel
theorem dX5_lengthApart_102 : decode cX5_lengthApart 102 = .ok (.iload 4, 2) := by decide +kernel
theorem dX5_lengthApart_104 : decode cX5_lengthApart 104 = .ok (.invokevirtual 70, 3) := by decide +kernel
theorem dX5_lengthApart_107 : decode cX5_lengthApart 107 = .ok (.istore 4, 2) := by decide +kernel
theorem dX5_lengthApart_109 : decode cX5_lengthApart 109 = .ok (.iinc 5 1, 3) := by decide +kernel
theorem dX5_lengthApart_112 : decode cX5_lengthApart 112 = .ok (.goto (-79), 3) := by decide +kernel
theorem dX5_lengthApart_115 : decode cX5_lengthApart 115 = .ok (.iconst (-1), 1) := by decide +kernel
theorem dX5_lengthApart_116 : decode cX5_lengthApart 116 = .ok (.ireturn, 1) := by decide +kernel
set_option maxRecDepth 20000 in
theorem ggX5_queueNext_X4_letters : GoodIn wsX5_queueNext wsX4_letters := goodIn_r _ [6, 7, 27, 28, 29, 30, 31, 32] (by decide +kernel) (by decide +kernel)
set_option maxRecDepth 20000 in
theorem gX5_queueNext_X4_letters : GoodIn wsX5_queueNext (wsV RX5 50 RX4 yX4_letters wsX4_letters) := goodIn_app (goodIn_of _ (by decide +kernel)) ggX5_queueNext_X4_letters
set_option maxRecDepth 20000 in
theorem ggX5_queueNext_X4_target : GoodIn wsX5_queueNext wsX4_target := goodIn_r _ [11, 12, 7, 13, 27, 28, 29, 30, 31, 32] (by decide +kernel) (by decide +kernel)
set_option maxRecDepth 20000 in
theorem gX5_queueNext_X4_target : GoodIn wsX5_queueNext (wsV RX5 53 RX4 yX4_target wsX4_target) := goodIn_app (goodIn_of _ (by decide +kernel)) ggX5_queueNext_X4_target
set_option maxRecDepth 20000 in
theorem ggX5_queueNext_X5_lengthOf : GoodIn wsX5_queueNext wsX5_lengthOf := goodIn_r _ [18, 19, 24, 25, 26] (by decide +kernel) (by decide +kernel)
set_option maxRecDepth 20000 in
theorem gX5_queueNext_X5_lengthOf : GoodIn wsX5_queueNext (wsV RX5 42 RX5 yX5_lengthOf wsX5_lengthOf) := goodIn_app (goodIn_of _ (by decide +kernel)) ggX5_queueNext_X5_lengthOf
set_option maxRecDepth 20000 in
theorem ggX5_queueNext_X5_setLength : GoodIn wsX5_queueNext wsX5_setLength := goodIn_r _ [23, 19, 24, 25, 26] (by decide +kernel) (by decide +kernel)
set_option maxRecDepth 20000 in
theorem gX5_queueNext_X5_setLength : GoodIn wsX5_queueNext (wsV RX5 30 RX5 yX5_setLength wsX5_setLength) := goodIn_app (goodIn_of _ (by decide +kernel)) ggX5_queueNext_X5_setLength
theorem dX5_queueNext_0 : decode cX5_queueNext 0 = .ok (.iload 4, 2) := by decide +kernel
theorem dX5_queueNext_2 : decode cX5_queueNext 2 = .ok (.istore 5, 2) := by decide +kernel
theorem dX5_queueNext_4 : decode cX5_queueNext 4 = .ok (.iconst 0, 1) := by decide +kernel
theorem dX5_queueNext_5 : decode cX5_queueNext 5 = .ok (.istore 6, 2) := by decide +kernel
theorem dX5_queueNext_7 : decode cX5_queueNext 7 = .ok (.iload 6, 2) := by decide +kernel
theorem dX5_queueNext_9 : decode cX5_queueNext 9 = .ok (.aload_n 1, 1) := by decide +kernel
theorem dX5_queueNext_10 : decode cX5_queueNext 10 = .ok (.invokevirtual 50, 3) := by decide +kernel
theorem dX5_queueNext_13 : decode cX5_queueNext 13 = .ok (.if_icmp .ge 101, 3) := by decide +kernel
theorem dX5_queueNext_16 : decode cX5_queueNext 16 = .ok (.aload_n 1, 1) := by decide +kernel
theorem dX5_queueNext_17 : decode cX5_queueNext 17 = .ok (.iload_n 2, 1) := by decide +kernel
theorem dX5_queueNext_18 : decode cX5_queueNext 18 = .ok (.iload 6, 2) := by decide +kernel
theorem dX5_queueNext_20 : decode cX5_queueNext 20 = .ok (.invokevirtual 53, 3) := by decide +kernel
theorem dX5_queueNext_23 : decode cX5_queueNext 23 = .ok (.istore 7, 2) := by decide +kernel
theorem dX5_queueNext_25 : decode cX5_queueNext 25 = .ok (.aload_n 1, 1) := by decide +kernel
theorem dX5_queueNext_26 : decode cX5_queueNext 26 = .ok (.iload_n 3, 1) := by decide +kernel
theorem dX5_queueNext_27 : decode cX5_queueNext 27 = .ok (.iload 6, 2) := by decide +kernel
theorem dX5_queueNext_29 : decode cX5_queueNext 29 = .ok (.invokevirtual 53, 3) := by decide +kernel
theorem dX5_queueNext_32 : decode cX5_queueNext 32 = .ok (.istore 8, 2) := by decide +kernel
theorem dX5_queueNext_34 : decode cX5_queueNext 34 = .ok (.iload 7, 2) := by decide +kernel
theorem dX5_queueNext_36 : decode cX5_queueNext 36 = .ok (.iconst (-1), 1) := by decide +kernel
theorem dX5_queueNext_37 : decode cX5_queueNext 37 = .ok (.if_icmp .eq 71, 3) := by decide +kernel
theorem dX5_queueNext_40 : decode cX5_queueNext 40 = .ok (.iload 8, 2) := by decide +kernel
theorem dX5_queueNext_42 : decode cX5_queueNext 42 = .ok (.iconst (-1), 1) := by decide +kernel
theorem dX5_queueNext_43 : decode cX5_queueNext 43 = .ok (.if_icmp .eq 65, 3) := by decide +kernel
theorem dX5_queueNext_46 : decode cX5_queueNext 46 = .ok (.aload_n 0, 1) := by decide +kernel
theorem dX5_queueNext_47 : decode cX5_queueNext 47 = .ok (.iload 7, 2) := by decide +kernel
theorem dX5_queueNext_49 : decode cX5_queueNext 49 = .ok (.iload 8, 2) := by decide +kernel
theorem dX5_queueNext_51 : decode cX5_queueNext 51 = .ok (.invokevirtual 42, 3) := by decide +kernel
theorem dX5_queueNext_54 : decode cX5_queueNext 54 = .ok (.iconst (-1), 1) := by decide +kernel
theorem dX5_queueNext_55 : decode cX5_queueNext 55 = .ok (.if_icmp .ne 53, 3) := by decide +kernel
theorem dX5_queueNext_58 : decode cX5_queueNext 58 = .ok (.iload 5, 2) := by decide +kernel
theorem dX5_queueNext_60 : decode cX5_queueNext 60 = .ok (.ifCond .lt 48, 3) := by decide +kernel
theorem dX5_queueNext_63 : decode cX5_queueNext 63 = .ok (.iload 5, 2) := by decide +kernel
theorem dX5_queueNext_65 : decode cX5_queueNext 65 = .ok (.sipush 144, 3) := by decide +kernel
theorem dX5_queueNext_68 : decode cX5_queueNext 68 = .ok (.if_icmp .lt 6, 3) := by decide +kernel
theorem dX5_queueNext_71 : decode cX5_queueNext 71 = .ok (.goto 37, 3) := by decide +kernel
theorem dX5_queueNext_74 : decode cX5_queueNext 74 = .ok (.aload_n 0, 1) := by decide +kernel
theorem dX5_queueNext_75 : decode cX5_queueNext 75 = .ok (.iload 7, 2) := by decide +kernel
theorem dX5_queueNext_77 : decode cX5_queueNext 77 = .ok (.iload 8, 2) := by decide +kernel
theorem dX5_queueNext_79 : decode cX5_queueNext 79 = .ok (.aload_n 0, 1) := by decide +kernel
theorem dX5_queueNext_80 : decode cX5_queueNext 80 = .ok (.iload_n 2, 1) := by decide +kernel
theorem dX5_queueNext_81 : decode cX5_queueNext 81 = .ok (.iload_n 3, 1) := by decide +kernel
theorem dX5_queueNext_82 : decode cX5_queueNext 82 = .ok (.invokevirtual 42, 3) := by decide +kernel
theorem dX5_queueNext_85 : decode cX5_queueNext 85 = .ok (.iconst 1, 1) := by decide +kernel
theorem dX5_queueNext_86 : decode cX5_queueNext 86 = .ok (.iadd, 1) := by decide +kernel
theorem dX5_queueNext_87 : decode cX5_queueNext 87 = .ok (.invokevirtual 30, 3) := by decide +kernel
theorem dX5_queueNext_90 : decode cX5_queueNext 90 = .ok (.aload_n 0, 1) := by decide +kernel
theorem dX5_queueNext_91 : decode cX5_queueNext 91 = .ok (.getfield 15, 3) := by decide +kernel
theorem dX5_queueNext_94 : decode cX5_queueNext 94 = .ok (.iload 5, 2) := by decide +kernel
theorem dX5_queueNext_96 : decode cX5_queueNext 96 = .ok (.iload 7, 2) := by decide +kernel
theorem dX5_queueNext_98 : decode cX5_queueNext 98 = .ok (.bipush 12, 2) := by decide +kernel
theorem dX5_queueNext_100 : decode cX5_queueNext 100 = .ok (.imul, 1) := by decide +kernel
theorem dX5_queueNext_101 : decode cX5_queueNext 101 = .ok (.iload 8, 2) := by decide +kernel
theorem dX5_queueNext_103 : decode cX5_queueNext 103 = .ok (.iadd, 1) := by decide +kernel
theorem dX5_queueNext_104 : decode cX5_queueNext 104 = .ok (.iastore, 1) := by decide +kernel
theorem dX5_queueNext_105 : decode cX5_queueNext 105 = .ok (.iinc 5 1, 3) := by decide +kernel
theorem dX5_queueNext_108 : decode cX5_queueNext 108 = .ok (.iinc 6 1, 3) := by decide +kernel
theorem dX5_queueNext_111 : decode cX5_queueNext 111 = .ok (.goto (-104), 3) := by decide +kernel
theorem dX5_queueNext_114 : decode cX5_queueNext 114 = .ok (.iload 5, 2) := by decide +kernel
theorem dX5_queueNext_116 : decode cX5_queueNext 116 = .ok (.ireturn, 1) := by decide +kernel
theorem dX6_init_0 : decode cX6_init 0 = .ok (.aload_n 0, 1) := by decide +kernel
theorem dX6_init_1 : decode cX6_init 1 = .ok (.invokespecial 3, 3) := by decide +kernel
theorem dX6_init_4 : decode cX6_init 4 = .ok (.aload_n 0, 1) := by decide +kernel
theorem dX6_init_5 : decode cX6_init 5 = .ok (.sipush 4096, 3) := by decide +kernel
theorem dX6_init_8 : decode cX6_init 8 = .ok (.newarray .int, 2) := by decide +kernel
theorem dX6_init_10 : decode cX6_init 10 = .ok (.putfield 9, 3) := by decide +kernel
theorem dX6_init_13 : decode cX6_init 13 = .ok (.aload_n 0, 1) := by decide +kernel
theorem dX6_init_14 : decode cX6_init 14 = .ok (.sipush 16385, 3) := by decide +kernel
theorem dX6_init_17 : decode cX6_init 17 = .ok (.newarray .int, 2) := by decide +kernel
theorem dX6_init_19 : decode cX6_init 19 = .ok (.putfield 15, 3) := by decide +kernel
theorem dX6_init_22 : decode cX6_init 22 = .ok (.aload_n 0, 1) := by decide +kernel
theorem dX6_init_23 : decode cX6_init 23 = .ok (.aload_n 1, 1) := by decide +kernel
theorem dX6_init_24 : decode cX6_init 24 = .ok (.putfield 18, 3) := by decide +kernel
theorem dX6_init_27 : decode cX6_init 27 = .ok (.aload_n 0, 1) := by decide +kernel
theorem dX6_init_28 : decode cX6_init 28 = .ok (.aload_n 2, 1) := by decide +kernel
theorem dX6_init_29 : decode cX6_init 29 = .ok (.putfield 22, 3) := by decide +kernel
theorem dX6_init_32 : decode cX6_init 32 = .ok (.return_, 1) := by decide +kernel
set_option maxRecDepth 20000 in
theorem ggX6_look_X8_load : GoodIn wsX6_look wsX8_load := goodIn_r _ [9, 10, 11, 12, 13, 14, 15, 16, 17, 18, 19, 20, 8, 21, 22, 23, 24, 25, 26, 27, 28, 29, 30, 31, 99, 100, 101, 102, 103, 104, 105, 106, 107] (by decide +kernel) (by decide +kernel)
set_option maxRecDepth 20000 in
theorem gX6_look_X8_load : GoodIn wsX6_look (wsV RX6 26 RX8 yX8_load wsX8_load) := goodIn_app (goodIn_of _ (by decide +kernel)) ggX6_look_X8_load
set_option maxRecDepth 20000 in
theorem ggX6_look_X9_begin : GoodIn wsX6_look wsX9_begin := goodIn_r _ [36, 37, 38, 39, 40, 41, 108] (by decide +kernel) (by decide +kernel)
set_option maxRecDepth 20000 in
theorem gX6_look_X9_begin : GoodIn wsX6_look (wsV RX6 32 RX9 yX9_begin wsX9_begin) := goodIn_app (goodIn_of _ (by decide +kernel)) ggX6_look_X9_begin
set_option maxRecDepth 20000 in
theorem ggX6_look_J7_fill_53178 : GoodIn wsX6_look wsJ7_fill_53178 := goodIn_r _ [41] (by decide +kernel) (by decide +kernel)
set_option maxRecDepth 20000 in
theorem gX6_look_J7_fill_53178 : GoodIn wsX6_look (va_wsS RX6 38 yJ7_fill_53178 wsJ7_fill_53178) := goodIn_app (goodIn_of _ (by decide +kernel)) ggX6_look_J7_fill_53178
set_option maxRecDepth 20000 in
theorem ggX6_look_X6_reach : GoodIn wsX6_look wsX6_reach := goodIn_r _ [47, 3, 48, 49, 50, 46, 51, 4, 52, 94, 95, 96, 97, 98] (by decide +kernel) (by decide +kernel)
set_option maxRecDepth 20000 in
theorem gX6_look_X6_reach : GoodIn wsX6_look (wsV RX6 48 RX6 yX6_reach wsX6_reach) := goodIn_app (goodIn_of _ (by decide +kernel)) ggX6_look_X6_reach
set_option maxRecDepth 20000 in
theorem ggX6_look_X6_takeKey : GoodIn wsX6_look wsX6_takeKey := goodIn_r _ [56, 4, 52, 57, 58, 59, 46, 60, 94, 95, 96, 97, 98] (by decide +kernel) (by decide +kernel)
set_option maxRecDepth 20000 in
theorem gX6_look_X6_takeKey : GoodIn wsX6_look (wsV RX6 52 RX6 yX6_takeKey wsX6_takeKey) := goodIn_app (goodIn_of _ (by decide +kernel)) ggX6_look_X6_takeKey
set_option maxRecDepth 20000 in
theorem ggX6_look_X6_sumOf : GoodIn wsX6_look wsX6_sumOf := goodIn_r _ [64, 3, 94, 95, 96, 97, 98] (by decide +kernel) (by decide +kernel)
set_option maxRecDepth 20000 in
theorem gX6_look_X6_sumOf : GoodIn wsX6_look (wsV RX6 56 RX6 yX6_sumOf wsX6_sumOf) := goodIn_app (goodIn_of _ (by decide +kernel)) ggX6_look_X6_sumOf
set_option maxRecDepth 20000 in
theorem ggX6_look_X7_isOne : GoodIn wsX6_look wsX7_isOne := goodIn_r _ [68] (by decide +kernel) (by decide +kernel)
set_option maxRecDepth 20000 in
theorem gX6_look_X7_isOne : GoodIn wsX6_look (va_wsS RX6 60 yX7_isOne wsX7_isOne) := goodIn_app (goodIn_of _ (by decide +kernel)) ggX6_look_X7_isOne
set_option maxRecDepth 20000 in
theorem ggX6_look_X6_goOn : GoodIn wsX6_look wsX6_goOn := goodIn_r _ [72, 1, 2, 73, 74, 75, 8, 76, 10, 77, 78, 79, 80, 11, 12, 61, 62, 63, 46, 64, 3, 81, 82, 83, 16, 84, 85, 86, 87, 88, 89, 18, 90, 91, 92, 35, 93, 37, 43, 44, 45, 47, 48, 49, 50, 51, 4, 52, 94, 95, 96, 97, 98, 99, 100, 101, 102, 103, 104, 105, 106, 107, 108] (by decide +kernel) (by decide +kernel)
set_option maxRecDepth 20000 in
theorem gX6_look_X6_goOn : GoodIn wsX6_look (wsV RX6 66 RX6 yX6_goOn wsX6_goOn) := goodIn_app (goodIn_of _ (by decide +kernel)) ggX6_look_X6_goOn
theorem dX6_look_0 : decode cX6_look 0 = .ok (.aload_n 0, 1) := by decide +kernel
theorem dX6_look_1 : decode cX6_look 1 = .ok (.getfield 18, 3) := by decide +kernel
theorem dX6_look_4 : decode cX6_look 4 = .ok (.aload_n 1, 1) := by decide +kernel
theorem dX6_look_5 : decode cX6_look 5 = .ok (.invokevirtual 26, 3) := by decide +kernel
theorem dX6_look_8 : decode cX6_look 8 = .ok (.aload_n 0, 1) := by decide +kernel
theorem dX6_look_9 : decode cX6_look 9 = .ok (.getfield 22, 3) := by decide +kernel
theorem dX6_look_12 : decode cX6_look 12 = .ok (.iload_n 2, 1) := by decide +kernel
theorem dX6_look_13 : decode cX6_look 13 = .ok (.invokevirtual 32, 3) := by decide +kernel
theorem dX6_look_16 : decode cX6_look 16 = .ok (.aload_n 0, 1) := by decide +kernel
theorem dX6_look_17 : decode cX6_look 17 = .ok (.getfield 9, 3) := by decide +kernel
theorem dX6_look_20 : decode cX6_look 20 = .ok (.iconst (-1), 1) := by decide +kernel
theorem dX6_look_21 : decode cX6_look 21 = .ok (.invokestatic 38, 3) := by decide +kernel
theorem dX6_look_24 : decode cX6_look 24 = .ok (.aload_n 0, 1) := by decide +kernel
theorem dX6_look_25 : decode cX6_look 25 = .ok (.iconst 0, 1) := by decide +kernel
theorem dX6_look_26 : decode cX6_look 26 = .ok (.putfield 44, 3) := by decide +kernel
theorem dX6_look_29 : decode cX6_look 29 = .ok (.aload_n 0, 1) := by decide +kernel
theorem dX6_look_30 : decode cX6_look 30 = .ok (.iload_n 2, 1) := by decide +kernel
theorem dX6_look_31 : decode cX6_look 31 = .ok (.iconst 0, 1) := by decide +kernel
theorem dX6_look_32 : decode cX6_look 32 = .ok (.invokevirtual 48, 3) := by decide +kernel
theorem dX6_look_35 : decode cX6_look 35 = .ok (.iconst 0, 1) := by decide +kernel
theorem dX6_look_36 : decode cX6_look 36 = .ok (.istore_n 3, 1) := by decide +kernel
theorem dX6_look_37 : decode cX6_look 37 = .ok (.iload_n 3, 1) := by decide +kernel
theorem dX6_look_38 : decode cX6_look 38 = .ok (.sipush 16385, 3) := by decide +kernel
theorem dX6_look_41 : decode cX6_look 41 = .ok (.if_icmp .ge 65, 3) := by decide +kernel
theorem dX6_look_44 : decode cX6_look 44 = .ok (.aload_n 0, 1) := by decide +kernel
theorem dX6_look_45 : decode cX6_look 45 = .ok (.getfield 44, 3) := by decide +kernel
theorem dX6_look_48 : decode cX6_look 48 = .ok (.ifCond .le 58, 3) := by decide +kernel
theorem dX6_look_51 : decode cX6_look 51 = .ok (.aload_n 0, 1) := by decide +kernel
theorem dX6_look_52 : decode cX6_look 52 = .ok (.invokevirtual 52, 3) := by decide +kernel
theorem dX6_look_55 : decode cX6_look 55 = .ok (.istore 4, 2) := by decide +kernel
theorem dX6_look_57 : decode cX6_look 57 = .ok (.iload 4, 2) := by decide +kernel
theorem dX6_look_59 : decode cX6_look 59 = .ok (.sipush 4095, 3) := by decide +kernel
theorem dX6_look_62 : decode cX6_look 62 = .ok (.iand, 1) := by decide +kernel
theorem dX6_look_63 : decode cX6_look 63 = .ok (.istore 5, 2) := by decide +kernel
theorem dX6_look_65 : decode cX6_look 65 = .ok (.iload 4, 2) := by decide +kernel
theorem dX6_look_67 : decode cX6_look 67 = .ok (.bipush 12, 2) := by decide +kernel
theorem dX6_look_69 : decode cX6_look 69 = .ok (.ishr, 1) := by decide +kernel
theorem dX6_look_70 : decode cX6_look 70 = .ok (.aload_n 0, 1) := by decide +kernel
theorem dX6_look_71 : decode cX6_look 71 = .ok (.iload 5, 2) := by decide +kernel
theorem dX6_look_73 : decode cX6_look 73 = .ok (.invokevirtual 56, 3) := by decide +kernel
theorem dX6_look_76 : decode cX6_look 76 = .ok (.if_icmp .eq 6, 3) := by decide +kernel
theorem dX6_look_79 : decode cX6_look 79 = .ok (.goto 21, 3) := by decide +kernel
theorem dX6_look_82 : decode cX6_look 82 = .ok (.iload 5, 2) := by decide +kernel
theorem dX6_look_84 : decode cX6_look 84 = .ok (.invokestatic 60, 3) := by decide +kernel
theorem dX6_look_87 : decode cX6_look 87 = .ok (.ifCond .eq 6, 3) := by decide +kernel
theorem dX6_look_90 : decode cX6_look 90 = .ok (.iload 5, 2) := by decide +kernel
theorem dX6_look_92 : decode cX6_look 92 = .ok (.ireturn, 1) := by decide +kernel
theorem dX6_look_93 : decode cX6_look 93 = .ok (.aload_n 0, 1) := by decide +kernel
theorem dX6_look_94 : decode cX6_look 94 = .ok (.aload_n 1, 1) := by decide +kernel
theorem dX6_look_95 : decode cX6_look 95 = .ok (.iload 5, 2) := by decide +kernel
theorem dX6_look_97 : decode cX6_look 97 = .ok (.invokevirtual 66, 3) := by decide +kernel
theorem dX6_look_100 : decode cX6_look 100 = .ok (.iinc 3 1, 3) := by decide +kernel
theorem dX6_look_103 : decode cX6_look 103 = .ok (.goto (-66), 3) := by decide +kernel
theorem dX6_look_106 : decode cX6_look 106 = .ok (.iconst 0, 1) := by decide +kernel
theorem dX6_look_107 : decode cX6_look 107 = .ok (.ireturn, 1) := by decide +kernel
set_option maxRecDepth 20000 in
theorem ggX6_goOn_X8_letters : GoodIn wsX6_goOn wsX8_letters := goodIn_r _ [7, 8, 53, 54, 55] (by decide +kernel) (by decide +kernel)
set_option maxRecDepth 20000 in
theorem gX6_goOn_X8_letters : GoodIn wsX6_goOn (wsV RX6 70 RX8 yX8_letters wsX8_letters) := goodIn_app (goodIn_of _ (by decide +kernel)) ggX6_goOn_X8_letters
set_option maxRecDepth 20000 in
theorem ggX6_goOn_X8_after : GoodIn wsX6_goOn wsX8_after := goodIn_r _ [12, 13, 14, 53, 54, 55] (by decide +kernel) (by decide +kernel)
set_option maxRecDepth 20000 in
theorem gX6_goOn_X8_after : GoodIn wsX6_goOn (wsV RX6 73 RX8 yX8_after wsX8_after) := goodIn_app (goodIn_of _ (by decide +kernel)) ggX6_goOn_X8_after
set_option maxRecDepth 20000 in
theorem ggX6_goOn_X6_sumOf : GoodIn wsX6_goOn wsX6_sumOf := goodIn_r _ [19, 20, 48, 49, 50, 51, 52] (by decide +kernel) (by decide +kernel)
set_option maxRecDepth 20000 in
theorem gX6_goOn_X6_sumOf : GoodIn wsX6_goOn (wsV RX6 56 RX6 yX6_sumOf wsX6_sumOf) := goodIn_app (goodIn_of _ (by decide +kernel)) ggX6_goOn_X6_sumOf
set_option maxRecDepth 20000 in
theorem ggX6_goOn_X4_priceOf : GoodIn wsX6_goOn wsX4_priceOf := goodIn_r _ [25, 26, 27, 28, 29, 24, 30, 31, 56, 57, 58, 59, 60, 61] (by decide +kernel) (by decide +kernel)
set_option maxRecDepth 20000 in
theorem gX6_goOn_X4_priceOf : GoodIn wsX6_goOn (wsV RX6 77 RX4 yX4_priceOf wsX4_priceOf) := goodIn_app (goodIn_of _ (by decide +kernel)) ggX6_goOn_X4_priceOf
set_option maxRecDepth 20000 in
theorem ggX6_goOn_X9_mark : GoodIn wsX6_goOn wsX9_mark := goodIn_r _ [36, 37, 62] (by decide +kernel) (by decide +kernel)
set_option maxRecDepth 20000 in
theorem gX6_goOn_X9_mark : GoodIn wsX6_goOn (wsV RX6 82 RX9 yX9_mark wsX9_mark) := goodIn_app (goodIn_of _ (by decide +kernel)) ggX6_goOn_X9_mark
set_option maxRecDepth 20000 in
theorem ggX6_goOn_X6_reach : GoodIn wsX6_goOn wsX6_reach := goodIn_r _ [41, 20, 42, 43, 44, 18, 45, 46, 47, 48, 49, 50, 51, 52] (by decide +kernel) (by decide +kernel)
set_option maxRecDepth 20000 in
theorem gX6_goOn_X6_reach : GoodIn wsX6_goOn (wsV RX6 48 RX6 yX6_reach wsX6_reach) := goodIn_app (goodIn_of _ (by decide +kernel)) ggX6_goOn_X6_reach
theorem dX6_goOn_0 : decode cX6_goOn 0 = .ok (.iconst 0, 1) := by decide +kernel
theorem dX6_goOn_1 : decode cX6_goOn 1 = .ok (.istore_n 3, 1) := by decide +kernel
theorem dX6_goOn_2 : decode cX6_goOn 2 = .ok (.iload_n 3, 1) := by decide +kernel
theorem dX6_goOn_3 : decode cX6_goOn 3 = .ok (.aload_n 0, 1) := by decide +kernel
theorem dX6_goOn_4 : decode cX6_goOn 4 = .ok (.getfield 18, 3) := by decide +kernel
theorem dX6_goOn_7 : decode cX6_goOn 7 = .ok (.invokevirtual 70, 3) := by decide +kernel
theorem dX6_goOn_10 : decode cX6_goOn 10 = .ok (.if_icmp .ge 78, 3) := by decide +kernel
theorem dX6_goOn_13 : decode cX6_goOn 13 = .ok (.aload_n 0, 1) := by decide +kernel
theorem dX6_goOn_14 : decode cX6_goOn 14 = .ok (.getfield 18, 3) := by decide +kernel
theorem dX6_goOn_17 : decode cX6_goOn 17 = .ok (.iload_n 2, 1) := by decide +kernel
theorem dX6_goOn_18 : decode cX6_goOn 18 = .ok (.iload_n 3, 1) := by decide +kernel
theorem dX6_goOn_19 : decode cX6_goOn 19 = .ok (.invokevirtual 73, 3) := by decide +kernel
theorem dX6_goOn_22 : decode cX6_goOn 22 = .ok (.istore 4, 2) := by decide +kernel
theorem dX6_goOn_24 : decode cX6_goOn 24 = .ok (.aload_n 0, 1) := by decide +kernel
theorem dX6_goOn_25 : decode cX6_goOn 25 = .ok (.iload_n 2, 1) := by decide +kernel
theorem dX6_goOn_26 : decode cX6_goOn 26 = .ok (.invokevirtual 56, 3) := by decide +kernel
theorem dX6_goOn_29 : decode cX6_goOn 29 = .ok (.aload_n 1, 1) := by decide +kernel
theorem dX6_goOn_30 : decode cX6_goOn 30 = .ok (.iload_n 3, 1) := by decide +kernel
theorem dX6_goOn_31 : decode cX6_goOn 31 = .ok (.invokevirtual 77, 3) := by decide +kernel
theorem dX6_goOn_34 : decode cX6_goOn 34 = .ok (.iadd, 1) := by decide +kernel
theorem dX6_goOn_35 : decode cX6_goOn 35 = .ok (.istore 5, 2) := by decide +kernel
theorem dX6_goOn_37 : decode cX6_goOn 37 = .ok (.iload 4, 2) := by decide +kernel
theorem dX6_goOn_39 : decode cX6_goOn 39 = .ok (.ifCond .eq 43, 3) := by decide +kernel
theorem dX6_goOn_42 : decode cX6_goOn 42 = .ok (.aload_n 0, 1) := by decide +kernel
theorem dX6_goOn_43 : decode cX6_goOn 43 = .ok (.iload 4, 2) := by decide +kernel
theorem dX6_goOn_45 : decode cX6_goOn 45 = .ok (.invokevirtual 56, 3) := by decide +kernel
theorem dX6_goOn_48 : decode cX6_goOn 48 = .ok (.iconst (-1), 1) := by decide +kernel
theorem dX6_goOn_49 : decode cX6_goOn 49 = .ok (.if_icmp .eq 14, 3) := by decide +kernel
theorem dX6_goOn_52 : decode cX6_goOn 52 = .ok (.aload_n 0, 1) := by decide +kernel
theorem dX6_goOn_53 : decode cX6_goOn 53 = .ok (.iload 4, 2) := by decide +kernel
theorem dX6_goOn_55 : decode cX6_goOn 55 = .ok (.invokevirtual 56, 3) := by decide +kernel
theorem dX6_goOn_58 : decode cX6_goOn 58 = .ok (.iload 5, 2) := by decide +kernel
theorem dX6_goOn_60 : decode cX6_goOn 60 = .ok (.if_icmp .le 22, 3) := by decide +kernel
theorem dX6_goOn_63 : decode cX6_goOn 63 = .ok (.aload_n 0, 1) := by decide +kernel
theorem dX6_goOn_64 : decode cX6_goOn 64 = .ok (.getfield 22, 3) := by decide +kernel
theorem dX6_goOn_67 : decode cX6_goOn 67 = .ok (.iload 4, 2) := by decide +kernel
theorem dX6_goOn_69 : decode cX6_goOn 69 = .ok (.iload_n 2, 1) := by decide +kernel
theorem dX6_goOn_70 : decode cX6_goOn 70 = .ok (.iload_n 3, 1) := by decide +kernel
theorem dX6_goOn_71 : decode cX6_goOn 71 = .ok (.invokevirtual 82, 3) := by decide +kernel
theorem dX6_goOn_74 : decode cX6_goOn 74 = .ok (.aload_n 0, 1) := by decide +kernel
theorem dX6_goOn_75 : decode cX6_goOn 75 = .ok (.iload 4, 2) := by decide +kernel
theorem dX6_goOn_77 : decode cX6_goOn 77 = .ok (.iload 5, 2) := by decide +kernel
theorem dX6_goOn_79 : decode cX6_goOn 79 = .ok (.invokevirtual 48, 3) := by decide +kernel
theorem dX6_goOn_82 : decode cX6_goOn 82 = .ok (.iinc 3 1, 3) := by decide +kernel
theorem dX6_goOn_85 : decode cX6_goOn 85 = .ok (.goto (-83), 3) := by decide +kernel
theorem dX6_goOn_88 : decode cX6_goOn 88 = .ok (.return_, 1) := by decide +kernel
set_option maxRecDepth 20000 in
theorem ggX6_reach_X6_addKey : GoodIn wsX6_reach wsX6_addKey := goodIn_r _ [6, 7, 8, 9, 10, 11, 12, 13] (by decide +kernel) (by decide +kernel)
set_option maxRecDepth 20000 in
theorem gX6_reach_X6_addKey : GoodIn wsX6_reach (wsV RX6 86 RX6 yX6_addKey wsX6_addKey) := goodIn_app (goodIn_of _ (by decide +kernel)) ggX6_reach_X6_addKey
theorem dX6_reach_0 : decode cX6_reach 0 = .ok (.iload_n 1, 1) := by decide +kernel
theorem dX6_reach_1 : decode cX6_reach 1 = .ok (.ifCond .le 28, 3) := by decide +kernel
theorem dX6_reach_4 : decode cX6_reach 4 = .ok (.iload_n 1, 1) := by decide +kernel
theorem dX6_reach_5 : decode cX6_reach 5 = .ok (.sipush 4096, 3) := by decide +kernel
theorem dX6_reach_8 : decode cX6_reach 8 = .ok (.if_icmp .ge 21, 3) := by decide +kernel
theorem dX6_reach_11 : decode cX6_reach 11 = .ok (.aload_n 0, 1) := by decide +kernel
theorem dX6_reach_12 : decode cX6_reach 12 = .ok (.getfield 9, 3) := by decide +kernel
theorem dX6_reach_15 : decode cX6_reach 15 = .ok (.iload_n 1, 1) := by decide +kernel
theorem dX6_reach_16 : decode cX6_reach 16 = .ok (.iload_n 2, 1) := by decide +kernel
theorem dX6_reach_17 : decode cX6_reach 17 = .ok (.iastore, 1) := by decide +kernel
theorem dX6_reach_18 : decode cX6_reach 18 = .ok (.aload_n 0, 1) := by decide +kernel
theorem dX6_reach_19 : decode cX6_reach 19 = .ok (.iload_n 2, 1) := by decide +kernel
theorem dX6_reach_20 : decode cX6_reach 20 = .ok (.sipush 4096, 3) := by decide +kernel
theorem dX6_reach_23 : decode cX6_reach 23 = .ok (.imul, 1) := by decide +kernel
theorem dX6_reach_24 : decode cX6_reach 24 = .ok (.iload_n 1, 1) := by decide +kernel
theorem dX6_reach_25 : decode cX6_reach 25 = .ok (.iadd, 1) := by decide +kernel
theorem dX6_reach_26 : decode cX6_reach 26 = .ok (.invokevirtual 86, 3) := by decide +kernel
theorem dX6_reach_29 : decode cX6_reach 29 = .ok (.return_, 1) := by decide +kernel
theorem dX6_sumOf_0 : decode cX6_sumOf 0 = .ok (.iload_n 1, 1) := by decide +kernel
theorem dX6_sumOf_1 : decode cX6_sumOf 1 = .ok (.ifCond .le 19, 3) := by decide +kernel
theorem dX6_sumOf_4 : decode cX6_sumOf 4 = .ok (.iload_n 1, 1) := by decide +kernel
theorem dX6_sumOf_5 : decode cX6_sumOf 5 = .ok (.sipush 4096, 3) := by decide +kernel
theorem dX6_sumOf_8 : decode cX6_sumOf 8 = .ok (.if_icmp .ge 12, 3) := by decide +kernel
theorem dX6_sumOf_11 : decode cX6_sumOf 11 = .ok (.aload_n 0, 1) := by decide +kernel
theorem dX6_sumOf_12 : decode cX6_sumOf 12 = .ok (.getfield 9, 3) := by decide +kernel
theorem dX6_sumOf_15 : decode cX6_sumOf 15 = .ok (.iload_n 1, 1) := by decide +kernel
theorem dX6_sumOf_16 : decode cX6_sumOf 16 = .ok (.iaload, 1) := by decide +kernel
theorem dX6_sumOf_17 : decode cX6_sumOf 17 = .ok (.goto 4, 3) := by decide +kernel
theorem dX6_sumOf_20 : decode cX6_sumOf 20 = .ok (.iconst (-1), 1) := by decide +kernel
theorem dX6_sumOf_21 : decode cX6_sumOf 21 = .ok (.ireturn, 1) := by decide +kernel
theorem dX6_addKey_0 : decode cX6_addKey 0 = .ok (.aload_n 0, 1) := by decide +kernel
theorem dX6_addKey_1 : decode cX6_addKey 1 = .ok (.getfield 44, 3) := by decide +kernel
theorem dX6_addKey_4 : decode cX6_addKey 4 = .ok (.ifCond .lt 13, 3) := by decide +kernel
theorem dX6_addKey_7 : decode cX6_addKey 7 = .ok (.aload_n 0, 1) := by decide +kernel
theorem dX6_addKey_8 : decode cX6_addKey 8 = .ok (.getfield 44, 3) := by decide +kernel
theorem dX6_addKey_11 : decode cX6_addKey 11 = .ok (.sipush 16385, 3) := by decide +kernel
theorem dX6_addKey_14 : decode cX6_addKey 14 = .ok (.if_icmp .lt 4, 3) := by decide +kernel
theorem dX6_addKey_17 : decode cX6_addKey 17 = .ok (.return_, 1) := by decide +kernel
theorem dX6_addKey_18 : decode cX6_addKey 18 = .ok (.aload_n 0, 1) := by decide +kernel
theorem dX6_addKey_19 : decode cX6_addKey 19 = .ok (.getfield 44, 3) := by decide +kernel
theorem dX6_addKey_22 : decode cX6_addKey 22 = .ok (.istore_n 2, 1) := by decide +kernel
theorem dX6_addKey_23 : decode cX6_addKey 23 = .ok (.aload_n 0, 1) := by decide +kernel
theorem dX6_addKey_24 : decode cX6_addKey 24 = .ok (.dup, 1) := by decide +kernel
theorem dX6_addKey_25 : decode cX6_addKey 25 = .ok (.getfield 44, 3) := by decide +kernel
theorem dX6_addKey_28 : decode cX6_addKey 28 = .ok (.iconst 1, 1) := by decide +kernel
theorem dX6_addKey_29 : decode cX6_addKey 29 = .ok (.iadd, 1) := by decide +kernel
theorem dX6_addKey_30 : decode cX6_addKey 30 = .ok (.putfield 44, 3) := by decide +kernel
theorem dX6_addKey_33 : decode cX6_addKey 33 = .ok (.iconst 0, 1) := by decide +kernel
theorem dX6_addKey_34 : decode cX6_addKey 34 = .ok (.istore_n 3, 1) := by decide +kernel
theorem dX6_addKey_35 : decode cX6_addKey 35 = .ok (.iload_n 3, 1) := by decide +kernel
theorem dX6_addKey_36 : decode cX6_addKey 36 = .ok (.sipush 16385, 3) := by decide +kernel
theorem dX6_addKey_39 : decode cX6_addKey 39 = .ok (.if_icmp .ge 50, 3) := by decide +kernel
theorem dX6_addKey_42 : decode cX6_addKey 42 = .ok (.iload_n 2, 1) := by decide +kernel
theorem dX6_addKey_43 : decode cX6_addKey 43 = .ok (.ifCond .le 46, 3) := by decide +kernel
theorem dX6_addKey_46 : decode cX6_addKey 46 = .ok (.iload_n 2, 1) := by decide +kernel
theorem dX6_addKey_47 : decode cX6_addKey 47 = .ok (.iconst 1, 1) := by decide +kernel
theorem dX6_addKey_48 : decode cX6_addKey 48 = .ok (.isub, 1) := by decide +kernel
theorem dX6_addKey_49 : decode cX6_addKey 49 = .ok (.iconst 2, 1) := by decide +kernel
theorem dX6_addKey_50 : decode cX6_addKey 50 = .ok (.idiv, 1) := by decide +kernel
theorem dX6_addKey_51 : decode cX6_addKey 51 = .ok (.istore 4, 2) := by decide +kernel
theorem dX6_addKey_53 : decode cX6_addKey 53 = .ok (.aload_n 0, 1) := by decide +kernel
theorem dX6_addKey_54 : decode cX6_addKey 54 = .ok (.getfield 15, 3) := by decide +kernel
theorem dX6_addKey_57 : decode cX6_addKey 57 = .ok (.iload 4, 2) := by decide +kernel
theorem dX6_addKey_59 : decode cX6_addKey 59 = .ok (.iaload, 1) := by decide +kernel
theorem dX6_addKey_60 : decode cX6_addKey 60 = .ok (.iload_n 1, 1) := by decide +kernel
theorem dX6_addKey_61 : decode cX6_addKey 61 = .ok (.if_icmp .gt 6, 3) := by decide +kernel
theorem dX6_addKey_64 : decode cX6_addKey 64 = .ok (.goto 25, 3) := by decide +kernel
theorem dX6_addKey_67 : decode cX6_addKey 67 = .ok (.aload_n 0, 1) := by decide +kernel
theorem dX6_addKey_68 : decode cX6_addKey 68 = .ok (.getfield 15, 3) := by decide +kernel
theorem dX6_addKey_71 : decode cX6_addKey 71 = .ok (.iload_n 2, 1) := by decide +kernel
theorem dX6_addKey_72 : decode cX6_addKey 72 = .ok (.aload_n 0, 1) := by decide +kernel
theorem dX6_addKey_73 : decode cX6_addKey 73 = .ok (.getfield 15, 3) := by decide +kernel
theorem dX6_addKey_76 : decode cX6_addKey 76 = .ok (.iload 4, 2) := by decide +kernel
theorem dX6_addKey_78 : decode cX6_addKey 78 = .ok (.iaload, 1) := by decide +kernel
theorem dX6_addKey_79 : decode cX6_addKey 79 = .ok (.iastore, 1) := by decide +kernel
theorem dX6_addKey_80 : decode cX6_addKey 80 = .ok (.iload 4, 2) := by decide +kernel
theorem dX6_addKey_82 : decode cX6_addKey 82 = .ok (.istore_n 2, 1) := by decide +kernel
theorem dX6_addKey_83 : decode cX6_addKey 83 = .ok (.iinc 3 1, 3) := by decide +kernel
theorem dX6_addKey_86 : decode cX6_addKey 86 = .ok (.goto (-51), 3) := by decide +kernel
theorem dX6_addKey_89 : decode cX6_addKey 89 = .ok (.aload_n 0, 1) := by decide +kernel
theorem dX6_addKey_90 : decode cX6_addKey 90 = .ok (.getfield 15, 3) := by decide +kernel
theorem dX6_addKey_93 : decode cX6_addKey 93 = .ok (.iload_n 2, 1) := by decide +kernel
theorem dX6_addKey_94 : decode cX6_addKey 94 = .ok (.iload_n 1, 1) := by decide +kernel
theorem dX6_addKey_95 : decode cX6_addKey 95 = .ok (.iastore, 1) := by decide +kernel
theorem dX6_addKey_96 : decode cX6_addKey 96 = .ok (.return_, 1) := by decide +kernel
set_option maxRecDepth 20000 in
theorem ggX6_takeKey_X6_sink : GoodIn wsX6_takeKey wsX6_sink := goodIn_r _ [7, 1, 2, 8, 9, 10, 11, 12] (by decide +kernel) (by decide +kernel)
set_option maxRecDepth 20000 in
theorem gX6_takeKey_X6_sink : GoodIn wsX6_takeKey (wsV RX6 89 RX6 yX6_sink wsX6_sink) := goodIn_app (goodIn_of _ (by decide +kernel)) ggX6_takeKey_X6_sink
theorem dX6_takeKey_0 : decode cX6_takeKey 0 = .ok (.aload_n 0, 1) := by decide +kernel
theorem dX6_takeKey_1 : decode cX6_takeKey 1 = .ok (.getfield 44, 3) := by decide +kernel
theorem dX6_takeKey_4 : decode cX6_takeKey 4 = .ok (.ifCond .le 13, 3) := by decide +kernel
theorem dX6_takeKey_7 : decode cX6_takeKey 7 = .ok (.aload_n 0, 1) := by decide +kernel
theorem dX6_takeKey_8 : decode cX6_takeKey 8 = .ok (.getfield 44, 3) := by decide +kernel
theorem dX6_takeKey_11 : decode cX6_takeKey 11 = .ok (.sipush 16385, 3) := by decide +kernel
theorem dX6_takeKey_14 : decode cX6_takeKey 14 = .ok (.if_icmp .le 5, 3) := by decide +kernel
theorem dX6_takeKey_17 : decode cX6_takeKey 17 = .ok (.iconst 0, 1) := by decide +kernel
theorem dX6_takeKey_18 : decode cX6_takeKey 18 = .ok (.ireturn, 1) := by decide +kernel
theorem dX6_takeKey_19 : decode cX6_takeKey 19 = .ok (.aload_n 0, 1) := by decide +kernel
theorem dX6_takeKey_20 : decode cX6_takeKey 20 = .ok (.getfield 15, 3) := by decide +kernel
theorem dX6_takeKey_23 : decode cX6_takeKey 23 = .ok (.iconst 0, 1) := by decide +kernel
theorem dX6_takeKey_24 : decode cX6_takeKey 24 = .ok (.iaload, 1) := by decide +kernel
theorem dX6_takeKey_25 : decode cX6_takeKey 25 = .ok (.istore_n 1, 1) := by decide +kernel
theorem dX6_takeKey_26 : decode cX6_takeKey 26 = .ok (.aload_n 0, 1) := by decide +kernel
theorem dX6_takeKey_27 : decode cX6_takeKey 27 = .ok (.dup, 1) := by decide +kernel
theorem dX6_takeKey_28 : decode cX6_takeKey 28 = .ok (.getfield 44, 3) := by decide +kernel
theorem dX6_takeKey_31 : decode cX6_takeKey 31 = .ok (.iconst 1, 1) := by decide +kernel
theorem dX6_takeKey_32 : decode cX6_takeKey 32 = .ok (.isub, 1) := by decide +kernel
theorem dX6_takeKey_33 : decode cX6_takeKey 33 = .ok (.putfield 44, 3) := by decide +kernel
theorem dX6_takeKey_36 : decode cX6_takeKey 36 = .ok (.aload_n 0, 1) := by decide +kernel
theorem dX6_takeKey_37 : decode cX6_takeKey 37 = .ok (.aload_n 0, 1) := by decide +kernel
theorem dX6_takeKey_38 : decode cX6_takeKey 38 = .ok (.getfield 15, 3) := by decide +kernel
theorem dX6_takeKey_41 : decode cX6_takeKey 41 = .ok (.aload_n 0, 1) := by decide +kernel
theorem dX6_takeKey_42 : decode cX6_takeKey 42 = .ok (.getfield 44, 3) := by decide +kernel
theorem dX6_takeKey_45 : decode cX6_takeKey 45 = .ok (.iaload, 1) := by decide +kernel
theorem dX6_takeKey_46 : decode cX6_takeKey 46 = .ok (.invokevirtual 89, 3) := by decide +kernel
theorem dX6_takeKey_49 : decode cX6_takeKey 49 = .ok (.iload_n 1, 1) := by decide +kernel
theorem dX6_takeKey_50 : decode cX6_takeKey 50 = .ok (.ireturn, 1) := by decide +kernel
theorem dX6_sink_0 : decode cX6_sink 0 = .ok (.iconst 0, 1) := by decide +kernel
theorem dX6_sink_1 : decode cX6_sink 1 = .ok (.istore_n 2, 1) := by decide +kernel
theorem dX6_sink_2 : decode cX6_sink 2 = .ok (.iconst 1, 1) := by decide +kernel
theorem dX6_sink_3 : decode cX6_sink 3 = .ok (.istore_n 3, 1) := by decide +kernel
theorem dX6_sink_4 : decode cX6_sink 4 = .ok (.iload_n 3, 1) := by decide +kernel
theorem dX6_sink_5 : decode cX6_sink 5 = .ok (.aload_n 0, 1) := by decide +kernel
theorem dX6_sink_6 : decode cX6_sink 6 = .ok (.getfield 44, 3) := by decide +kernel
theorem dX6_sink_9 : decode cX6_sink 9 = .ok (.if_icmp .ge 85, 3) := by decide +kernel
theorem dX6_sink_12 : decode cX6_sink 12 = .ok (.iload_n 3, 1) := by decide +kernel
theorem dX6_sink_13 : decode cX6_sink 13 = .ok (.sipush 16385, 3) := by decide +kernel
theorem dX6_sink_16 : decode cX6_sink 16 = .ok (.if_icmp .ge 78, 3) := by decide +kernel
theorem dX6_sink_19 : decode cX6_sink 19 = .ok (.iload_n 3, 1) := by decide +kernel
theorem dX6_sink_20 : decode cX6_sink 20 = .ok (.iconst 1, 1) := by decide +kernel
theorem dX6_sink_21 : decode cX6_sink 21 = .ok (.iadd, 1) := by decide +kernel
theorem dX6_sink_22 : decode cX6_sink 22 = .ok (.aload_n 0, 1) := by decide +kernel
theorem dX6_sink_23 : decode cX6_sink 23 = .ok (.getfield 44, 3) := by decide +kernel
theorem dX6_sink_26 : decode cX6_sink 26 = .ok (.if_icmp .ge 32, 3) := by decide +kernel
theorem dX6_sink_29 : decode cX6_sink 29 = .ok (.iload_n 3, 1) := by decide +kernel
theorem dX6_sink_30 : decode cX6_sink 30 = .ok (.iconst 1, 1) := by decide +kernel
theorem dX6_sink_31 : decode cX6_sink 31 = .ok (.iadd, 1) := by decide +kernel
theorem dX6_sink_32 : decode cX6_sink 32 = .ok (.sipush 16385, 3) := by decide +kernel
theorem dX6_sink_35 : decode cX6_sink 35 = .ok (.if_icmp .ge 23, 3) := by decide +kernel
theorem dX6_sink_38 : decode cX6_sink 38 = .ok (.aload_n 0, 1) := by decide +kernel
theorem dX6_sink_39 : decode cX6_sink 39 = .ok (.getfield 15, 3) := by decide +kernel
theorem dX6_sink_42 : decode cX6_sink 42 = .ok (.iload_n 3, 1) := by decide +kernel
theorem dX6_sink_43 : decode cX6_sink 43 = .ok (.iconst 1, 1) := by decide +kernel
theorem dX6_sink_44 : decode cX6_sink 44 = .ok (.iadd, 1) := by decide +kernel
theorem dX6_sink_45 : decode cX6_sink 45 = .ok (.iaload, 1) := by decide +kernel
theorem dX6_sink_46 : decode cX6_sink 46 = .ok (.aload_n 0, 1) := by decide +kernel
theorem dX6_sink_47 : decode cX6_sink 47 = .ok (.getfield 15, 3) := by decide +kernel
theorem dX6_sink_50 : decode cX6_sink 50 = .ok (.iload_n 3, 1) := by decide +kernel
theorem dX6_sink_51 : decode cX6_sink 51 = .ok (.iaload, 1) := by decide +kernel
theorem dX6_sink_52 : decode cX6_sink 52 = .ok (.if_icmp .ge 6, 3) := by decide +kernel
theorem dX6_sink_55 : decode cX6_sink 55 = .ok (.iinc 3 1, 3) := by decide +kernel
theorem dX6_sink_58 : decode cX6_sink 58 = .ok (.aload_n 0, 1) := by decide +kernel
theorem dX6_sink_59 : decode cX6_sink 59 = .ok (.getfield 15, 3) := by decide +kernel
theorem dX6_sink_62 : decode cX6_sink 62 = .ok (.iload_n 3, 1) := by decide +kernel
theorem dX6_sink_63 : decode cX6_sink 63 = .ok (.iaload, 1) := by decide +kernel
theorem dX6_sink_64 : decode cX6_sink 64 = .ok (.iload_n 1, 1) := by decide +kernel
theorem dX6_sink_65 : decode cX6_sink 65 = .ok (.if_icmp .lt 6, 3) := by decide +kernel
theorem dX6_sink_68 : decode cX6_sink 68 = .ok (.goto 26, 3) := by decide +kernel
theorem dX6_sink_71 : decode cX6_sink 71 = .ok (.aload_n 0, 1) := by decide +kernel
theorem dX6_sink_72 : decode cX6_sink 72 = .ok (.getfield 15, 3) := by decide +kernel
theorem dX6_sink_75 : decode cX6_sink 75 = .ok (.iload_n 2, 1) := by decide +kernel
theorem dX6_sink_76 : decode cX6_sink 76 = .ok (.aload_n 0, 1) := by decide +kernel
theorem dX6_sink_77 : decode cX6_sink 77 = .ok (.getfield 15, 3) := by decide +kernel
theorem dX6_sink_80 : decode cX6_sink 80 = .ok (.iload_n 3, 1) := by decide +kernel
theorem dX6_sink_81 : decode cX6_sink 81 = .ok (.iaload, 1) := by decide +kernel
theorem dX6_sink_82 : decode cX6_sink 82 = .ok (.iastore, 1) := by decide +kernel
theorem dX6_sink_83 : decode cX6_sink 83 = .ok (.iload_n 3, 1) := by decide +kernel
theorem dX6_sink_84 : decode cX6_sink 84 = .ok (.istore_n 2, 1) := by decide +kernel
theorem dX6_sink_85 : decode cX6_sink 85 = .ok (.iconst 2, 1) := by decide +kernel
theorem dX6_sink_86 : decode cX6_sink 86 = .ok (.iload_n 2, 1) := by decide +kernel
theorem dX6_sink_87 : decode cX6_sink 87 = .ok (.imul, 1) := by decide +kernel
theorem dX6_sink_88 : decode cX6_sink 88 = .ok (.iconst 1, 1) := by decide +kernel
theorem dX6_sink_89 : decode cX6_sink 89 = .ok (.iadd, 1) := by decide +kernel
theorem dX6_sink_90 : decode cX6_sink 90 = .ok (.istore_n 3, 1) := by decide +kernel
theorem dX6_sink_91 : decode cX6_sink 91 = .ok (.goto (-87), 3) := by decide +kernel
theorem dX6_sink_94 : decode cX6_sink 94 = .ok (.aload_n 0, 1) := by decide +kernel
theorem dX6_sink_95 : decode cX6_sink 95 = .ok (.getfield 15, 3) := by decide +kernel
theorem dX6_sink_98 : decode cX6_sink 98 = .ok (.iload_n 2, 1) := by decide +kernel
theorem dX6_sink_99 : decode cX6_sink 99 = .ok (.iload_n 1, 1) := by decide +kernel
theorem dX6_sink_100 : decode cX6_sink 100 = .ok (.iastore, 1) := by decide +kernel
theorem dX6_sink_101 : decode cX6_sink 101 = .ok (.return_, 1) := by decide +kernel
theorem dX7_init_0 : decode cX7_init 0 = .ok (.aload_n 0, 1) := by decide +kernel
theorem dX7_init_1 : decode cX7_init 1 = .ok (.invokespecial 3, 3) := by decide +kernel
theorem dX7_init_4 : decode cX7_init 4 = .ok (.aload_n 0, 1) := by decide +kernel
theorem dX7_init_5 : decode cX7_init 5 = .ok (.sipush 4096, 3) := by decide +kernel
theorem dX7_init_8 : decode cX7_init 8 = .ok (.newarray .int, 2) := by decide +kernel
theorem dX7_init_10 : decode cX7_init 10 = .ok (.putfield 9, 3) := by decide +kernel
theorem dX7_init_13 : decode cX7_init 13 = .ok (.aload_n 0, 1) := by decide +kernel
theorem dX7_init_14 : decode cX7_init 14 = .ok (.aload_n 1, 1) := by decide +kernel
theorem dX7_init_15 : decode cX7_init 15 = .ok (.putfield 15, 3) := by decide +kernel
theorem dX7_init_18 : decode cX7_init 18 = .ok (.aload_n 0, 1) := by decide +kernel
theorem dX7_init_19 : decode cX7_init 19 = .ok (.aload_n 2, 1) := by decide +kernel
theorem dX7_init_20 : decode cX7_init 20 = .ok (.putfield 19, 3) := by decide +kernel
theorem dX7_init_23 : decode cX7_init 23 = .ok (.return_, 1) := by decide +kernel
set_option maxRecDepth 20000 in
theorem ggX7_look_X8_load : GoodIn wsX7_look wsX8_load := goodIn_r _ [9, 10, 11, 12, 13, 14, 15, 16, 17, 18, 19, 20, 8, 21, 22, 23, 24, 25, 26, 27, 28, 29, 30, 31, 73, 74, 75, 76, 77, 78, 79, 80, 81] (by decide +kernel) (by decide +kernel)
set_option maxRecDepth 20000 in
theorem gX7_look_X8_load : GoodIn wsX7_look (wsV RX7 23 RX8 yX8_load wsX8_load) := goodIn_app (goodIn_of _ (by decide +kernel)) ggX7_look_X8_load
set_option maxRecDepth 20000 in
theorem ggX7_look_X9_begin : GoodIn wsX7_look wsX9_begin := goodIn_r _ [36, 37, 38, 39, 40, 41, 82] (by decide +kernel) (by decide +kernel)
set_option maxRecDepth 20000 in
theorem gX7_look_X9_begin : GoodIn wsX7_look (wsV RX7 29 RX9 yX9_begin wsX9_begin) := goodIn_app (goodIn_of _ (by decide +kernel)) ggX7_look_X9_begin
set_option maxRecDepth 20000 in
theorem ggX7_look_X7_isWanted : GoodIn wsX7_look wsX7_isWanted := goodIn_r _ [45, 46, 47, 44, 48] (by decide +kernel) (by decide +kernel)
set_option maxRecDepth 20000 in
theorem gX7_look_X7_isWanted : GoodIn wsX7_look (va_wsS RX7 39 yX7_isWanted wsX7_isWanted) := goodIn_app (goodIn_of _ (by decide +kernel)) ggX7_look_X7_isWanted
set_option maxRecDepth 20000 in
theorem ggX7_look_X7_lookFrom : GoodIn wsX7_look wsX7_lookFrom := goodIn_r _ [52, 1, 2, 4, 3, 53, 54, 55, 8, 56, 10, 57, 58, 59, 60, 11, 12, 61, 62, 63, 35, 64, 37, 65, 66, 67, 68, 42, 43, 44, 45, 46, 47, 48, 69, 70, 71, 72, 73, 74, 75, 82] (by decide +kernel) (by decide +kernel)
set_option maxRecDepth 20000 in
theorem gX7_look_X7_lookFrom : GoodIn wsX7_look (wsV RX7 43 RX7 yX7_lookFrom wsX7_lookFrom) := goodIn_app (goodIn_of _ (by decide +kernel)) ggX7_look_X7_lookFrom
theorem dX7_look_0 : decode cX7_look 0 = .ok (.aload_n 0, 1) := by decide +kernel
theorem dX7_look_1 : decode cX7_look 1 = .ok (.getfield 15, 3) := by decide +kernel
theorem dX7_look_4 : decode cX7_look 4 = .ok (.aload_n 1, 1) := by decide +kernel
theorem dX7_look_5 : decode cX7_look 5 = .ok (.invokevirtual 23, 3) := by decide +kernel
theorem dX7_look_8 : decode cX7_look 8 = .ok (.aload_n 0, 1) := by decide +kernel
theorem dX7_look_9 : decode cX7_look 9 = .ok (.getfield 19, 3) := by decide +kernel
theorem dX7_look_12 : decode cX7_look 12 = .ok (.iload_n 2, 1) := by decide +kernel
theorem dX7_look_13 : decode cX7_look 13 = .ok (.invokevirtual 29, 3) := by decide +kernel
theorem dX7_look_16 : decode cX7_look 16 = .ok (.aload_n 0, 1) := by decide +kernel
theorem dX7_look_17 : decode cX7_look 17 = .ok (.getfield 9, 3) := by decide +kernel
theorem dX7_look_20 : decode cX7_look 20 = .ok (.iconst 0, 1) := by decide +kernel
theorem dX7_look_21 : decode cX7_look 21 = .ok (.iload_n 2, 1) := by decide +kernel
theorem dX7_look_22 : decode cX7_look 22 = .ok (.iastore, 1) := by decide +kernel
theorem dX7_look_23 : decode cX7_look 23 = .ok (.aload_n 0, 1) := by decide +kernel
theorem dX7_look_24 : decode cX7_look 24 = .ok (.iconst 1, 1) := by decide +kernel
theorem dX7_look_25 : decode cX7_look 25 = .ok (.putfield 35, 3) := by decide +kernel
theorem dX7_look_28 : decode cX7_look 28 = .ok (.iload_n 2, 1) := by decide +kernel
theorem dX7_look_29 : decode cX7_look 29 = .ok (.iload_n 3, 1) := by decide +kernel
theorem dX7_look_30 : decode cX7_look 30 = .ok (.invokestatic 39, 3) := by decide +kernel
theorem dX7_look_33 : decode cX7_look 33 = .ok (.ifCond .eq 5, 3) := by decide +kernel
theorem dX7_look_36 : decode cX7_look 36 = .ok (.iload_n 2, 1) := by decide +kernel
theorem dX7_look_37 : decode cX7_look 37 = .ok (.ireturn, 1) := by decide +kernel
theorem dX7_look_38 : decode cX7_look 38 = .ok (.iconst 0, 1) := by decide +kernel
theorem dX7_look_39 : decode cX7_look 39 = .ok (.istore 4, 2) := by decide +kernel
theorem dX7_look_41 : decode cX7_look 41 = .ok (.iload 4, 2) := by decide +kernel
theorem dX7_look_43 : decode cX7_look 43 = .ok (.aload_n 0, 1) := by decide +kernel
theorem dX7_look_44 : decode cX7_look 44 = .ok (.getfield 35, 3) := by decide +kernel
theorem dX7_look_47 : decode cX7_look 47 = .ok (.if_icmp .ge 39, 3) := by decide +kernel
theorem dX7_look_50 : decode cX7_look 50 = .ok (.iload 4, 2) := by decide +kernel
theorem dX7_look_52 : decode cX7_look 52 = .ok (.sipush 4096, 3) := by decide +kernel
theorem dX7_look_55 : decode cX7_look 55 = .ok (.if_icmp .ge 31, 3) := by decide +kernel
theorem dX7_look_58 : decode cX7_look 58 = .ok (.aload_n 0, 1) := by decide +kernel
theorem dX7_look_59 : decode cX7_look 59 = .ok (.aload_n 0, 1) := by decide +kernel
theorem dX7_look_60 : decode cX7_look 60 = .ok (.getfield 9, 3) := by decide +kernel
theorem dX7_look_63 : decode cX7_look 63 = .ok (.iload 4, 2) := by decide +kernel
theorem dX7_look_65 : decode cX7_look 65 = .ok (.iaload, 1) := by decide +kernel
theorem dX7_look_66 : decode cX7_look 66 = .ok (.iload_n 3, 1) := by decide +kernel
theorem dX7_look_67 : decode cX7_look 67 = .ok (.invokevirtual 43, 3) := by decide +kernel
theorem dX7_look_70 : decode cX7_look 70 = .ok (.istore 5, 2) := by decide +kernel
theorem dX7_look_72 : decode cX7_look 72 = .ok (.iload 5, 2) := by decide +kernel
theorem dX7_look_74 : decode cX7_look 74 = .ok (.ifCond .eq 6, 3) := by decide +kernel
theorem dX7_look_77 : decode cX7_look 77 = .ok (.iload 5, 2) := by decide +kernel
theorem dX7_look_79 : decode cX7_look 79 = .ok (.ireturn, 1) := by decide +kernel
theorem dX7_look_80 : decode cX7_look 80 = .ok (.iinc 4 1, 3) := by decide +kernel
theorem dX7_look_83 : decode cX7_look 83 = .ok (.goto (-42), 3) := by decide +kernel
theorem dX7_look_86 : decode cX7_look 86 = .ok (.iconst 0, 1) := by decide +kernel
theorem dX7_look_87 : decode cX7_look 87 = .ok (.ireturn, 1) := by decide +kernel
set_option maxRecDepth 20000 in
theorem ggX7_lookFrom_X8_letters : GoodIn wsX7_lookFrom wsX8_letters := goodIn_r _ [9, 10, 38, 39, 40] (by decide +kernel) (by decide +kernel)
set_option maxRecDepth 20000 in
theorem gX7_lookFrom_X8_letters : GoodIn wsX7_lookFrom (wsV RX7 47 RX8 yX8_letters wsX8_letters) := goodIn_app (goodIn_of _ (by decide +kernel)) ggX7_lookFrom_X8_letters
set_option maxRecDepth 20000 in
theorem ggX7_lookFrom_X8_after : GoodIn wsX7_lookFrom wsX8_after := goodIn_r _ [14, 15, 16, 38, 39, 40] (by decide +kernel) (by decide +kernel)
set_option maxRecDepth 20000 in
theorem gX7_lookFrom_X8_after : GoodIn wsX7_lookFrom (wsV RX7 51 RX8 yX8_after wsX8_after) := goodIn_app (goodIn_of _ (by decide +kernel)) ggX7_lookFrom_X8_after
set_option maxRecDepth 20000 in
theorem ggX7_lookFrom_X9_knows : GoodIn wsX7_lookFrom wsX9_knows := goodIn_r _ [21, 22, 41] (by decide +kernel) (by decide +kernel)
set_option maxRecDepth 20000 in
theorem gX7_lookFrom_X9_knows : GoodIn wsX7_lookFrom (wsV RX7 54 RX9 yX9_knows wsX9_knows) := goodIn_app (goodIn_of _ (by decide +kernel)) ggX7_lookFrom_X9_knows
set_option maxRecDepth 20000 in
theorem ggX7_lookFrom_X9_mark : GoodIn wsX7_lookFrom wsX9_mark := goodIn_r _ [26, 22, 41] (by decide +kernel) (by decide +kernel)
set_option maxRecDepth 20000 in
theorem gX7_lookFrom_X9_mark : GoodIn wsX7_lookFrom (wsV RX7 58 RX9 yX9_mark wsX9_mark) := goodIn_app (goodIn_of _ (by decide +kernel)) ggX7_lookFrom_X9_mark
set_option maxRecDepth 20000 in
theorem ggX7_lookFrom_X7_isWanted : GoodIn wsX7_lookFrom wsX7_isWanted := goodIn_r _ [30, 31, 32, 29, 33] (by decide +kernel) (by decide +kernel)
set_option maxRecDepth 20000 in
theorem gX7_lookFrom_X7_isWanted : GoodIn wsX7_lookFrom (va_wsS RX7 39 yX7_isWanted wsX7_isWanted) := goodIn_app (goodIn_of _ (by decide +kernel)) ggX7_lookFrom_X7_isWanted
theorem dX7_lookFrom_0 : decode cX7_lookFrom 0 = .ok (.iconst 0, 1) := by decide +kernel
theorem dX7_lookFrom_1 : decode cX7_lookFrom 1 = .ok (.istore_n 3, 1) := by decide +kernel
theorem dX7_lookFrom_2 : decode cX7_lookFrom 2 = .ok (.iload_n 3, 1) := by decide +kernel
theorem dX7_lookFrom_3 : decode cX7_lookFrom 3 = .ok (.aload_n 0, 1) := by decide +kernel
theorem dX7_lookFrom_4 : decode cX7_lookFrom 4 = .ok (.getfield 15, 3) := by decide +kernel
theorem dX7_lookFrom_7 : decode cX7_lookFrom 7 = .ok (.invokevirtual 47, 3) := by decide +kernel
theorem dX7_lookFrom_10 : decode cX7_lookFrom 10 = .ok (.if_icmp .ge 94, 3) := by decide +kernel
theorem dX7_lookFrom_13 : decode cX7_lookFrom 13 = .ok (.aload_n 0, 1) := by decide +kernel
theorem dX7_lookFrom_14 : decode cX7_lookFrom 14 = .ok (.getfield 15, 3) := by decide +kernel
theorem dX7_lookFrom_17 : decode cX7_lookFrom 17 = .ok (.iload_n 1, 1) := by decide +kernel
theorem dX7_lookFrom_18 : decode cX7_lookFrom 18 = .ok (.iload_n 3, 1) := by decide +kernel
theorem dX7_lookFrom_19 : decode cX7_lookFrom 19 = .ok (.invokevirtual 51, 3) := by decide +kernel
theorem dX7_lookFrom_22 : decode cX7_lookFrom 22 = .ok (.istore 4, 2) := by decide +kernel
theorem dX7_lookFrom_24 : decode cX7_lookFrom 24 = .ok (.iload 4, 2) := by decide +kernel
theorem dX7_lookFrom_26 : decode cX7_lookFrom 26 = .ok (.ifCond .eq 72, 3) := by decide +kernel
theorem dX7_lookFrom_29 : decode cX7_lookFrom 29 = .ok (.aload_n 0, 1) := by decide +kernel
theorem dX7_lookFrom_30 : decode cX7_lookFrom 30 = .ok (.getfield 19, 3) := by decide +kernel
theorem dX7_lookFrom_33 : decode cX7_lookFrom 33 = .ok (.iload 4, 2) := by decide +kernel
theorem dX7_lookFrom_35 : decode cX7_lookFrom 35 = .ok (.invokevirtual 54, 3) := by decide +kernel
theorem dX7_lookFrom_38 : decode cX7_lookFrom 38 = .ok (.ifCond .ne 60, 3) := by decide +kernel
theorem dX7_lookFrom_41 : decode cX7_lookFrom 41 = .ok (.aload_n 0, 1) := by decide +kernel
theorem dX7_lookFrom_42 : decode cX7_lookFrom 42 = .ok (.getfield 35, 3) := by decide +kernel
theorem dX7_lookFrom_45 : decode cX7_lookFrom 45 = .ok (.sipush 4096, 3) := by decide +kernel
theorem dX7_lookFrom_48 : decode cX7_lookFrom 48 = .ok (.if_icmp .lt 6, 3) := by decide +kernel
theorem dX7_lookFrom_51 : decode cX7_lookFrom 51 = .ok (.goto 47, 3) := by decide +kernel
theorem dX7_lookFrom_54 : decode cX7_lookFrom 54 = .ok (.aload_n 0, 1) := by decide +kernel
theorem dX7_lookFrom_55 : decode cX7_lookFrom 55 = .ok (.getfield 19, 3) := by decide +kernel
theorem dX7_lookFrom_58 : decode cX7_lookFrom 58 = .ok (.iload 4, 2) := by decide +kernel
theorem dX7_lookFrom_60 : decode cX7_lookFrom 60 = .ok (.iload_n 1, 1) := by decide +kernel
theorem dX7_lookFrom_61 : decode cX7_lookFrom 61 = .ok (.iload_n 3, 1) := by decide +kernel
theorem dX7_lookFrom_62 : decode cX7_lookFrom 62 = .ok (.invokevirtual 58, 3) := by decide +kernel
theorem dX7_lookFrom_65 : decode cX7_lookFrom 65 = .ok (.aload_n 0, 1) := by decide +kernel
theorem dX7_lookFrom_66 : decode cX7_lookFrom 66 = .ok (.getfield 9, 3) := by decide +kernel
theorem dX7_lookFrom_69 : decode cX7_lookFrom 69 = .ok (.aload_n 0, 1) := by decide +kernel
theorem dX7_lookFrom_70 : decode cX7_lookFrom 70 = .ok (.getfield 35, 3) := by decide +kernel
theorem dX7_lookFrom_73 : decode cX7_lookFrom 73 = .ok (.iload 4, 2) := by decide +kernel
theorem dX7_lookFrom_75 : decode cX7_lookFrom 75 = .ok (.iastore, 1) := by decide +kernel
theorem dX7_lookFrom_76 : decode cX7_lookFrom 76 = .ok (.aload_n 0, 1) := by decide +kernel
theorem dX7_lookFrom_77 : decode cX7_lookFrom 77 = .ok (.dup, 1) := by decide +kernel
theorem dX7_lookFrom_78 : decode cX7_lookFrom 78 = .ok (.getfield 35, 3) := by decide +kernel
theorem dX7_lookFrom_81 : decode cX7_lookFrom 81 = .ok (.iconst 1, 1) := by decide +kernel
theorem dX7_lookFrom_82 : decode cX7_lookFrom 82 = .ok (.iadd, 1) := by decide +kernel
theorem dX7_lookFrom_83 : decode cX7_lookFrom 83 = .ok (.putfield 35, 3) := by decide +kernel
theorem dX7_lookFrom_86 : decode cX7_lookFrom 86 = .ok (.iload 4, 2) := by decide +kernel
theorem dX7_lookFrom_88 : decode cX7_lookFrom 88 = .ok (.iload_n 2, 1) := by decide +kernel
theorem dX7_lookFrom_89 : decode cX7_lookFrom 89 = .ok (.invokestatic 39, 3) := by decide +kernel
theorem dX7_lookFrom_92 : decode cX7_lookFrom 92 = .ok (.ifCond .eq 6, 3) := by decide +kernel
theorem dX7_lookFrom_95 : decode cX7_lookFrom 95 = .ok (.iload 4, 2) := by decide +kernel
theorem dX7_lookFrom_97 : decode cX7_lookFrom 97 = .ok (.ireturn, 1) := by decide +kernel
theorem dX7_lookFrom_98 : decode cX7_lookFrom 98 = .ok (.iinc 3 1, 3) := by decide +kernel
theorem dX7_lookFrom_101 : decode cX7_lookFrom 101 = .ok (.goto (-99), 3) := by decide +kernel
theorem dX7_lookFrom_104 : decode cX7_lookFrom 104 = .ok (.iconst 0, 1) := by decide +kernel
theorem dX7_lookFrom_105 : decode cX7_lookFrom 105 = .ok (.ireturn, 1) := by decide +kernel
set_option maxRecDepth 20000 in
theorem ggX7_isWanted_X7_isOne : GoodIn wsX7_isWanted wsX7_isOne := goodIn_r _ [4] (by decide +kernel) (by decide +kernel)
set_option maxRecDepth 20000 in
theorem gX7_isWanted_X7_isOne : GoodIn wsX7_isWanted (va_wsS RX7 62 yX7_isOne wsX7_isOne) := goodIn_app (goodIn_of _ (by decide +kernel)) ggX7_isWanted_X7_isOne
theorem dX7_isWanted_0 : decode cX7_isWanted 0 = .ok (.iload_n 1, 1) := by decide +kernel
theorem dX7_isWanted_1 : decode cX7_isWanted 1 = .ok (.ifCond .ne 10, 3) := by decide +kernel
theorem dX7_isWanted_4 : decode cX7_isWanted 4 = .ok (.iload_n 0, 1) := by decide +kernel
theorem dX7_isWanted_5 : decode cX7_isWanted 5 = .ok (.invokestatic 62, 3) := by decide +kernel
theorem dX7_isWanted_8 : decode cX7_isWanted 8 = .ok (.goto 13, 3) := by decide +kernel
theorem dX7_isWanted_11 : decode cX7_isWanted 11 = .ok (.iload_n 0, 1) := by decide +kernel
theorem dX7_isWanted_12 : decode cX7_isWanted 12 = .ok (.iload_n 1, 1) := by decide +kernel
theorem dX7_isWanted_13 : decode cX7_isWanted 13 = .ok (.if_icmp .ne 7, 3) := by decide +kernel
theorem dX7_isWanted_16 : decode cX7_isWanted 16 = .ok (.iconst 1, 1) := by decide +kernel
theorem dX7_isWanted_17 : decode cX7_isWanted 17 = .ok (.goto 4, 3) := by decide +kernel
theorem dX7_isWanted_20 : decode cX7_isWanted 20 = .ok (.iconst 0, 1) := by decide +kernel
theorem dX7_isWanted_21 : decode cX7_isWanted 21 = .ok (.ireturn, 1) := by decide +kernel
theorem dX7_isOne_0 : decode cX7_isOne 0 = .ok (.iload_n 0, 1) := by decide +kernel
theorem dX7_isOne_1 : decode cX7_isOne 1 = .ok (.ifCond .le 15, 3) := by decide +kernel
theorem dX7_isOne_4 : decode cX7_isOne 4 = .ok (.iload_n 0, 1) := by decide +kernel
theorem dX7_isOne_5 : decode cX7_isOne 5 = .ok (.iload_n 0, 1) := by decide +kernel
theorem dX7_isOne_6 : decode cX7_isOne 6 = .ok (.iconst 1, 1) := by decide +kernel
theorem dX7_isOne_7 : decode cX7_isOne 7 = .ok (.isub, 1) := by decide +kernel
theorem dX7_isOne_8 : decode cX7_isOne 8 = .ok (.iand, 1) := by decide +kernel
theorem dX7_isOne_9 : decode cX7_isOne 9 = .ok (.ifCond .ne 7, 3) := by decide +kernel
theorem dX7_isOne_12 : decode cX7_isOne 12 = .ok (.iconst 1, 1) := by decide +kernel
theorem dX7_isOne_13 : decode cX7_isOne 13 = .ok (.goto 4, 3) := by decide +kernel
theorem dX7_isOne_16 : decode cX7_isOne 16 = .ok (.iconst 0, 1) := by decide +kernel
theorem dX7_isOne_17 : decode cX7_isOne 17 = .ok (.ireturn, 1) := by decide +kernel
theorem dX7_size_0 : decode cX7_size 0 = .ok (.aload_n 0, 1) := by decide +kernel
theorem dX7_size_1 : decode cX7_size 1 = .ok (.getfield 35, 3) := by decide +kernel
theorem dX7_size_4 : decode cX7_size 4 = .ok (.ireturn, 1) := by decide +kernel
theorem dX7_found_0 : decode cX7_found 0 = .ok (.iload_n 1, 1) := by decide +kernel
theorem dX7_found_1 : decode cX7_found 1 = .ok (.ifCond .lt 27, 3) := by decide +kernel
theorem dX7_found_4 : decode cX7_found 4 = .ok (.iload_n 1, 1) := by decide +kernel
theorem dX7_found_5 : decode cX7_found 5 = .ok (.aload_n 0, 1) := by decide +kernel
theorem dX7_found_6 : decode cX7_found 6 = .ok (.getfield 35, 3) := by decide +kernel
theorem dX7_found_9 : decode cX7_found 9 = .ok (.if_icmp .ge 19, 3) := by decide +kernel
theorem dX7_found_12 : decode cX7_found 12 = .ok (.iload_n 1, 1) := by decide +kernel
theorem dX7_found_13 : decode cX7_found 13 = .ok (.sipush 4096, 3) := by decide +kernel
theorem dX7_found_16 : decode cX7_found 16 = .ok (.if_icmp .ge 12, 3) := by decide +kernel
theorem dX7_found_19 : decode cX7_found 19 = .ok (.aload_n 0, 1) := by decide +kernel
theorem dX7_found_20 : decode cX7_found 20 = .ok (.getfield 9, 3) := by decide +kernel
theorem dX7_found_23 : decode cX7_found 23 = .ok (.iload_n 1, 1) := by decide +kernel
theorem dX7_found_24 : decode cX7_found 24 = .ok (.iaload, 1) := by decide +kernel
theorem dX7_found_25 : decode cX7_found 25 = .ok (.goto 4, 3) := by decide +kernel
theorem dX7_found_28 : decode cX7_found 28 = .ok (.iconst 0, 1) := by decide +kernel
theorem dX7_found_29 : decode cX7_found 29 = .ok (.ireturn, 1) := by decide +kernel
set_option maxRecDepth 20000 in
theorem ggX7_fewest_X7_found : GoodIn wsX7_fewest wsX7_found := goodIn_r _ [6, 1, 7, 15, 16, 17, 18] (by decide +kernel) (by decide +kernel)
set_option maxRecDepth 20000 in
theorem gX7_fewest_X7_found : GoodIn wsX7_fewest (wsV RX7 65 RX7 yX7_found wsX7_found) := goodIn_app (goodIn_of _ (by decide +kernel)) ggX7_fewest_X7_found
set_option maxRecDepth 20000 in
theorem ggX7_fewest_J6_bitCount_0f7a4 : GoodIn wsX7_fewest wsJ6_bitCount_0f7a4 := goodIn_r _ [11, 12, 13, 14] (by decide +kernel) (by decide +kernel)
set_option maxRecDepth 20000 in
theorem gX7_fewest_J6_bitCount_0f7a4 : GoodIn wsX7_fewest (va_wsS RX7 69 yJ6_bitCount_0f7a4 wsJ6_bitCount_0f7a4) := goodIn_app (goodIn_of _ (by decide +kernel)) ggX7_fewest_J6_bitCount_0f7a4
theorem dX7_fewest_0 : decode cX7_fewest 0 = .ok (.aload_n 0, 1) := by decide +kernel
theorem dX7_fewest_1 : decode cX7_fewest 1 = .ok (.iconst 0, 1) := by decide +kernel
theorem dX7_fewest_2 : decode cX7_fewest 2 = .ok (.invokevirtual 65, 3) := by decide +kernel
theorem dX7_fewest_5 : decode cX7_fewest 5 = .ok (.istore_n 1, 1) := by decide +kernel
theorem dX7_fewest_6 : decode cX7_fewest 6 = .ok (.iconst 1, 1) := by decide +kernel
theorem dX7_fewest_7 : decode cX7_fewest 7 = .ok (.istore_n 2, 1) := by decide +kernel
theorem dX7_fewest_8 : decode cX7_fewest 8 = .ok (.iload_n 2, 1) := by decide +kernel
theorem dX7_fewest_9 : decode cX7_fewest 9 = .ok (.aload_n 0, 1) := by decide +kernel
theorem dX7_fewest_10 : decode cX7_fewest 10 = .ok (.getfield 35, 3) := by decide +kernel
theorem dX7_fewest_13 : decode cX7_fewest 13 = .ok (.if_icmp .ge 30, 3) := by decide +kernel
theorem dX7_fewest_16 : decode cX7_fewest 16 = .ok (.aload_n 0, 1) := by decide +kernel
theorem dX7_fewest_17 : decode cX7_fewest 17 = .ok (.iload_n 2, 1) := by decide +kernel
theorem dX7_fewest_18 : decode cX7_fewest 18 = .ok (.invokevirtual 65, 3) := by decide +kernel
theorem dX7_fewest_21 : decode cX7_fewest 21 = .ok (.invokestatic 69, 3) := by decide +kernel
theorem dX7_fewest_24 : decode cX7_fewest 24 = .ok (.iload_n 1, 1) := by decide +kernel
theorem dX7_fewest_25 : decode cX7_fewest 25 = .ok (.invokestatic 69, 3) := by decide +kernel
theorem dX7_fewest_28 : decode cX7_fewest 28 = .ok (.if_icmp .ge 9, 3) := by decide +kernel
theorem dX7_fewest_31 : decode cX7_fewest 31 = .ok (.aload_n 0, 1) := by decide +kernel
theorem dX7_fewest_32 : decode cX7_fewest 32 = .ok (.iload_n 2, 1) := by decide +kernel
theorem dX7_fewest_33 : decode cX7_fewest 33 = .ok (.invokevirtual 65, 3) := by decide +kernel
theorem dX7_fewest_36 : decode cX7_fewest 36 = .ok (.istore_n 1, 1) := by decide +kernel
theorem dX7_fewest_37 : decode cX7_fewest 37 = .ok (.iinc 2 1, 3) := by decide +kernel
theorem dX7_fewest_40 : decode cX7_fewest 40 = .ok (.goto (-32), 3) := by decide +kernel
theorem dX7_fewest_43 : decode cX7_fewest 43 = .ok (.iload_n 1, 1) := by decide +kernel
theorem dX7_fewest_44 : decode cX7_fewest 44 = .ok (.ireturn, 1) := by decide +kernel
theorem dX8_init_0 : decode cX8_init 0 = .ok (.aload_n 0, 1) := by decide +kernel
theorem dX8_init_1 : decode cX8_init 1 = .ok (.invokespecial 5, 3) := by decide +kernel
theorem dX8_init_4 : decode cX8_init 4 = .ok (.aload_n 0, 1) := by decide +kernel
theorem dX8_init_5 : decode cX8_init 5 = .ok (.sipush 256, 3) := by decide +kernel
theorem dX8_init_8 : decode cX8_init 8 = .ok (.newarray .int, 2) := by decide +kernel
theorem dX8_init_10 : decode cX8_init 10 = .ok (.putfield 11, 3) := by decide +kernel
theorem dX8_init_13 : decode cX8_init 13 = .ok (.aload_n 0, 1) := by decide +kernel
theorem dX8_init_14 : decode cX8_init 14 = .ok (.sipush 256, 3) := by decide +kernel
theorem dX8_init_17 : decode cX8_init 17 = .ok (.newarray .int, 2) := by decide +kernel
theorem dX8_init_19 : decode cX8_init 19 = .ok (.putfield 15, 3) := by decide +kernel
theorem dX8_init_22 : decode cX8_init 22 = .ok (.return_, 1) := by decide +kernel
set_option maxRecDepth 20000 in
theorem ggX8_load_X4_letters : GoodIn wsX8_load wsX4_letters := goodIn_r _ [8, 9, 27, 28, 29, 30, 31, 32] (by decide +kernel) (by decide +kernel)
set_option maxRecDepth 20000 in
theorem gX8_load_X4_letters : GoodIn wsX8_load (wsV RX8 18 RX4 yX4_letters wsX4_letters) := goodIn_app (goodIn_of _ (by decide +kernel)) ggX8_load_X4_letters
set_option maxRecDepth 20000 in
theorem ggX8_load_X8_fill : GoodIn wsX8_load wsX8_fill := goodIn_r _ [13, 14, 15, 16, 7, 17, 18, 19, 20, 21, 22, 9, 23, 27, 28, 29, 30, 31, 32] (by decide +kernel) (by decide +kernel)
set_option maxRecDepth 20000 in
theorem gX8_load_X8_fill : GoodIn wsX8_load (va_wsS RX8 27 yX8_fill wsX8_fill) := goodIn_app (goodIn_of _ (by decide +kernel)) ggX8_load_X8_fill
theorem dX8_load_0 : decode cX8_load 0 = .ok (.aload_n 0, 1) := by decide +kernel
theorem dX8_load_1 : decode cX8_load 1 = .ok (.aload_n 1, 1) := by decide +kernel
theorem dX8_load_2 : decode cX8_load 2 = .ok (.invokevirtual 18, 3) := by decide +kernel
theorem dX8_load_5 : decode cX8_load 5 = .ok (.putfield 24, 3) := by decide +kernel
theorem dX8_load_8 : decode cX8_load 8 = .ok (.iconst 0, 1) := by decide +kernel
theorem dX8_load_9 : decode cX8_load 9 = .ok (.istore_n 2, 1) := by decide +kernel
theorem dX8_load_10 : decode cX8_load 10 = .ok (.iload_n 2, 1) := by decide +kernel
theorem dX8_load_11 : decode cX8_load 11 = .ok (.aload_n 0, 1) := by decide +kernel
theorem dX8_load_12 : decode cX8_load 12 = .ok (.getfield 24, 3) := by decide +kernel
theorem dX8_load_15 : decode cX8_load 15 = .ok (.if_icmp .ge 30, 3) := by decide +kernel
theorem dX8_load_18 : decode cX8_load 18 = .ok (.aload_n 0, 1) := by decide +kernel
theorem dX8_load_19 : decode cX8_load 19 = .ok (.getfield 11, 3) := by decide +kernel
theorem dX8_load_22 : decode cX8_load 22 = .ok (.aload_n 1, 1) := by decide +kernel
theorem dX8_load_23 : decode cX8_load 23 = .ok (.iload_n 2, 1) := by decide +kernel
theorem dX8_load_24 : decode cX8_load 24 = .ok (.iconst 0, 1) := by decide +kernel
theorem dX8_load_25 : decode cX8_load 25 = .ok (.invokestatic 27, 3) := by decide +kernel
theorem dX8_load_28 : decode cX8_load 28 = .ok (.aload_n 0, 1) := by decide +kernel
theorem dX8_load_29 : decode cX8_load 29 = .ok (.getfield 15, 3) := by decide +kernel
theorem dX8_load_32 : decode cX8_load 32 = .ok (.aload_n 1, 1) := by decide +kernel
theorem dX8_load_33 : decode cX8_load 33 = .ok (.iload_n 2, 1) := by decide +kernel
theorem dX8_load_34 : decode cX8_load 34 = .ok (.bipush 6, 2) := by decide +kernel
theorem dX8_load_36 : decode cX8_load 36 = .ok (.invokestatic 27, 3) := by decide +kernel
theorem dX8_load_39 : decode cX8_load 39 = .ok (.iinc 2 1, 3) := by decide +kernel
theorem dX8_load_42 : decode cX8_load 42 = .ok (.goto (-32), 3) := by decide +kernel
theorem dX8_load_45 : decode cX8_load 45 = .ok (.return_, 1) := by decide +kernel
set_option maxRecDepth 20000 in
theorem ggX8_fill_X4_hasState : GoodIn wsX8_fill wsX4_hasState := goodIn_r _ [5, 6, 13, 14, 15, 16, 17, 18] (by decide +kernel) (by decide +kernel)
set_option maxRecDepth 20000 in
theorem gX8_fill_X4_hasState : GoodIn wsX8_fill (wsV RX8 31 RX4 yX4_hasState wsX4_hasState) := goodIn_app (goodIn_of _ (by decide +kernel)) ggX8_fill_X4_hasState
set_option maxRecDepth 20000 in
theorem ggX8_fill_X4_target : GoodIn wsX8_fill wsX4_target := goodIn_r _ [10, 6, 11, 12, 13, 14, 15, 16, 17, 18] (by decide +kernel) (by decide +kernel)
set_option maxRecDepth 20000 in
theorem gX8_fill_X4_target : GoodIn wsX8_fill (wsV RX8 35 RX4 yX4_target wsX4_target) := goodIn_app (goodIn_of _ (by decide +kernel)) ggX8_fill_X4_target
theorem dX8_fill_0 : decode cX8_fill 0 = .ok (.iload_n 2, 1) := by decide +kernel
theorem dX8_fill_1 : decode cX8_fill 1 = .ok (.bipush 64, 2) := by decide +kernel
theorem dX8_fill_3 : decode cX8_fill 3 = .ok (.imul, 1) := by decide +kernel
theorem dX8_fill_4 : decode cX8_fill 4 = .ok (.istore 4, 2) := by decide +kernel
theorem dX8_fill_6 : decode cX8_fill 6 = .ok (.iconst 0, 1) := by decide +kernel
theorem dX8_fill_7 : decode cX8_fill 7 = .ok (.istore 5, 2) := by decide +kernel
theorem dX8_fill_9 : decode cX8_fill 9 = .ok (.iload 5, 2) := by decide +kernel
theorem dX8_fill_11 : decode cX8_fill 11 = .ok (.bipush 6, 2) := by decide +kernel
theorem dX8_fill_13 : decode cX8_fill 13 = .ok (.if_icmp .ge 107, 3) := by decide +kernel
theorem dX8_fill_16 : decode cX8_fill 16 = .ok (.aload_n 1, 1) := by decide +kernel
theorem dX8_fill_17 : decode cX8_fill 17 = .ok (.iload_n 3, 1) := by decide +kernel
theorem dX8_fill_18 : decode cX8_fill 18 = .ok (.iload 5, 2) := by decide +kernel
theorem dX8_fill_20 : decode cX8_fill 20 = .ok (.iadd, 1) := by decide +kernel
theorem dX8_fill_21 : decode cX8_fill 21 = .ok (.invokevirtual 31, 3) := by decide +kernel
theorem dX8_fill_24 : decode cX8_fill 24 = .ok (.ifCond .eq 96, 3) := by decide +kernel
theorem dX8_fill_27 : decode cX8_fill 27 = .ok (.aload_n 1, 1) := by decide +kernel
theorem dX8_fill_28 : decode cX8_fill 28 = .ok (.iload_n 3, 1) := by decide +kernel
theorem dX8_fill_29 : decode cX8_fill 29 = .ok (.iload 5, 2) := by decide +kernel
theorem dX8_fill_31 : decode cX8_fill 31 = .ok (.iadd, 1) := by decide +kernel
theorem dX8_fill_32 : decode cX8_fill 32 = .ok (.iload_n 2, 1) := by decide +kernel
theorem dX8_fill_33 : decode cX8_fill 33 = .ok (.invokevirtual 35, 3) := by decide +kernel
theorem dX8_fill_36 : decode cX8_fill 36 = .ok (.istore 6, 2) := by decide +kernel
theorem dX8_fill_38 : decode cX8_fill 38 = .ok (.iload 6, 2) := by decide +kernel
theorem dX8_fill_40 : decode cX8_fill 40 = .ok (.iconst (-1), 1) := by decide +kernel
theorem dX8_fill_41 : decode cX8_fill 41 = .ok (.if_icmp .ne 9, 3) := by decide +kernel
theorem dX8_fill_44 : decode cX8_fill 44 = .ok (.sipush 4096, 3) := by decide +kernel
theorem dX8_fill_47 : decode cX8_fill 47 = .ok (.goto 7, 3) := by decide +kernel
theorem dX8_fill_50 : decode cX8_fill 50 = .ok (.iconst 1, 1) := by decide +kernel
theorem dX8_fill_51 : decode cX8_fill 51 = .ok (.iload 6, 2) := by decide +kernel
theorem dX8_fill_53 : decode cX8_fill 53 = .ok (.ishl, 1) := by decide +kernel
theorem dX8_fill_54 : decode cX8_fill 54 = .ok (.istore 7, 2) := by decide +kernel
theorem dX8_fill_56 : decode cX8_fill 56 = .ok (.iconst 1, 1) := by decide +kernel
theorem dX8_fill_57 : decode cX8_fill 57 = .ok (.iload 5, 2) := by decide +kernel
theorem dX8_fill_59 : decode cX8_fill 59 = .ok (.ishl, 1) := by decide +kernel
theorem dX8_fill_60 : decode cX8_fill 60 = .ok (.istore 8, 2) := by decide +kernel
theorem dX8_fill_62 : decode cX8_fill 62 = .ok (.iconst 0, 1) := by decide +kernel
theorem dX8_fill_63 : decode cX8_fill 63 = .ok (.istore 9, 2) := by decide +kernel
theorem dX8_fill_65 : decode cX8_fill 65 = .ok (.iload 9, 2) := by decide +kernel
theorem dX8_fill_67 : decode cX8_fill 67 = .ok (.iload 8, 2) := by decide +kernel
theorem dX8_fill_69 : decode cX8_fill 69 = .ok (.if_icmp .ge 45, 3) := by decide +kernel
theorem dX8_fill_72 : decode cX8_fill 72 = .ok (.iload 4, 2) := by decide +kernel
theorem dX8_fill_74 : decode cX8_fill 74 = .ok (.iload 9, 2) := by decide +kernel
theorem dX8_fill_76 : decode cX8_fill 76 = .ok (.iadd, 1) := by decide +kernel
theorem dX8_fill_77 : decode cX8_fill 77 = .ok (.istore 10, 2) := by decide +kernel
theorem dX8_fill_79 : decode cX8_fill 79 = .ok (.iload 10, 2) := by decide +kernel
theorem dX8_fill_81 : decode cX8_fill 81 = .ok (.ifCond .lt 27, 3) := by decide +kernel
theorem dX8_fill_84 : decode cX8_fill 84 = .ok (.iload 10, 2) := by decide +kernel
theorem dX8_fill_86 : decode cX8_fill 86 = .ok (.iload 8, 2) := by decide +kernel
theorem dX8_fill_88 : decode cX8_fill 88 = .ok (.iadd, 1) := by decide +kernel
theorem dX8_fill_89 : decode cX8_fill 89 = .ok (.aload_n 0, 1) := by decide +kernel
theorem dX8_fill_90 : decode cX8_fill 90 = .ok (.arraylength, 1) := by decide +kernel
theorem dX8_fill_91 : decode cX8_fill 91 = .ok (.if_icmp .ge 17, 3) := by decide +kernel
theorem dX8_fill_94 : decode cX8_fill 94 = .ok (.aload_n 0, 1) := by decide +kernel
theorem dX8_fill_95 : decode cX8_fill 95 = .ok (.iload 10, 2) := by decide +kernel
theorem dX8_fill_97 : decode cX8_fill 97 = .ok (.iload 8, 2) := by decide +kernel
theorem dX8_fill_99 : decode cX8_fill 99 = .ok (.iadd, 1) := by decide +kernel
theorem dX8_fill_100 : decode cX8_fill 100 = .ok (.aload_n 0, 1) := by decide +kernel
theorem dX8_fill_101 : decode cX8_fill 101 = .ok (.iload 10, 2) := by decide +kernel
theorem dX8_fill_103 : decode cX8_fill 103 = .ok (.iaload, 1) := by decide +kernel
theorem dX8_fill_104 : decode cX8_fill 104 = .ok (.iload 7, 2) := by decide +kernel
theorem dX8_fill_106 : decode cX8_fill 106 = .ok (.ior, 1) := by decide +kernel
theorem dX8_fill_107 : decode cX8_fill 107 = .ok (.iastore, 1) := by decide +kernel
theorem dX8_fill_108 : decode cX8_fill 108 = .ok (.iinc 9 1, 3) := by decide +kernel
theorem dX8_fill_111 : decode cX8_fill 111 = .ok (.goto (-46), 3) := by decide +kernel
theorem dX8_fill_114 : decode cX8_fill 114 = .ok (.iinc 5 1, 3) := by decide +kernel
theorem dX8_fill_117 : decode cX8_fill 117 = .ok (.goto (-108), 3) := by decide +kernel
theorem dX8_fill_120 : decode cX8_fill 120 = .ok (.return_, 1) := by decide +kernel
theorem dX8_letters_0 : decode cX8_letters 0 = .ok (.aload_n 0, 1) := by decide +kernel
theorem dX8_letters_1 : decode cX8_letters 1 = .ok (.getfield 24, 3) := by decide +kernel
theorem dX8_letters_4 : decode cX8_letters 4 = .ok (.ireturn, 1) := by decide +kernel
theorem dX8_after_0 : decode cX8_after 0 = .ok (.iload_n 1, 1) := by decide +kernel
theorem dX8_after_1 : decode cX8_after 1 = .ok (.ifCond .le 19, 3) := by decide +kernel
theorem dX8_after_4 : decode cX8_after 4 = .ok (.iload_n 1, 1) := by decide +kernel
theorem dX8_after_5 : decode cX8_after 5 = .ok (.sipush 4096, 3) := by decide +kernel
theorem dX8_after_8 : decode cX8_after 8 = .ok (.if_icmp .ge 12, 3) := by decide +kernel
theorem dX8_after_11 : decode cX8_after 11 = .ok (.iload_n 2, 1) := by decide +kernel
theorem dX8_after_12 : decode cX8_after 12 = .ok (.ifCond .lt 8, 3) := by decide +kernel
theorem dX8_after_15 : decode cX8_after 15 = .ok (.iload_n 2, 1) := by decide +kernel
theorem dX8_after_16 : decode cX8_after 16 = .ok (.iconst 4, 1) := by decide +kernel
theorem dX8_after_17 : decode cX8_after 17 = .ok (.if_icmp .lt 5, 3) := by decide +kernel
theorem dX8_after_20 : decode cX8_after 20 = .ok (.iconst 0, 1) := by decide +kernel
theorem dX8_after_21 : decode cX8_after 21 = .ok (.ireturn, 1) := by decide +kernel
theorem dX8_after_22 : decode cX8_after 22 = .ok (.iload_n 2, 1) := by decide +kernel
theorem dX8_after_23 : decode cX8_after 23 = .ok (.bipush 64, 2) := by decide +kernel
theorem dX8_after_25 : decode cX8_after 25 = .ok (.imul, 1) := by decide +kernel
theorem dX8_after_26 : decode cX8_after 26 = .ok (.istore_n 3, 1) := by decide +kernel
theorem dX8_after_27 : decode cX8_after 27 = .ok (.aload_n 0, 1) := by decide +kernel
theorem dX8_after_28 : decode cX8_after 28 = .ok (.getfield 11, 3) := by decide +kernel
theorem dX8_after_31 : decode cX8_after 31 = .ok (.iload_n 3, 1) := by decide +kernel
theorem dX8_after_32 : decode cX8_after 32 = .ok (.iload_n 1, 1) := by decide +kernel
theorem dX8_after_33 : decode cX8_after 33 = .ok (.bipush 63, 2) := by decide +kernel
theorem dX8_after_35 : decode cX8_after 35 = .ok (.iand, 1) := by decide +kernel
theorem dX8_after_36 : decode cX8_after 36 = .ok (.iadd, 1) := by decide +kernel
theorem dX8_after_37 : decode cX8_after 37 = .ok (.iaload, 1) := by decide +kernel
theorem dX8_after_38 : decode cX8_after 38 = .ok (.aload_n 0, 1) := by decide +kernel
theorem dX8_after_39 : decode cX8_after 39 = .ok (.getfield 15, 3) := by decide +kernel
theorem dX8_after_42 : decode cX8_after 42 = .ok (.iload_n 3, 1) := by decide +kernel
theorem dX8_after_43 : decode cX8_after 43 = .ok (.iload_n 1, 1) := by decide +kernel
theorem dX8_after_44 : decode cX8_after 44 = .ok (.bipush 6, 2) := by decide +kernel
theorem dX8_after_46 : decode cX8_after 46 = .ok (.ishr, 1) := by decide +kernel
theorem dX8_after_47 : decode cX8_after 47 = .ok (.iadd, 1) := by decide +kernel
theorem dX8_after_48 : decode cX8_after 48 = .ok (.iaload, 1) := by decide +kernel
theorem dX8_after_49 : decode cX8_after 49 = .ok (.ior, 1) := by decide +kernel
theorem dX8_after_50 : decode cX8_after 50 = .ok (.istore 4, 2) := by decide +kernel
theorem dX8_after_52 : decode cX8_after 52 = .ok (.iload 4, 2) := by decide +kernel
theorem dX8_after_54 : decode cX8_after 54 = .ok (.sipush 4096, 3) := by decide +kernel
theorem dX8_after_57 : decode cX8_after 57 = .ok (.if_icmp .lt 7, 3) := by decide +kernel
theorem dX8_after_60 : decode cX8_after 60 = .ok (.iconst 0, 1) := by decide +kernel
theorem dX8_after_61 : decode cX8_after 61 = .ok (.goto 5, 3) := by decide +kernel
theorem dX8_after_64 : decode cX8_after 64 = .ok (.iload 4, 2) := by decide +kernel
theorem dX8_after_66 : decode cX8_after 66 = .ok (.ireturn, 1) := by decide +kernel
set_option maxRecDepth 20000 in
theorem ggX8_afterWord_X10_length : GoodIn wsX8_afterWord wsX10_length := goodIn_r _ [5, 6, 19, 20] (by decide +kernel) (by decide +kernel)
set_option maxRecDepth 20000 in
theorem gX8_afterWord_X10_length : GoodIn wsX8_afterWord (wsV RX8 39 RX10 yX10_length wsX10_length) := goodIn_app (goodIn_of _ (by decide +kernel)) ggX8_afterWord_X10_length
set_option maxRecDepth 20000 in
theorem ggX8_afterWord_X10_at : GoodIn wsX8_afterWord wsX10_at := goodIn_r _ [10, 6, 11, 19, 20] (by decide +kernel) (by decide +kernel)
set_option maxRecDepth 20000 in
theorem gX8_afterWord_X10_at : GoodIn wsX8_afterWord (wsV RX8 44 RX10 yX10_at wsX10_at) := goodIn_app (goodIn_of _ (by decide +kernel)) ggX8_afterWord_X10_at
set_option maxRecDepth 20000 in
theorem ggX8_afterWord_X8_after : GoodIn wsX8_afterWord wsX8_after := goodIn_r _ [16, 17, 18, 21, 22, 23] (by decide +kernel) (by decide +kernel)
set_option maxRecDepth 20000 in
theorem gX8_afterWord_X8_after : GoodIn wsX8_afterWord (wsV RX8 48 RX8 yX8_after wsX8_after) := goodIn_app (goodIn_of _ (by decide +kernel)) ggX8_afterWord_X8_after
theorem dX8_afterWord_0 : decode cX8_afterWord 0 = .ok (.iload_n 1, 1) := by decide +kernel
theorem dX8_afterWord_1 : decode cX8_afterWord 1 = .ok (.istore_n 3, 1) := by decide +kernel
theorem dX8_afterWord_2 : decode cX8_afterWord 2 = .ok (.iconst 0, 1) := by decide +kernel
theorem dX8_afterWord_3 : decode cX8_afterWord 3 = .ok (.istore 4, 2) := by decide +kernel
theorem dX8_afterWord_5 : decode cX8_afterWord 5 = .ok (.iload 4, 2) := by decide +kernel
theorem dX8_afterWord_7 : decode cX8_afterWord 7 = .ok (.aload_n 2, 1) := by decide +kernel
theorem dX8_afterWord_8 : decode cX8_afterWord 8 = .ok (.invokevirtual 39, 3) := by decide +kernel
theorem dX8_afterWord_11 : decode cX8_afterWord 11 = .ok (.if_icmp .ge 25, 3) := by decide +kernel
theorem dX8_afterWord_14 : decode cX8_afterWord 14 = .ok (.iload_n 3, 1) := by decide +kernel
theorem dX8_afterWord_15 : decode cX8_afterWord 15 = .ok (.ifCond .eq 21, 3) := by decide +kernel
theorem dX8_afterWord_18 : decode cX8_afterWord 18 = .ok (.aload_n 0, 1) := by decide +kernel
theorem dX8_afterWord_19 : decode cX8_afterWord 19 = .ok (.iload_n 3, 1) := by decide +kernel
theorem dX8_afterWord_20 : decode cX8_afterWord 20 = .ok (.aload_n 2, 1) := by decide +kernel
theorem dX8_afterWord_21 : decode cX8_afterWord 21 = .ok (.iload 4, 2) := by decide +kernel
theorem dX8_afterWord_23 : decode cX8_afterWord 23 = .ok (.invokevirtual 44, 3) := by decide +kernel
theorem dX8_afterWord_26 : decode cX8_afterWord 26 = .ok (.invokevirtual 48, 3) := by decide +kernel
theorem dX8_afterWord_29 : decode cX8_afterWord 29 = .ok (.istore_n 3, 1) := by decide +kernel
theorem dX8_afterWord_30 : decode cX8_afterWord 30 = .ok (.iinc 4 1, 3) := by decide +kernel
theorem dX8_afterWord_33 : decode cX8_afterWord 33 = .ok (.goto (-28), 3) := by decide +kernel
theorem dX8_afterWord_36 : decode cX8_afterWord 36 = .ok (.iload_n 3, 1) := by decide +kernel
theorem dX8_afterWord_37 : decode cX8_afterWord 37 = .ok (.ireturn, 1) := by decide +kernel
theorem dX9_init_0 : decode cX9_init 0 = .ok (.aload_n 0, 1) := by decide +kernel
theorem dX9_init_1 : decode cX9_init 1 = .ok (.invokespecial 3, 3) := by decide +kernel
theorem dX9_init_4 : decode cX9_init 4 = .ok (.aload_n 0, 1) := by decide +kernel
theorem dX9_init_5 : decode cX9_init 5 = .ok (.sipush 4096, 3) := by decide +kernel
theorem dX9_init_8 : decode cX9_init 8 = .ok (.newarray .int, 2) := by decide +kernel
theorem dX9_init_10 : decode cX9_init 10 = .ok (.putfield 9, 3) := by decide +kernel
theorem dX9_init_13 : decode cX9_init 13 = .ok (.return_, 1) := by decide +kernel
set_option maxRecDepth 20000 in
theorem ggX9_begin_J7_fill_53178 : GoodIn wsX9_begin wsJ7_fill_53178 := goodIn_r _ [5] (by decide +kernel) (by decide +kernel)
set_option maxRecDepth 20000 in
theorem gX9_begin_J7_fill_53178 : GoodIn wsX9_begin (va_wsS RX9 15 yJ7_fill_53178 wsJ7_fill_53178) := goodIn_app (goodIn_of _ (by decide +kernel)) ggX9_begin_J7_fill_53178
theorem dX9_begin_0 : decode cX9_begin 0 = .ok (.aload_n 0, 1) := by decide +kernel
theorem dX9_begin_1 : decode cX9_begin 1 = .ok (.getfield 9, 3) := by decide +kernel
theorem dX9_begin_4 : decode cX9_begin 4 = .ok (.iconst 0, 1) := by decide +kernel
theorem dX9_begin_5 : decode cX9_begin 5 = .ok (.invokestatic 15, 3) := by decide +kernel
theorem dX9_begin_8 : decode cX9_begin 8 = .ok (.iload_n 1, 1) := by decide +kernel
theorem dX9_begin_9 : decode cX9_begin 9 = .ok (.ifCond .le 17, 3) := by decide +kernel
theorem dX9_begin_12 : decode cX9_begin 12 = .ok (.iload_n 1, 1) := by decide +kernel
theorem dX9_begin_13 : decode cX9_begin 13 = .ok (.sipush 4096, 3) := by decide +kernel
theorem dX9_begin_16 : decode cX9_begin 16 = .ok (.if_icmp .ge 10, 3) := by decide +kernel
theorem dX9_begin_19 : decode cX9_begin 19 = .ok (.aload_n 0, 1) := by decide +kernel
theorem dX9_begin_20 : decode cX9_begin 20 = .ok (.getfield 9, 3) := by decide +kernel
theorem dX9_begin_23 : decode cX9_begin 23 = .ok (.iload_n 1, 1) := by decide +kernel
