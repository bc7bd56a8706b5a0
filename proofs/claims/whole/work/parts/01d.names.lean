theorem dX5_setHeat_42 : decode cX5_setHeat 42 = .ok (.iaload, 1) := by decide +kernel
theorem dX5_setHeat_43 : decode cX5_setHeat 43 = .ok (.istore_n 3, 1) := by decide +kernel
theorem dX5_setHeat_44 : decode cX5_setHeat 44 = .ok (.aload_n 0, 1) := by decide +kernel
theorem dX5_setHeat_45 : decode cX5_setHeat 45 = .ok (.getfield 22, 3) := by decide +kernel
theorem dX5_setHeat_48 : decode cX5_setHeat 48 = .ok (.iload_n 1, 1) := by decide +kernel
theorem dX5_setHeat_49 : decode cX5_setHeat 49 = .ok (.iload_n 2, 1) := by decide +kernel
theorem dX5_setHeat_50 : decode cX5_setHeat 50 = .ok (.iastore, 1) := by decide +kernel
theorem dX5_setHeat_51 : decode cX5_setHeat 51 = .ok (.iload_n 3, 1) := by decide +kernel
theorem dX5_setHeat_52 : decode cX5_setHeat 52 = .ok (.ireturn, 1) := by decide +kernel
set_option maxRecDepth 20000 in
theorem ggX5_blooms_X5_isIn : GoodIn wsX5_blooms wsX5_isIn := goodIn_r _ [10] (by decide +kernel) (by decide +kernel)
set_option maxRecDepth 20000 in
theorem gX5_blooms_X5_isIn : GoodIn wsX5_blooms (va_wsS RX5 44 yX5_isIn wsX5_isIn) := goodIn_app (goodIn_of _ (by decide +kernel)) ggX5_blooms_X5_isIn
theorem dX5_blooms_0 : decode cX5_blooms 0 = .ok (.iload_n 2, 1) := by decide +kernel
theorem dX5_blooms_1 : decode cX5_blooms 1 = .ok (.aload_n 0, 1) := by decide +kernel
theorem dX5_blooms_2 : decode cX5_blooms 2 = .ok (.getfield 9, 3) := by decide +kernel
theorem dX5_blooms_5 : decode cX5_blooms 5 = .ok (.iload_n 1, 1) := by decide +kernel
theorem dX5_blooms_6 : decode cX5_blooms 6 = .ok (.iaload, 1) := by decide +kernel
theorem dX5_blooms_7 : decode cX5_blooms 7 = .ok (.aload_n 0, 1) := by decide +kernel
theorem dX5_blooms_8 : decode cX5_blooms 8 = .ok (.getfield 9, 3) := by decide +kernel
theorem dX5_blooms_11 : decode cX5_blooms 11 = .ok (.iload_n 1, 1) := by decide +kernel
theorem dX5_blooms_12 : decode cX5_blooms 12 = .ok (.iaload, 1) := by decide +kernel
theorem dX5_blooms_13 : decode cX5_blooms 13 = .ok (.aload_n 0, 1) := by decide +kernel
theorem dX5_blooms_14 : decode cX5_blooms 14 = .ok (.getfield 13, 3) := by decide +kernel
theorem dX5_blooms_17 : decode cX5_blooms 17 = .ok (.iload_n 1, 1) := by decide +kernel
theorem dX5_blooms_18 : decode cX5_blooms 18 = .ok (.iaload, 1) := by decide +kernel
theorem dX5_blooms_19 : decode cX5_blooms 19 = .ok (.iadd, 1) := by decide +kernel
theorem dX5_blooms_20 : decode cX5_blooms 20 = .ok (.iconst 1, 1) := by decide +kernel
theorem dX5_blooms_21 : decode cX5_blooms 21 = .ok (.isub, 1) := by decide +kernel
theorem dX5_blooms_22 : decode cX5_blooms 22 = .ok (.invokestatic 44, 3) := by decide +kernel
theorem dX5_blooms_25 : decode cX5_blooms 25 = .ok (.ifCond .ne 5, 3) := by decide +kernel
theorem dX5_blooms_28 : decode cX5_blooms 28 = .ok (.iconst 0, 1) := by decide +kernel
theorem dX5_blooms_29 : decode cX5_blooms 29 = .ok (.ireturn, 1) := by decide +kernel
theorem dX5_blooms_30 : decode cX5_blooms 30 = .ok (.bipush 100, 2) := by decide +kernel
theorem dX5_blooms_32 : decode cX5_blooms 32 = .ok (.iload_n 2, 1) := by decide +kernel
theorem dX5_blooms_33 : decode cX5_blooms 33 = .ok (.aload_n 0, 1) := by decide +kernel
theorem dX5_blooms_34 : decode cX5_blooms 34 = .ok (.getfield 9, 3) := by decide +kernel
theorem dX5_blooms_37 : decode cX5_blooms 37 = .ok (.iload_n 1, 1) := by decide +kernel
theorem dX5_blooms_38 : decode cX5_blooms 38 = .ok (.iaload, 1) := by decide +kernel
theorem dX5_blooms_39 : decode cX5_blooms 39 = .ok (.isub, 1) := by decide +kernel
theorem dX5_blooms_40 : decode cX5_blooms 40 = .ok (.iconst 1, 1) := by decide +kernel
theorem dX5_blooms_41 : decode cX5_blooms 41 = .ok (.iadd, 1) := by decide +kernel
theorem dX5_blooms_42 : decode cX5_blooms 42 = .ok (.aload_n 0, 1) := by decide +kernel
theorem dX5_blooms_43 : decode cX5_blooms 43 = .ok (.getfield 9, 3) := by decide +kernel
theorem dX5_blooms_46 : decode cX5_blooms 46 = .ok (.iload_n 1, 1) := by decide +kernel
theorem dX5_blooms_47 : decode cX5_blooms 47 = .ok (.iaload, 1) := by decide +kernel
theorem dX5_blooms_48 : decode cX5_blooms 48 = .ok (.aload_n 0, 1) := by decide +kernel
theorem dX5_blooms_49 : decode cX5_blooms 49 = .ok (.getfield 13, 3) := by decide +kernel
theorem dX5_blooms_52 : decode cX5_blooms 52 = .ok (.iload_n 1, 1) := by decide +kernel
theorem dX5_blooms_53 : decode cX5_blooms 53 = .ok (.iaload, 1) := by decide +kernel
theorem dX5_blooms_54 : decode cX5_blooms 54 = .ok (.iadd, 1) := by decide +kernel
theorem dX5_blooms_55 : decode cX5_blooms 55 = .ok (.iload_n 2, 1) := by decide +kernel
theorem dX5_blooms_56 : decode cX5_blooms 56 = .ok (.isub, 1) := by decide +kernel
theorem dX5_blooms_57 : decode cX5_blooms 57 = .ok (.invokestatic 66, 3) := by decide +kernel
theorem dX5_blooms_60 : decode cX5_blooms 60 = .ok (.imul, 1) := by decide +kernel
theorem dX5_blooms_61 : decode cX5_blooms 61 = .ok (.aload_n 0, 1) := by decide +kernel
theorem dX5_blooms_62 : decode cX5_blooms 62 = .ok (.getfield 13, 3) := by decide +kernel
theorem dX5_blooms_65 : decode cX5_blooms 65 = .ok (.iload_n 1, 1) := by decide +kernel
theorem dX5_blooms_66 : decode cX5_blooms 66 = .ok (.iaload, 1) := by decide +kernel
theorem dX5_blooms_67 : decode cX5_blooms 67 = .ok (.iconst 1, 1) := by decide +kernel
theorem dX5_blooms_68 : decode cX5_blooms 68 = .ok (.iadd, 1) := by decide +kernel
theorem dX5_blooms_69 : decode cX5_blooms 69 = .ok (.iconst 2, 1) := by decide +kernel
theorem dX5_blooms_70 : decode cX5_blooms 70 = .ok (.idiv, 1) := by decide +kernel
theorem dX5_blooms_71 : decode cX5_blooms 71 = .ok (.idiv, 1) := by decide +kernel
theorem dX5_blooms_72 : decode cX5_blooms 72 = .ok (.ireturn, 1) := by decide +kernel
set_option maxRecDepth 20000 in
theorem ggX5_bloom_X5_isValley : GoodIn wsX5_bloom wsX5_isValley := goodIn_r _ [6, 7, 8, 9, 5, 10, 25, 26, 27, 28, 29, 30, 31, 32, 33, 34, 35, 36, 37] (by decide +kernel) (by decide +kernel)
set_option maxRecDepth 20000 in
theorem gX5_bloom_X5_isValley : GoodIn wsX5_bloom (wsV RX5 55 RX5 yX5_isValley wsX5_isValley) := goodIn_app (goodIn_of _ (by decide +kernel)) ggX5_bloom_X5_isValley
set_option maxRecDepth 20000 in
theorem ggX5_bloom_X5_no : GoodIn wsX5_bloom wsX5_no := goodIn_r _ [14, 1, 25, 26, 27, 28, 29, 30, 31, 32, 33, 34, 35, 36, 37] (by decide +kernel) (by decide +kernel)
set_option maxRecDepth 20000 in
theorem gX5_bloom_X5_no : GoodIn wsX5_bloom (wsV RX5 51 RX5 yX5_no wsX5_no) := goodIn_app (goodIn_of _ (by decide +kernel)) ggX5_bloom_X5_no
set_option maxRecDepth 20000 in
theorem ggX5_bloom_X5_blooms : GoodIn wsX5_bloom wsX5_blooms := goodIn_r _ [18, 19, 20, 21, 22, 23, 24, 8, 9, 5, 10, 25, 26, 27, 28, 29, 30, 31, 32, 33, 34, 35, 36, 37] (by decide +kernel) (by decide +kernel)
set_option maxRecDepth 20000 in
theorem gX5_bloom_X5_blooms : GoodIn wsX5_bloom (wsV RX5 72 RX5 yX5_blooms wsX5_blooms) := goodIn_app (goodIn_of _ (by decide +kernel)) ggX5_bloom_X5_blooms
theorem dX5_bloom_0 : decode cX5_bloom 0 = .ok (.aload_n 0, 1) := by decide +kernel
theorem dX5_bloom_1 : decode cX5_bloom 1 = .ok (.iconst 0, 1) := by decide +kernel
theorem dX5_bloom_2 : decode cX5_bloom 2 = .ok (.putfield 37, 3) := by decide +kernel
theorem dX5_bloom_5 : decode cX5_bloom 5 = .ok (.aload_n 0, 1) := by decide +kernel
theorem dX5_bloom_6 : decode cX5_bloom 6 = .ok (.iload_n 1, 1) := by decide +kernel
theorem dX5_bloom_7 : decode cX5_bloom 7 = .ok (.invokevirtual 55, 3) := by decide +kernel
theorem dX5_bloom_10 : decode cX5_bloom 10 = .ok (.ifCond .ne 9, 3) := by decide +kernel
theorem dX5_bloom_13 : decode cX5_bloom 13 = .ok (.aload_n 0, 1) := by decide +kernel
theorem dX5_bloom_14 : decode cX5_bloom 14 = .ok (.iconst 1, 1) := by decide +kernel
theorem dX5_bloom_15 : decode cX5_bloom 15 = .ok (.invokevirtual 51, 3) := by decide +kernel
theorem dX5_bloom_18 : decode cX5_bloom 18 = .ok (.ireturn, 1) := by decide +kernel
theorem dX5_bloom_19 : decode cX5_bloom 19 = .ok (.iload_n 2, 1) := by decide +kernel
theorem dX5_bloom_20 : decode cX5_bloom 20 = .ok (.ifCond .ge 11, 3) := by decide +kernel
theorem dX5_bloom_23 : decode cX5_bloom 23 = .ok (.aload_n 0, 1) := by decide +kernel
theorem dX5_bloom_24 : decode cX5_bloom 24 = .ok (.iconst 2, 1) := by decide +kernel
theorem dX5_bloom_25 : decode cX5_bloom 25 = .ok (.invokevirtual 51, 3) := by decide +kernel
theorem dX5_bloom_28 : decode cX5_bloom 28 = .ok (.goto 9, 3) := by decide +kernel
theorem dX5_bloom_31 : decode cX5_bloom 31 = .ok (.aload_n 0, 1) := by decide +kernel
theorem dX5_bloom_32 : decode cX5_bloom 32 = .ok (.iload_n 1, 1) := by decide +kernel
theorem dX5_bloom_33 : decode cX5_bloom 33 = .ok (.iload_n 2, 1) := by decide +kernel
theorem dX5_bloom_34 : decode cX5_bloom 34 = .ok (.invokevirtual 72, 3) := by decide +kernel
theorem dX5_bloom_37 : decode cX5_bloom 37 = .ok (.ireturn, 1) := by decide +kernel
set_option maxRecDepth 20000 in
theorem ggX5_way_X5_isValley : GoodIn wsX5_way wsX5_isValley := goodIn_r _ [7, 8, 9, 10, 6, 11, 16, 17, 18, 19, 20, 21, 22, 23, 24, 25, 26, 27, 28] (by decide +kernel) (by decide +kernel)
set_option maxRecDepth 20000 in
theorem gX5_way_X5_isValley : GoodIn wsX5_way (wsV RX5 55 RX5 yX5_isValley wsX5_isValley) := goodIn_app (goodIn_of _ (by decide +kernel)) ggX5_way_X5_isValley
set_option maxRecDepth 20000 in
theorem ggX5_way_X5_no : GoodIn wsX5_way wsX5_no := goodIn_r _ [15, 1, 16, 17, 18, 19, 20, 21, 22, 23, 24, 25, 26, 27, 28] (by decide +kernel) (by decide +kernel)
set_option maxRecDepth 20000 in
theorem gX5_way_X5_no : GoodIn wsX5_way (wsV RX5 51 RX5 yX5_no wsX5_no) := goodIn_app (goodIn_of _ (by decide +kernel)) ggX5_way_X5_no
theorem dX5_way_0 : decode cX5_way 0 = .ok (.aload_n 0, 1) := by decide +kernel
theorem dX5_way_1 : decode cX5_way 1 = .ok (.iconst 0, 1) := by decide +kernel
theorem dX5_way_2 : decode cX5_way 2 = .ok (.putfield 37, 3) := by decide +kernel
theorem dX5_way_5 : decode cX5_way 5 = .ok (.aload_n 0, 1) := by decide +kernel
theorem dX5_way_6 : decode cX5_way 6 = .ok (.iload_n 1, 1) := by decide +kernel
theorem dX5_way_7 : decode cX5_way 7 = .ok (.invokevirtual 55, 3) := by decide +kernel
theorem dX5_way_10 : decode cX5_way 10 = .ok (.ifCond .eq 25, 3) := by decide +kernel
theorem dX5_way_13 : decode cX5_way 13 = .ok (.aload_n 0, 1) := by decide +kernel
theorem dX5_way_14 : decode cX5_way 14 = .ok (.iload_n 2, 1) := by decide +kernel
theorem dX5_way_15 : decode cX5_way 15 = .ok (.invokevirtual 55, 3) := by decide +kernel
theorem dX5_way_18 : decode cX5_way 18 = .ok (.ifCond .eq 17, 3) := by decide +kernel
theorem dX5_way_21 : decode cX5_way 21 = .ok (.aload_n 0, 1) := by decide +kernel
theorem dX5_way_22 : decode cX5_way 22 = .ok (.getfield 19, 3) := by decide +kernel
theorem dX5_way_25 : decode cX5_way 25 = .ok (.bipush 8, 2) := by decide +kernel
theorem dX5_way_27 : decode cX5_way 27 = .ok (.iload_n 1, 1) := by decide +kernel
theorem dX5_way_28 : decode cX5_way 28 = .ok (.imul, 1) := by decide +kernel
theorem dX5_way_29 : decode cX5_way 29 = .ok (.iload_n 2, 1) := by decide +kernel
theorem dX5_way_30 : decode cX5_way 30 = .ok (.iadd, 1) := by decide +kernel
theorem dX5_way_31 : decode cX5_way 31 = .ok (.iaload, 1) := by decide +kernel
theorem dX5_way_32 : decode cX5_way 32 = .ok (.goto 8, 3) := by decide +kernel
theorem dX5_way_35 : decode cX5_way 35 = .ok (.aload_n 0, 1) := by decide +kernel
theorem dX5_way_36 : decode cX5_way 36 = .ok (.iconst 1, 1) := by decide +kernel
theorem dX5_way_37 : decode cX5_way 37 = .ok (.invokevirtual 51, 3) := by decide +kernel
theorem dX5_way_40 : decode cX5_way 40 = .ok (.ireturn, 1) := by decide +kernel
theorem dX5_at_0 : decode cX5_at 0 = .ok (.aload_n 0, 1) := by decide +kernel
theorem dX5_at_1 : decode cX5_at 1 = .ok (.getfield 31, 3) := by decide +kernel
theorem dX5_at_4 : decode cX5_at 4 = .ok (.iconst 5, 1) := by decide +kernel
theorem dX5_at_5 : decode cX5_at 5 = .ok (.iload_n 1, 1) := by decide +kernel
theorem dX5_at_6 : decode cX5_at 6 = .ok (.imul, 1) := by decide +kernel
theorem dX5_at_7 : decode cX5_at 7 = .ok (.iload_n 2, 1) := by decide +kernel
theorem dX5_at_8 : decode cX5_at 8 = .ok (.iadd, 1) := by decide +kernel
theorem dX5_at_9 : decode cX5_at 9 = .ok (.iaload, 1) := by decide +kernel
theorem dX5_at_10 : decode cX5_at 10 = .ok (.ireturn, 1) := by decide +kernel
set_option maxRecDepth 20000 in
theorem ggX5_has_X5_at : GoodIn wsX5_has wsX5_at := goodIn_r _ [6, 7, 8, 9, 10, 11, 12, 13, 14, 15, 16, 17, 18, 19, 20] (by decide +kernel) (by decide +kernel)
set_option maxRecDepth 20000 in
theorem gX5_has_X5_at : GoodIn wsX5_has (wsV RX5 75 RX5 yX5_at wsX5_at) := goodIn_app (goodIn_of _ (by decide +kernel)) ggX5_has_X5_at
theorem dX5_has_0 : decode cX5_has 0 = .ok (.iconst 0, 1) := by decide +kernel
theorem dX5_has_1 : decode cX5_has 1 = .ok (.istore_n 3, 1) := by decide +kernel
theorem dX5_has_2 : decode cX5_has 2 = .ok (.iload_n 3, 1) := by decide +kernel
theorem dX5_has_3 : decode cX5_has 3 = .ok (.aload_n 0, 1) := by decide +kernel
theorem dX5_has_4 : decode cX5_has 4 = .ok (.getfield 28, 3) := by decide +kernel
theorem dX5_has_7 : decode cX5_has 7 = .ok (.iload_n 1, 1) := by decide +kernel
theorem dX5_has_8 : decode cX5_has 8 = .ok (.iaload, 1) := by decide +kernel
theorem dX5_has_9 : decode cX5_has 9 = .ok (.if_icmp .ge 21, 3) := by decide +kernel
theorem dX5_has_12 : decode cX5_has 12 = .ok (.aload_n 0, 1) := by decide +kernel
theorem dX5_has_13 : decode cX5_has 13 = .ok (.iload_n 1, 1) := by decide +kernel
theorem dX5_has_14 : decode cX5_has 14 = .ok (.iload_n 3, 1) := by decide +kernel
theorem dX5_has_15 : decode cX5_has 15 = .ok (.invokevirtual 75, 3) := by decide +kernel
theorem dX5_has_18 : decode cX5_has 18 = .ok (.iload_n 2, 1) := by decide +kernel
theorem dX5_has_19 : decode cX5_has 19 = .ok (.if_icmp .ne 5, 3) := by decide +kernel
theorem dX5_has_22 : decode cX5_has 22 = .ok (.iconst 1, 1) := by decide +kernel
theorem dX5_has_23 : decode cX5_has 23 = .ok (.ireturn, 1) := by decide +kernel
theorem dX5_has_24 : decode cX5_has 24 = .ok (.iinc 3 1, 3) := by decide +kernel
theorem dX5_has_27 : decode cX5_has 27 = .ok (.goto (-25), 3) := by decide +kernel
theorem dX5_has_30 : decode cX5_has 30 = .ok (.iconst 0, 1) := by decide +kernel
theorem dX5_has_31 : decode cX5_has 31 = .ok (.ireturn, 1) := by decide +kernel
set_option maxRecDepth 20000 in
theorem ggX5_minutes_X5_at : GoodIn wsX5_minutes wsX5_at := goodIn_r _ [7, 8, 9, 10, 11, 12, 13, 14, 15, 16, 17, 18, 19, 20, 21] (by decide +kernel) (by decide +kernel)
set_option maxRecDepth 20000 in
theorem gX5_minutes_X5_at : GoodIn wsX5_minutes (wsV RX5 75 RX5 yX5_at wsX5_at) := goodIn_app (goodIn_of _ (by decide +kernel)) ggX5_minutes_X5_at
theorem dX5_minutes_0 : decode cX5_minutes 0 = .ok (.bipush 50, 2) := by decide +kernel
theorem dX5_minutes_2 : decode cX5_minutes 2 = .ok (.aload_n 0, 1) := by decide +kernel
theorem dX5_minutes_3 : decode cX5_minutes 3 = .ok (.getfield 28, 3) := by decide +kernel
theorem dX5_minutes_6 : decode cX5_minutes 6 = .ok (.iload_n 1, 1) := by decide +kernel
theorem dX5_minutes_7 : decode cX5_minutes 7 = .ok (.iaload, 1) := by decide +kernel
theorem dX5_minutes_8 : decode cX5_minutes 8 = .ok (.imul, 1) := by decide +kernel
theorem dX5_minutes_9 : decode cX5_minutes 9 = .ok (.istore_n 2, 1) := by decide +kernel
theorem dX5_minutes_10 : decode cX5_minutes 10 = .ok (.iconst 1, 1) := by decide +kernel
theorem dX5_minutes_11 : decode cX5_minutes 11 = .ok (.istore_n 3, 1) := by decide +kernel
theorem dX5_minutes_12 : decode cX5_minutes 12 = .ok (.iload_n 3, 1) := by decide +kernel
theorem dX5_minutes_13 : decode cX5_minutes 13 = .ok (.aload_n 0, 1) := by decide +kernel
theorem dX5_minutes_14 : decode cX5_minutes 14 = .ok (.getfield 28, 3) := by decide +kernel
theorem dX5_minutes_17 : decode cX5_minutes 17 = .ok (.iload_n 1, 1) := by decide +kernel
theorem dX5_minutes_18 : decode cX5_minutes 18 = .ok (.iaload, 1) := by decide +kernel
theorem dX5_minutes_19 : decode cX5_minutes 19 = .ok (.if_icmp .ge 47, 3) := by decide +kernel
theorem dX5_minutes_22 : decode cX5_minutes 22 = .ok (.aload_n 0, 1) := by decide +kernel
theorem dX5_minutes_23 : decode cX5_minutes 23 = .ok (.getfield 19, 3) := by decide +kernel
theorem dX5_minutes_26 : decode cX5_minutes 26 = .ok (.bipush 8, 2) := by decide +kernel
theorem dX5_minutes_28 : decode cX5_minutes 28 = .ok (.aload_n 0, 1) := by decide +kernel
theorem dX5_minutes_29 : decode cX5_minutes 29 = .ok (.iload_n 1, 1) := by decide +kernel
theorem dX5_minutes_30 : decode cX5_minutes 30 = .ok (.iload_n 3, 1) := by decide +kernel
theorem dX5_minutes_31 : decode cX5_minutes 31 = .ok (.iconst 1, 1) := by decide +kernel
theorem dX5_minutes_32 : decode cX5_minutes 32 = .ok (.isub, 1) := by decide +kernel
theorem dX5_minutes_33 : decode cX5_minutes 33 = .ok (.invokevirtual 75, 3) := by decide +kernel
theorem dX5_minutes_36 : decode cX5_minutes 36 = .ok (.imul, 1) := by decide +kernel
theorem dX5_minutes_37 : decode cX5_minutes 37 = .ok (.aload_n 0, 1) := by decide +kernel
theorem dX5_minutes_38 : decode cX5_minutes 38 = .ok (.iload_n 1, 1) := by decide +kernel
theorem dX5_minutes_39 : decode cX5_minutes 39 = .ok (.iload_n 3, 1) := by decide +kernel
theorem dX5_minutes_40 : decode cX5_minutes 40 = .ok (.invokevirtual 75, 3) := by decide +kernel
theorem dX5_minutes_43 : decode cX5_minutes 43 = .ok (.iadd, 1) := by decide +kernel
theorem dX5_minutes_44 : decode cX5_minutes 44 = .ok (.iaload, 1) := by decide +kernel
theorem dX5_minutes_45 : decode cX5_minutes 45 = .ok (.istore 4, 2) := by decide +kernel
theorem dX5_minutes_47 : decode cX5_minutes 47 = .ok (.iload 4, 2) := by decide +kernel
theorem dX5_minutes_49 : decode cX5_minutes 49 = .ok (.iconst (-1), 1) := by decide +kernel
theorem dX5_minutes_50 : decode cX5_minutes 50 = .ok (.if_icmp .ne 5, 3) := by decide +kernel
theorem dX5_minutes_53 : decode cX5_minutes 53 = .ok (.iconst (-1), 1) := by decide +kernel
theorem dX5_minutes_54 : decode cX5_minutes 54 = .ok (.ireturn, 1) := by decide +kernel
theorem dX5_minutes_55 : decode cX5_minutes 55 = .ok (.iload_n 2, 1) := by decide +kernel
theorem dX5_minutes_56 : decode cX5_minutes 56 = .ok (.iload 4, 2) := by decide +kernel
theorem dX5_minutes_58 : decode cX5_minutes 58 = .ok (.iadd, 1) := by decide +kernel
theorem dX5_minutes_59 : decode cX5_minutes 59 = .ok (.istore_n 2, 1) := by decide +kernel
theorem dX5_minutes_60 : decode cX5_minutes 60 = .ok (.iinc 3 1, 3) := by decide +kernel
theorem dX5_minutes_63 : decode cX5_minutes 63 = .ok (.goto (-51), 3) := by decide +kernel
theorem dX5_minutes_66 : decode cX5_minutes 66 = .ok (.iload_n 2, 1) := by decide +kernel
theorem dX5_minutes_67 : decode cX5_minutes 67 = .ok (.ireturn, 1) := by decide +kernel
set_option maxRecDepth 20000 in
theorem ggX5_goes_X5_minutes : GoodIn wsX5_goes wsX5_minutes := goodIn_r _ [5, 6, 7, 8, 9, 10, 4, 11, 12, 16, 17, 18, 19, 20, 21, 22, 23, 24, 25, 26, 27, 28] (by decide +kernel) (by decide +kernel)
set_option maxRecDepth 20000 in
theorem gX5_goes_X5_minutes : GoodIn wsX5_goes (wsV RX5 78 RX5 yX5_minutes wsX5_minutes) := goodIn_app (goodIn_of _ (by decide +kernel)) ggX5_goes_X5_minutes
set_option maxRecDepth 20000 in
theorem ggX5_goes_X5_isIn : GoodIn wsX5_goes wsX5_isIn := goodIn_r _ [15] (by decide +kernel) (by decide +kernel)
set_option maxRecDepth 20000 in
theorem gX5_goes_X5_isIn : GoodIn wsX5_goes (va_wsS RX5 44 yX5_isIn wsX5_isIn) := goodIn_app (goodIn_of _ (by decide +kernel)) ggX5_goes_X5_isIn
theorem dX5_goes_0 : decode cX5_goes 0 = .ok (.aload_n 0, 1) := by decide +kernel
theorem dX5_goes_1 : decode cX5_goes 1 = .ok (.iload_n 1, 1) := by decide +kernel
theorem dX5_goes_2 : decode cX5_goes 2 = .ok (.invokevirtual 78, 3) := by decide +kernel
theorem dX5_goes_5 : decode cX5_goes 5 = .ok (.iconst 1, 1) := by decide +kernel
theorem dX5_goes_6 : decode cX5_goes 6 = .ok (.sipush 480, 3) := by decide +kernel
theorem dX5_goes_9 : decode cX5_goes 9 = .ok (.invokestatic 44, 3) := by decide +kernel
theorem dX5_goes_12 : decode cX5_goes 12 = .ok (.ireturn, 1) := by decide +kernel
set_option maxRecDepth 20000 in
theorem ggX5_crowd_X5_has : GoodIn wsX5_crowd wsX5_has := goodIn_r _ [7, 8, 9, 10, 11, 6, 12, 13, 26, 27, 28, 29, 30, 31, 32, 33, 34, 35, 36, 37, 38] (by decide +kernel) (by decide +kernel)
set_option maxRecDepth 20000 in
theorem gX5_crowd_X5_has : GoodIn wsX5_crowd (wsV RX5 81 RX5 yX5_has wsX5_has) := goodIn_app (goodIn_of _ (by decide +kernel)) ggX5_crowd_X5_has
set_option maxRecDepth 20000 in
theorem ggX5_crowd_X5_goes : GoodIn wsX5_crowd wsX5_goes := goodIn_r _ [17, 18, 19, 20, 6, 21, 8, 22, 9, 10, 11, 12, 13, 23, 24, 25, 26, 27, 28, 29, 30, 31, 32, 33, 34, 35, 36, 37, 38] (by decide +kernel) (by decide +kernel)
set_option maxRecDepth 20000 in
theorem gX5_crowd_X5_goes : GoodIn wsX5_crowd (wsV RX5 85 RX5 yX5_goes wsX5_goes) := goodIn_app (goodIn_of _ (by decide +kernel)) ggX5_crowd_X5_goes
theorem dX5_crowd_0 : decode cX5_crowd 0 = .ok (.iconst 0, 1) := by decide +kernel
theorem dX5_crowd_1 : decode cX5_crowd 1 = .ok (.istore_n 2, 1) := by decide +kernel
theorem dX5_crowd_2 : decode cX5_crowd 2 = .ok (.iconst 0, 1) := by decide +kernel
theorem dX5_crowd_3 : decode cX5_crowd 3 = .ok (.istore_n 3, 1) := by decide +kernel
theorem dX5_crowd_4 : decode cX5_crowd 4 = .ok (.iload_n 3, 1) := by decide +kernel
theorem dX5_crowd_5 : decode cX5_crowd 5 = .ok (.aload_n 0, 1) := by decide +kernel
theorem dX5_crowd_6 : decode cX5_crowd 6 = .ok (.getfield 48, 3) := by decide +kernel
theorem dX5_crowd_9 : decode cX5_crowd 9 = .ok (.if_icmp .ge 39, 3) := by decide +kernel
theorem dX5_crowd_12 : decode cX5_crowd 12 = .ok (.iload_n 2, 1) := by decide +kernel
theorem dX5_crowd_13 : decode cX5_crowd 13 = .ok (.aload_n 0, 1) := by decide +kernel
theorem dX5_crowd_14 : decode cX5_crowd 14 = .ok (.iload_n 3, 1) := by decide +kernel
theorem dX5_crowd_15 : decode cX5_crowd 15 = .ok (.iload_n 1, 1) := by decide +kernel
theorem dX5_crowd_16 : decode cX5_crowd 16 = .ok (.invokevirtual 81, 3) := by decide +kernel
theorem dX5_crowd_19 : decode cX5_crowd 19 = .ok (.ifCond .eq 20, 3) := by decide +kernel
theorem dX5_crowd_22 : decode cX5_crowd 22 = .ok (.aload_n 0, 1) := by decide +kernel
theorem dX5_crowd_23 : decode cX5_crowd 23 = .ok (.iload_n 3, 1) := by decide +kernel
theorem dX5_crowd_24 : decode cX5_crowd 24 = .ok (.invokevirtual 85, 3) := by decide +kernel
theorem dX5_crowd_27 : decode cX5_crowd 27 = .ok (.ifCond .eq 12, 3) := by decide +kernel
theorem dX5_crowd_30 : decode cX5_crowd 30 = .ok (.aload_n 0, 1) := by decide +kernel
theorem dX5_crowd_31 : decode cX5_crowd 31 = .ok (.getfield 25, 3) := by decide +kernel
theorem dX5_crowd_34 : decode cX5_crowd 34 = .ok (.iload_n 3, 1) := by decide +kernel
theorem dX5_crowd_35 : decode cX5_crowd 35 = .ok (.iaload, 1) := by decide +kernel
theorem dX5_crowd_36 : decode cX5_crowd 36 = .ok (.goto 4, 3) := by decide +kernel
theorem dX5_crowd_39 : decode cX5_crowd 39 = .ok (.iconst 0, 1) := by decide +kernel
theorem dX5_crowd_40 : decode cX5_crowd 40 = .ok (.iadd, 1) := by decide +kernel
theorem dX5_crowd_41 : decode cX5_crowd 41 = .ok (.istore_n 2, 1) := by decide +kernel
theorem dX5_crowd_42 : decode cX5_crowd 42 = .ok (.iinc 3 1, 3) := by decide +kernel
theorem dX5_crowd_45 : decode cX5_crowd 45 = .ok (.goto (-41), 3) := by decide +kernel
theorem dX5_crowd_48 : decode cX5_crowd 48 = .ok (.iload_n 2, 1) := by decide +kernel
theorem dX5_crowd_49 : decode cX5_crowd 49 = .ok (.ireturn, 1) := by decide +kernel
set_option maxRecDepth 20000 in
theorem ggX5_joyOf_X5_goes : GoodIn wsX5_joyOf wsX5_goes := goodIn_r _ [10, 11, 12, 13, 9, 14, 1, 15, 16, 17, 18, 19, 20, 21, 22, 23, 43, 44, 45, 46, 47, 48, 49, 50, 51, 52, 53, 54, 55] (by decide +kernel) (by decide +kernel)
set_option maxRecDepth 20000 in
theorem gX5_joyOf_X5_goes : GoodIn wsX5_joyOf (wsV RX5 85 RX5 yX5_goes wsX5_goes) := goodIn_app (goodIn_of _ (by decide +kernel)) ggX5_joyOf_X5_goes
set_option maxRecDepth 20000 in
theorem ggX5_joyOf_X5_at : GoodIn wsX5_joyOf wsX5_at := goodIn_r _ [19, 20, 43, 44, 45, 46, 47, 48, 49, 50, 51, 52, 53, 54, 55] (by decide +kernel) (by decide +kernel)
set_option maxRecDepth 20000 in
theorem gX5_joyOf_X5_at : GoodIn wsX5_joyOf (wsV RX5 75 RX5 yX5_at wsX5_at) := goodIn_app (goodIn_of _ (by decide +kernel)) ggX5_joyOf_X5_at
set_option maxRecDepth 20000 in
theorem ggX5_joyOf_X5_blooms : GoodIn wsX5_joyOf wsX5_blooms := goodIn_r _ [27, 28, 29, 30, 31, 4, 32, 21, 22, 9, 23, 43, 44, 45, 46, 47, 48, 49, 50, 51, 52, 53, 54, 55] (by decide +kernel) (by decide +kernel)
set_option maxRecDepth 20000 in
theorem gX5_joyOf_X5_blooms : GoodIn wsX5_joyOf (wsV RX5 72 RX5 yX5_blooms wsX5_blooms) := goodIn_app (goodIn_of _ (by decide +kernel)) ggX5_joyOf_X5_blooms
set_option maxRecDepth 20000 in
theorem ggX5_joyOf_X5_crowd : GoodIn wsX5_joyOf wsX5_crowd := goodIn_r _ [36, 37, 38, 39, 40, 41, 9, 42, 1, 16, 17, 18, 19, 20, 6, 7, 8, 10, 11, 12, 13, 14, 15, 21, 22, 23, 43, 44, 45, 46, 47, 48, 49, 50, 51, 52, 53, 54, 55] (by decide +kernel) (by decide +kernel)
set_option maxRecDepth 20000 in
theorem gX5_joyOf_X5_crowd : GoodIn wsX5_joyOf (wsV RX5 88 RX5 yX5_crowd wsX5_crowd) := goodIn_app (goodIn_of _ (by decide +kernel)) ggX5_joyOf_X5_crowd
theorem dX5_joyOf_0 : decode cX5_joyOf 0 = .ok (.iconst 0, 1) := by decide +kernel
theorem dX5_joyOf_1 : decode cX5_joyOf 1 = .ok (.istore_n 3, 1) := by decide +kernel
theorem dX5_joyOf_2 : decode cX5_joyOf 2 = .ok (.iconst 0, 1) := by decide +kernel
theorem dX5_joyOf_3 : decode cX5_joyOf 3 = .ok (.istore 4, 2) := by decide +kernel
theorem dX5_joyOf_5 : decode cX5_joyOf 5 = .ok (.iload 4, 2) := by decide +kernel
theorem dX5_joyOf_7 : decode cX5_joyOf 7 = .ok (.aload_n 0, 1) := by decide +kernel
theorem dX5_joyOf_8 : decode cX5_joyOf 8 = .ok (.getfield 28, 3) := by decide +kernel
theorem dX5_joyOf_11 : decode cX5_joyOf 11 = .ok (.iload_n 1, 1) := by decide +kernel
theorem dX5_joyOf_12 : decode cX5_joyOf 12 = .ok (.iaload, 1) := by decide +kernel
theorem dX5_joyOf_13 : decode cX5_joyOf 13 = .ok (.if_icmp .ge 51, 3) := by decide +kernel
theorem dX5_joyOf_16 : decode cX5_joyOf 16 = .ok (.aload_n 0, 1) := by decide +kernel
theorem dX5_joyOf_17 : decode cX5_joyOf 17 = .ok (.iload_n 1, 1) := by decide +kernel
theorem dX5_joyOf_18 : decode cX5_joyOf 18 = .ok (.invokevirtual 85, 3) := by decide +kernel
theorem dX5_joyOf_21 : decode cX5_joyOf 21 = .ok (.ifCond .eq 43, 3) := by decide +kernel
theorem dX5_joyOf_24 : decode cX5_joyOf 24 = .ok (.iload_n 3, 1) := by decide +kernel
theorem dX5_joyOf_25 : decode cX5_joyOf 25 = .ok (.iconst 0, 1) := by decide +kernel
theorem dX5_joyOf_26 : decode cX5_joyOf 26 = .ok (.aload_n 0, 1) := by decide +kernel
theorem dX5_joyOf_27 : decode cX5_joyOf 27 = .ok (.aload_n 0, 1) := by decide +kernel
theorem dX5_joyOf_28 : decode cX5_joyOf 28 = .ok (.iload_n 1, 1) := by decide +kernel
theorem dX5_joyOf_29 : decode cX5_joyOf 29 = .ok (.iload 4, 2) := by decide +kernel
theorem dX5_joyOf_31 : decode cX5_joyOf 31 = .ok (.invokevirtual 75, 3) := by decide +kernel
theorem dX5_joyOf_34 : decode cX5_joyOf 34 = .ok (.iload_n 2, 1) := by decide +kernel
theorem dX5_joyOf_35 : decode cX5_joyOf 35 = .ok (.invokevirtual 72, 3) := by decide +kernel
theorem dX5_joyOf_38 : decode cX5_joyOf 38 = .ok (.aload_n 0, 1) := by decide +kernel
theorem dX5_joyOf_39 : decode cX5_joyOf 39 = .ok (.aload_n 0, 1) := by decide +kernel
theorem dX5_joyOf_40 : decode cX5_joyOf 40 = .ok (.iload_n 1, 1) := by decide +kernel
theorem dX5_joyOf_41 : decode cX5_joyOf 41 = .ok (.iload 4, 2) := by decide +kernel
theorem dX5_joyOf_43 : decode cX5_joyOf 43 = .ok (.invokevirtual 75, 3) := by decide +kernel
theorem dX5_joyOf_46 : decode cX5_joyOf 46 = .ok (.invokevirtual 88, 3) := by decide +kernel
theorem dX5_joyOf_49 : decode cX5_joyOf 49 = .ok (.bipush 10, 2) := by decide +kernel
theorem dX5_joyOf_51 : decode cX5_joyOf 51 = .ok (.idiv, 1) := by decide +kernel
theorem dX5_joyOf_52 : decode cX5_joyOf 52 = .ok (.isub, 1) := by decide +kernel
theorem dX5_joyOf_53 : decode cX5_joyOf 53 = .ok (.invokestatic 91, 3) := by decide +kernel
theorem dX5_joyOf_56 : decode cX5_joyOf 56 = .ok (.iadd, 1) := by decide +kernel
theorem dX5_joyOf_57 : decode cX5_joyOf 57 = .ok (.istore_n 3, 1) := by decide +kernel
theorem dX5_joyOf_58 : decode cX5_joyOf 58 = .ok (.iinc 4 1, 3) := by decide +kernel
theorem dX5_joyOf_61 : decode cX5_joyOf 61 = .ok (.goto (-56), 3) := by decide +kernel
theorem dX5_joyOf_64 : decode cX5_joyOf 64 = .ok (.iload_n 3, 1) := by decide +kernel
theorem dX5_joyOf_65 : decode cX5_joyOf 65 = .ok (.ireturn, 1) := by decide +kernel
set_option maxRecDepth 20000 in
theorem ggX5_stingsOf_X5_goes : GoodIn wsX5_stingsOf wsX5_goes := goodIn_r _ [8, 9, 10, 11, 7, 12, 1, 13, 14, 15, 16, 17, 18, 19, 20, 21, 32, 33, 34, 35, 36, 37, 38, 39, 40, 41, 42, 43, 44] (by decide +kernel) (by decide +kernel)
set_option maxRecDepth 20000 in
theorem gX5_stingsOf_X5_goes : GoodIn wsX5_stingsOf (wsV RX5 85 RX5 yX5_goes wsX5_goes) := goodIn_app (goodIn_of _ (by decide +kernel)) ggX5_stingsOf_X5_goes
set_option maxRecDepth 20000 in
theorem ggX5_stingsOf_X5_at : GoodIn wsX5_stingsOf wsX5_at := goodIn_r _ [17, 18, 32, 33, 34, 35, 36, 37, 38, 39, 40, 41, 42, 43, 44] (by decide +kernel) (by decide +kernel)
set_option maxRecDepth 20000 in
theorem gX5_stingsOf_X5_at : GoodIn wsX5_stingsOf (wsV RX5 75 RX5 yX5_at wsX5_at) := goodIn_app (goodIn_of _ (by decide +kernel)) ggX5_stingsOf_X5_at
set_option maxRecDepth 20000 in
theorem ggX5_stingsOf_X5_blooms : GoodIn wsX5_stingsOf wsX5_blooms := goodIn_r _ [25, 26, 27, 28, 29, 30, 31, 19, 20, 7, 21, 32, 33, 34, 35, 36, 37, 38, 39, 40, 41, 42, 43, 44] (by decide +kernel) (by decide +kernel)
set_option maxRecDepth 20000 in
theorem gX5_stingsOf_X5_blooms : GoodIn wsX5_stingsOf (wsV RX5 72 RX5 yX5_blooms wsX5_blooms) := goodIn_app (goodIn_of _ (by decide +kernel)) ggX5_stingsOf_X5_blooms
theorem dX5_stingsOf_0 : decode cX5_stingsOf 0 = .ok (.iconst 0, 1) := by decide +kernel
theorem dX5_stingsOf_1 : decode cX5_stingsOf 1 = .ok (.istore_n 3, 1) := by decide +kernel
theorem dX5_stingsOf_2 : decode cX5_stingsOf 2 = .ok (.iconst 0, 1) := by decide +kernel
theorem dX5_stingsOf_3 : decode cX5_stingsOf 3 = .ok (.istore 4, 2) := by decide +kernel
theorem dX5_stingsOf_5 : decode cX5_stingsOf 5 = .ok (.iload 4, 2) := by decide +kernel
theorem dX5_stingsOf_7 : decode cX5_stingsOf 7 = .ok (.aload_n 0, 1) := by decide +kernel
theorem dX5_stingsOf_8 : decode cX5_stingsOf 8 = .ok (.getfield 28, 3) := by decide +kernel
theorem dX5_stingsOf_11 : decode cX5_stingsOf 11 = .ok (.iload_n 1, 1) := by decide +kernel
theorem dX5_stingsOf_12 : decode cX5_stingsOf 12 = .ok (.iaload, 1) := by decide +kernel
theorem dX5_stingsOf_13 : decode cX5_stingsOf 13 = .ok (.if_icmp .ge 56, 3) := by decide +kernel
theorem dX5_stingsOf_16 : decode cX5_stingsOf 16 = .ok (.aload_n 0, 1) := by decide +kernel
theorem dX5_stingsOf_17 : decode cX5_stingsOf 17 = .ok (.iload_n 1, 1) := by decide +kernel
theorem dX5_stingsOf_18 : decode cX5_stingsOf 18 = .ok (.invokevirtual 85, 3) := by decide +kernel
theorem dX5_stingsOf_21 : decode cX5_stingsOf 21 = .ok (.ifCond .eq 48, 3) := by decide +kernel
theorem dX5_stingsOf_24 : decode cX5_stingsOf 24 = .ok (.iload_n 3, 1) := by decide +kernel
theorem dX5_stingsOf_25 : decode cX5_stingsOf 25 = .ok (.aload_n 0, 1) := by decide +kernel
theorem dX5_stingsOf_26 : decode cX5_stingsOf 26 = .ok (.getfield 25, 3) := by decide +kernel
theorem dX5_stingsOf_29 : decode cX5_stingsOf 29 = .ok (.iload_n 1, 1) := by decide +kernel
theorem dX5_stingsOf_30 : decode cX5_stingsOf 30 = .ok (.iaload, 1) := by decide +kernel
theorem dX5_stingsOf_31 : decode cX5_stingsOf 31 = .ok (.aload_n 0, 1) := by decide +kernel
theorem dX5_stingsOf_32 : decode cX5_stingsOf 32 = .ok (.getfield 16, 3) := by decide +kernel
theorem dX5_stingsOf_35 : decode cX5_stingsOf 35 = .ok (.aload_n 0, 1) := by decide +kernel
theorem dX5_stingsOf_36 : decode cX5_stingsOf 36 = .ok (.iload_n 1, 1) := by decide +kernel
theorem dX5_stingsOf_37 : decode cX5_stingsOf 37 = .ok (.iload 4, 2) := by decide +kernel
theorem dX5_stingsOf_39 : decode cX5_stingsOf 39 = .ok (.invokevirtual 75, 3) := by decide +kernel
theorem dX5_stingsOf_42 : decode cX5_stingsOf 42 = .ok (.iaload, 1) := by decide +kernel
theorem dX5_stingsOf_43 : decode cX5_stingsOf 43 = .ok (.imul, 1) := by decide +kernel
theorem dX5_stingsOf_44 : decode cX5_stingsOf 44 = .ok (.aload_n 0, 1) := by decide +kernel
theorem dX5_stingsOf_45 : decode cX5_stingsOf 45 = .ok (.aload_n 0, 1) := by decide +kernel
theorem dX5_stingsOf_46 : decode cX5_stingsOf 46 = .ok (.iload_n 1, 1) := by decide +kernel
theorem dX5_stingsOf_47 : decode cX5_stingsOf 47 = .ok (.iload 4, 2) := by decide +kernel
theorem dX5_stingsOf_49 : decode cX5_stingsOf 49 = .ok (.invokevirtual 75, 3) := by decide +kernel
theorem dX5_stingsOf_52 : decode cX5_stingsOf 52 = .ok (.iload_n 2, 1) := by decide +kernel
theorem dX5_stingsOf_53 : decode cX5_stingsOf 53 = .ok (.invokevirtual 72, 3) := by decide +kernel
theorem dX5_stingsOf_56 : decode cX5_stingsOf 56 = .ok (.imul, 1) := by decide +kernel
theorem dX5_stingsOf_57 : decode cX5_stingsOf 57 = .ok (.sipush 5000, 3) := by decide +kernel
theorem dX5_stingsOf_60 : decode cX5_stingsOf 60 = .ok (.idiv, 1) := by decide +kernel
theorem dX5_stingsOf_61 : decode cX5_stingsOf 61 = .ok (.iadd, 1) := by decide +kernel
theorem dX5_stingsOf_62 : decode cX5_stingsOf 62 = .ok (.istore_n 3, 1) := by decide +kernel
theorem dX5_stingsOf_63 : decode cX5_stingsOf 63 = .ok (.iinc 4 1, 3) := by decide +kernel
theorem dX5_stingsOf_66 : decode cX5_stingsOf 66 = .ok (.goto (-61), 3) := by decide +kernel
theorem dX5_stingsOf_69 : decode cX5_stingsOf 69 = .ok (.iload_n 3, 1) := by decide +kernel
theorem dX5_stingsOf_70 : decode cX5_stingsOf 70 = .ok (.ireturn, 1) := by decide +kernel
set_option maxRecDepth 20000 in
theorem ggX5_tour_X5_isIn : GoodIn wsX5_tour wsX5_isIn := goodIn_r _ [7] (by decide +kernel) (by decide +kernel)
set_option maxRecDepth 20000 in
theorem gX5_tour_X5_isIn : GoodIn wsX5_tour (va_wsS RX5 44 yX5_isIn wsX5_isIn) := goodIn_app (goodIn_of _ (by decide +kernel)) ggX5_tour_X5_isIn
set_option maxRecDepth 20000 in
theorem ggX5_tour_X5_no : GoodIn wsX5_tour wsX5_no := goodIn_r _ [11, 1, 12, 13, 14, 15, 16, 17, 18, 19, 20, 21, 22, 23, 24] (by decide +kernel) (by decide +kernel)
set_option maxRecDepth 20000 in
theorem gX5_tour_X5_no : GoodIn wsX5_tour (wsV RX5 51 RX5 yX5_no wsX5_no) := goodIn_app (goodIn_of _ (by decide +kernel)) ggX5_tour_X5_no
theorem dX5_tour_0 : decode cX5_tour 0 = .ok (.aload_n 0, 1) := by decide +kernel
theorem dX5_tour_1 : decode cX5_tour 1 = .ok (.iconst 0, 1) := by decide +kernel
theorem dX5_tour_2 : decode cX5_tour 2 = .ok (.putfield 37, 3) := by decide +kernel
theorem dX5_tour_5 : decode cX5_tour 5 = .ok (.iload_n 1, 1) := by decide +kernel
theorem dX5_tour_6 : decode cX5_tour 6 = .ok (.iconst 1, 1) := by decide +kernel
theorem dX5_tour_7 : decode cX5_tour 7 = .ok (.bipush 60, 2) := by decide +kernel
theorem dX5_tour_9 : decode cX5_tour 9 = .ok (.invokestatic 44, 3) := by decide +kernel
theorem dX5_tour_12 : decode cX5_tour 12 = .ok (.ifCond .ne 9, 3) := by decide +kernel
theorem dX5_tour_15 : decode cX5_tour 15 = .ok (.aload_n 0, 1) := by decide +kernel
theorem dX5_tour_16 : decode cX5_tour 16 = .ok (.iconst 1, 1) := by decide +kernel
theorem dX5_tour_17 : decode cX5_tour 17 = .ok (.invokevirtual 51, 3) := by decide +kernel
theorem dX5_tour_20 : decode cX5_tour 20 = .ok (.ireturn, 1) := by decide +kernel
theorem dX5_tour_21 : decode cX5_tour 21 = .ok (.aload_n 0, 1) := by decide +kernel
theorem dX5_tour_22 : decode cX5_tour 22 = .ok (.getfield 48, 3) := by decide +kernel
theorem dX5_tour_25 : decode cX5_tour 25 = .ok (.bipush 6, 2) := by decide +kernel
theorem dX5_tour_27 : decode cX5_tour 27 = .ok (.if_icmp .ne 9, 3) := by decide +kernel
theorem dX5_tour_30 : decode cX5_tour 30 = .ok (.aload_n 0, 1) := by decide +kernel
theorem dX5_tour_31 : decode cX5_tour 31 = .ok (.iconst 2, 1) := by decide +kernel
theorem dX5_tour_32 : decode cX5_tour 32 = .ok (.invokevirtual 51, 3) := by decide +kernel
theorem dX5_tour_35 : decode cX5_tour 35 = .ok (.ireturn, 1) := by decide +kernel
theorem dX5_tour_36 : decode cX5_tour 36 = .ok (.aload_n 0, 1) := by decide +kernel
theorem dX5_tour_37 : decode cX5_tour 37 = .ok (.getfield 25, 3) := by decide +kernel
theorem dX5_tour_40 : decode cX5_tour 40 = .ok (.aload_n 0, 1) := by decide +kernel
theorem dX5_tour_41 : decode cX5_tour 41 = .ok (.getfield 48, 3) := by decide +kernel
theorem dX5_tour_44 : decode cX5_tour 44 = .ok (.iload_n 1, 1) := by decide +kernel
theorem dX5_tour_45 : decode cX5_tour 45 = .ok (.iastore, 1) := by decide +kernel
theorem dX5_tour_46 : decode cX5_tour 46 = .ok (.aload_n 0, 1) := by decide +kernel
theorem dX5_tour_47 : decode cX5_tour 47 = .ok (.dup, 1) := by decide +kernel
theorem dX5_tour_48 : decode cX5_tour 48 = .ok (.getfield 48, 3) := by decide +kernel
theorem dX5_tour_51 : decode cX5_tour 51 = .ok (.iconst 1, 1) := by decide +kernel
theorem dX5_tour_52 : decode cX5_tour 52 = .ok (.iadd, 1) := by decide +kernel
theorem dX5_tour_53 : decode cX5_tour 53 = .ok (.putfield 48, 3) := by decide +kernel
theorem dX5_tour_56 : decode cX5_tour 56 = .ok (.aload_n 0, 1) := by decide +kernel
theorem dX5_tour_57 : decode cX5_tour 57 = .ok (.getfield 48, 3) := by decide +kernel
theorem dX5_tour_60 : decode cX5_tour 60 = .ok (.iconst 1, 1) := by decide +kernel
theorem dX5_tour_61 : decode cX5_tour 61 = .ok (.isub, 1) := by decide +kernel
theorem dX5_tour_62 : decode cX5_tour 62 = .ok (.ireturn, 1) := by decide +kernel
set_option maxRecDepth 20000 in
theorem ggX5_add_X5_isTour : GoodIn wsX5_add wsX5_isTour := goodIn_r _ [8, 9, 10, 11, 7, 12, 30, 31, 32, 33, 34, 35, 36, 37, 38, 39, 40, 41, 42] (by decide +kernel) (by decide +kernel)
set_option maxRecDepth 20000 in
theorem gX5_add_X5_isTour : GoodIn wsX5_add (wsV RX5 94 RX5 yX5_isTour wsX5_isTour) := goodIn_app (goodIn_of _ (by decide +kernel)) ggX5_add_X5_isTour
set_option maxRecDepth 20000 in
theorem ggX5_add_X5_isValley : GoodIn wsX5_add wsX5_isValley := goodIn_r _ [16, 17, 10, 11, 7, 12, 30, 31, 32, 33, 34, 35, 36, 37, 38, 39, 40, 41, 42] (by decide +kernel) (by decide +kernel)
set_option maxRecDepth 20000 in
theorem gX5_add_X5_isValley : GoodIn wsX5_add (wsV RX5 55 RX5 yX5_isValley wsX5_isValley) := goodIn_app (goodIn_of _ (by decide +kernel)) ggX5_add_X5_isValley
set_option maxRecDepth 20000 in
theorem ggX5_add_X5_no : GoodIn wsX5_add wsX5_no := goodIn_r _ [21, 1, 30, 31, 32, 33, 34, 35, 36, 37, 38, 39, 40, 41, 42] (by decide +kernel) (by decide +kernel)
set_option maxRecDepth 20000 in
theorem gX5_add_X5_no : GoodIn wsX5_add (wsV RX5 51 RX5 yX5_no wsX5_no) := goodIn_app (goodIn_of _ (by decide +kernel)) ggX5_add_X5_no
set_option maxRecDepth 20000 in
theorem ggX5_add_X5_has : GoodIn wsX5_add wsX5_has := goodIn_r _ [25, 2, 26, 27, 28, 7, 29, 3, 30, 31, 32, 33, 34, 35, 36, 37, 38, 39, 40, 41, 42] (by decide +kernel) (by decide +kernel)
set_option maxRecDepth 20000 in
theorem gX5_add_X5_has : GoodIn wsX5_add (wsV RX5 81 RX5 yX5_has wsX5_has) := goodIn_app (goodIn_of _ (by decide +kernel)) ggX5_add_X5_has
theorem dX5_add_0 : decode cX5_add 0 = .ok (.aload_n 0, 1) := by decide +kernel
theorem dX5_add_1 : decode cX5_add 1 = .ok (.iconst 0, 1) := by decide +kernel
theorem dX5_add_2 : decode cX5_add 2 = .ok (.putfield 37, 3) := by decide +kernel
theorem dX5_add_5 : decode cX5_add 5 = .ok (.aload_n 0, 1) := by decide +kernel
theorem dX5_add_6 : decode cX5_add 6 = .ok (.iload_n 1, 1) := by decide +kernel
theorem dX5_add_7 : decode cX5_add 7 = .ok (.invokevirtual 94, 3) := by decide +kernel
theorem dX5_add_10 : decode cX5_add 10 = .ok (.ifCond .eq 11, 3) := by decide +kernel
theorem dX5_add_13 : decode cX5_add 13 = .ok (.aload_n 0, 1) := by decide +kernel
theorem dX5_add_14 : decode cX5_add 14 = .ok (.iload_n 2, 1) := by decide +kernel
theorem dX5_add_15 : decode cX5_add 15 = .ok (.invokevirtual 55, 3) := by decide +kernel
theorem dX5_add_18 : decode cX5_add 18 = .ok (.ifCond .ne 9, 3) := by decide +kernel
theorem dX5_add_21 : decode cX5_add 21 = .ok (.aload_n 0, 1) := by decide +kernel
theorem dX5_add_22 : decode cX5_add 22 = .ok (.iconst 1, 1) := by decide +kernel
theorem dX5_add_23 : decode cX5_add 23 = .ok (.invokevirtual 51, 3) := by decide +kernel
theorem dX5_add_26 : decode cX5_add 26 = .ok (.ireturn, 1) := by decide +kernel
theorem dX5_add_27 : decode cX5_add 27 = .ok (.aload_n 0, 1) := by decide +kernel
theorem dX5_add_28 : decode cX5_add 28 = .ok (.getfield 28, 3) := by decide +kernel
theorem dX5_add_31 : decode cX5_add 31 = .ok (.iload_n 1, 1) := by decide +kernel
theorem dX5_add_32 : decode cX5_add 32 = .ok (.iaload, 1) := by decide +kernel
theorem dX5_add_33 : decode cX5_add 33 = .ok (.iconst 5, 1) := by decide +kernel
theorem dX5_add_34 : decode cX5_add 34 = .ok (.if_icmp .eq 12, 3) := by decide +kernel
theorem dX5_add_37 : decode cX5_add 37 = .ok (.aload_n 0, 1) := by decide +kernel
theorem dX5_add_38 : decode cX5_add 38 = .ok (.iload_n 1, 1) := by decide +kernel
theorem dX5_add_39 : decode cX5_add 39 = .ok (.iload_n 2, 1) := by decide +kernel
theorem dX5_add_40 : decode cX5_add 40 = .ok (.invokevirtual 81, 3) := by decide +kernel
theorem dX5_add_43 : decode cX5_add 43 = .ok (.ifCond .eq 9, 3) := by decide +kernel
theorem dX5_add_46 : decode cX5_add 46 = .ok (.aload_n 0, 1) := by decide +kernel
theorem dX5_add_47 : decode cX5_add 47 = .ok (.iconst 2, 1) := by decide +kernel
theorem dX5_add_48 : decode cX5_add 48 = .ok (.invokevirtual 51, 3) := by decide +kernel
theorem dX5_add_51 : decode cX5_add 51 = .ok (.ireturn, 1) := by decide +kernel
theorem dX5_add_52 : decode cX5_add 52 = .ok (.aload_n 0, 1) := by decide +kernel
theorem dX5_add_53 : decode cX5_add 53 = .ok (.getfield 31, 3) := by decide +kernel
theorem dX5_add_56 : decode cX5_add 56 = .ok (.iconst 5, 1) := by decide +kernel
theorem dX5_add_57 : decode cX5_add 57 = .ok (.iload_n 1, 1) := by decide +kernel
theorem dX5_add_58 : decode cX5_add 58 = .ok (.imul, 1) := by decide +kernel
theorem dX5_add_59 : decode cX5_add 59 = .ok (.aload_n 0, 1) := by decide +kernel
theorem dX5_add_60 : decode cX5_add 60 = .ok (.getfield 28, 3) := by decide +kernel
theorem dX5_add_63 : decode cX5_add 63 = .ok (.iload_n 1, 1) := by decide +kernel
theorem dX5_add_64 : decode cX5_add 64 = .ok (.iaload, 1) := by decide +kernel
theorem dX5_add_65 : decode cX5_add 65 = .ok (.iadd, 1) := by decide +kernel
theorem dX5_add_66 : decode cX5_add 66 = .ok (.iload_n 2, 1) := by decide +kernel
theorem dX5_add_67 : decode cX5_add 67 = .ok (.iastore, 1) := by decide +kernel
theorem dX5_add_68 : decode cX5_add 68 = .ok (.aload_n 0, 1) := by decide +kernel
theorem dX5_add_69 : decode cX5_add 69 = .ok (.getfield 28, 3) := by decide +kernel
theorem dX5_add_72 : decode cX5_add 72 = .ok (.iload_n 1, 1) := by decide +kernel
theorem dX5_add_73 : decode cX5_add 73 = .ok (.dup2, 1) := by decide +kernel
theorem dX5_add_74 : decode cX5_add 74 = .ok (.iaload, 1) := by decide +kernel
theorem dX5_add_75 : decode cX5_add 75 = .ok (.iconst 1, 1) := by decide +kernel
theorem dX5_add_76 : decode cX5_add 76 = .ok (.iadd, 1) := by decide +kernel
theorem dX5_add_77 : decode cX5_add 77 = .ok (.iastore, 1) := by decide +kernel
theorem dX5_add_78 : decode cX5_add 78 = .ok (.aload_n 0, 1) := by decide +kernel
theorem dX5_add_79 : decode cX5_add 79 = .ok (.getfield 28, 3) := by decide +kernel
theorem dX5_add_82 : decode cX5_add 82 = .ok (.iload_n 1, 1) := by decide +kernel
theorem dX5_add_83 : decode cX5_add 83 = .ok (.iaload, 1) := by decide +kernel
theorem dX5_add_84 : decode cX5_add 84 = .ok (.ireturn, 1) := by decide +kernel
set_option maxRecDepth 20000 in
theorem ggX5_cut_X5_isTour : GoodIn wsX5_cut wsX5_isTour := goodIn_r _ [7, 8, 9, 10, 6, 11, 21, 22, 23, 24, 25, 26, 27, 28, 29, 30, 31, 32, 33] (by decide +kernel) (by decide +kernel)
set_option maxRecDepth 20000 in
theorem gX5_cut_X5_isTour : GoodIn wsX5_cut (wsV RX5 94 RX5 yX5_isTour wsX5_isTour) := goodIn_app (goodIn_of _ (by decide +kernel)) ggX5_cut_X5_isTour
set_option maxRecDepth 20000 in
theorem ggX5_cut_X5_no : GoodIn wsX5_cut wsX5_no := goodIn_r _ [15, 1, 21, 22, 23, 24, 25, 26, 27, 28, 29, 30, 31, 32, 33] (by decide +kernel) (by decide +kernel)
set_option maxRecDepth 20000 in
theorem gX5_cut_X5_no : GoodIn wsX5_cut (wsV RX5 51 RX5 yX5_no wsX5_no) := goodIn_app (goodIn_of _ (by decide +kernel)) ggX5_cut_X5_no
set_option maxRecDepth 20000 in
theorem ggX5_cut_X5_at : GoodIn wsX5_cut wsX5_at := goodIn_r _ [19, 20, 21, 22, 23, 24, 25, 26, 27, 28, 29, 30, 31, 32, 33] (by decide +kernel) (by decide +kernel)
set_option maxRecDepth 20000 in
theorem gX5_cut_X5_at : GoodIn wsX5_cut (wsV RX5 75 RX5 yX5_at wsX5_at) := goodIn_app (goodIn_of _ (by decide +kernel)) ggX5_cut_X5_at
theorem dX5_cut_0 : decode cX5_cut 0 = .ok (.aload_n 0, 1) := by decide +kernel
theorem dX5_cut_1 : decode cX5_cut 1 = .ok (.iconst 0, 1) := by decide +kernel
theorem dX5_cut_2 : decode cX5_cut 2 = .ok (.putfield 37, 3) := by decide +kernel
theorem dX5_cut_5 : decode cX5_cut 5 = .ok (.aload_n 0, 1) := by decide +kernel
theorem dX5_cut_6 : decode cX5_cut 6 = .ok (.iload_n 1, 1) := by decide +kernel
theorem dX5_cut_7 : decode cX5_cut 7 = .ok (.invokevirtual 94, 3) := by decide +kernel
theorem dX5_cut_10 : decode cX5_cut 10 = .ok (.ifCond .ne 9, 3) := by decide +kernel
theorem dX5_cut_13 : decode cX5_cut 13 = .ok (.aload_n 0, 1) := by decide +kernel
theorem dX5_cut_14 : decode cX5_cut 14 = .ok (.iconst 1, 1) := by decide +kernel
theorem dX5_cut_15 : decode cX5_cut 15 = .ok (.invokevirtual 51, 3) := by decide +kernel
theorem dX5_cut_18 : decode cX5_cut 18 = .ok (.ireturn, 1) := by decide +kernel
theorem dX5_cut_19 : decode cX5_cut 19 = .ok (.aload_n 0, 1) := by decide +kernel
theorem dX5_cut_20 : decode cX5_cut 20 = .ok (.getfield 28, 3) := by decide +kernel
theorem dX5_cut_23 : decode cX5_cut 23 = .ok (.iload_n 1, 1) := by decide +kernel
theorem dX5_cut_24 : decode cX5_cut 24 = .ok (.iaload, 1) := by decide +kernel
theorem dX5_cut_25 : decode cX5_cut 25 = .ok (.ifCond .ne 9, 3) := by decide +kernel
theorem dX5_cut_28 : decode cX5_cut 28 = .ok (.aload_n 0, 1) := by decide +kernel
theorem dX5_cut_29 : decode cX5_cut 29 = .ok (.iconst 2, 1) := by decide +kernel
theorem dX5_cut_30 : decode cX5_cut 30 = .ok (.invokevirtual 51, 3) := by decide +kernel
theorem dX5_cut_33 : decode cX5_cut 33 = .ok (.ireturn, 1) := by decide +kernel
theorem dX5_cut_34 : decode cX5_cut 34 = .ok (.aload_n 0, 1) := by decide +kernel
theorem dX5_cut_35 : decode cX5_cut 35 = .ok (.getfield 28, 3) := by decide +kernel
theorem dX5_cut_38 : decode cX5_cut 38 = .ok (.iload_n 1, 1) := by decide +kernel
theorem dX5_cut_39 : decode cX5_cut 39 = .ok (.dup2, 1) := by decide +kernel
theorem dX5_cut_40 : decode cX5_cut 40 = .ok (.iaload, 1) := by decide +kernel
theorem dX5_cut_41 : decode cX5_cut 41 = .ok (.iconst 1, 1) := by decide +kernel
theorem dX5_cut_42 : decode cX5_cut 42 = .ok (.isub, 1) := by decide +kernel
theorem dX5_cut_43 : decode cX5_cut 43 = .ok (.iastore, 1) := by decide +kernel
theorem dX5_cut_44 : decode cX5_cut 44 = .ok (.aload_n 0, 1) := by decide +kernel
theorem dX5_cut_45 : decode cX5_cut 45 = .ok (.iload_n 1, 1) := by decide +kernel
theorem dX5_cut_46 : decode cX5_cut 46 = .ok (.aload_n 0, 1) := by decide +kernel
theorem dX5_cut_47 : decode cX5_cut 47 = .ok (.getfield 28, 3) := by decide +kernel
theorem dX5_cut_50 : decode cX5_cut 50 = .ok (.iload_n 1, 1) := by decide +kernel
theorem dX5_cut_51 : decode cX5_cut 51 = .ok (.iaload, 1) := by decide +kernel
theorem dX5_cut_52 : decode cX5_cut 52 = .ok (.invokevirtual 75, 3) := by decide +kernel
theorem dX5_cut_55 : decode cX5_cut 55 = .ok (.ireturn, 1) := by decide +kernel
set_option maxRecDepth 20000 in
theorem ggX5_tourTold_X5_minutes : GoodIn wsX5_tourTold wsX5_minutes := goodIn_r _ [8, 2, 9, 10, 11, 12, 7, 13, 14, 53, 54, 55, 56, 57, 58, 59, 60, 61, 62, 63, 64, 65] (by decide +kernel) (by decide +kernel)
set_option maxRecDepth 20000 in
theorem gX5_tourTold_X5_minutes : GoodIn wsX5_tourTold (wsV RX5 78 RX5 yX5_minutes wsX5_minutes) := goodIn_app (goodIn_of _ (by decide +kernel)) ggX5_tourTold_X5_minutes
set_option maxRecDepth 20000 in
theorem ggX5_tourTold_X5_goes : GoodIn wsX5_tourTold wsX5_goes := goodIn_r _ [18, 4, 5, 6, 7, 8, 2, 9, 10, 11, 12, 13, 14, 19, 20, 21, 53, 54, 55, 56, 57, 58, 59, 60, 61, 62, 63, 64, 65] (by decide +kernel) (by decide +kernel)
set_option maxRecDepth 20000 in
theorem gX5_tourTold_X5_goes : GoodIn wsX5_tourTold (wsV RX5 85 RX5 yX5_goes wsX5_goes) := goodIn_app (goodIn_of _ (by decide +kernel)) ggX5_tourTold_X5_goes
set_option maxRecDepth 20000 in
theorem ggX5_tourTold_X5_joyOf : GoodIn wsX5_tourTold wsX5_joyOf := goodIn_r _ [25, 2, 26, 27, 28, 29, 15, 16, 17, 7, 18, 4, 5, 6, 8, 9, 10, 11, 12, 13, 14, 19, 20, 21, 30, 31, 32, 33, 34, 35, 36, 37, 38, 39, 40, 41, 42, 43, 1, 44, 45, 46, 47, 53, 54, 55, 56, 57, 58, 59, 60, 61, 62, 63, 64, 65] (by decide +kernel) (by decide +kernel)
set_option maxRecDepth 20000 in
theorem gX5_tourTold_X5_joyOf : GoodIn wsX5_tourTold (wsV RX5 97 RX5 yX5_joyOf wsX5_joyOf) := goodIn_app (goodIn_of _ (by decide +kernel)) ggX5_tourTold_X5_joyOf
set_option maxRecDepth 20000 in
theorem ggX5_tourTold_X5_stingsOf : GoodIn wsX5_tourTold wsX5_stingsOf := goodIn_r _ [51, 2, 1, 52, 15, 16, 17, 7, 18, 4, 5, 6, 8, 9, 10, 11, 12, 13, 14, 19, 20, 21, 30, 31, 32, 33, 34, 35, 36, 37, 28, 38, 53, 54, 55, 56, 57, 58, 59, 60, 61, 62, 63, 64, 65] (by decide +kernel) (by decide +kernel)
set_option maxRecDepth 20000 in
theorem gX5_tourTold_X5_stingsOf : GoodIn wsX5_tourTold (wsV RX5 100 RX5 yX5_stingsOf wsX5_stingsOf) := goodIn_app (goodIn_of _ (by decide +kernel)) ggX5_tourTold_X5_stingsOf
theorem dX5_tourTold_0 : decode cX5_tourTold 0 = .ok (.iload_n 2, 1) := by decide +kernel
theorem dX5_tourTold_1 : decode cX5_tourTold 1 = .ok (.tableswitch 81 0 4 #[35, 42, 49, 55, 69], 35) := by decide +kernel
theorem dX5_tourTold_36 : decode cX5_tourTold 36 = .ok (.aload_n 0, 1) := by decide +kernel
theorem dX5_tourTold_37 : decode cX5_tourTold 37 = .ok (.getfield 25, 3) := by decide +kernel
theorem dX5_tourTold_40 : decode cX5_tourTold 40 = .ok (.iload_n 1, 1) := by decide +kernel
theorem dX5_tourTold_41 : decode cX5_tourTold 41 = .ok (.iaload, 1) := by decide +kernel
theorem dX5_tourTold_42 : decode cX5_tourTold 42 = .ok (.ireturn, 1) := by decide +kernel
theorem dX5_tourTold_43 : decode cX5_tourTold 43 = .ok (.aload_n 0, 1) := by decide +kernel
theorem dX5_tourTold_44 : decode cX5_tourTold 44 = .ok (.getfield 28, 3) := by decide +kernel
theorem dX5_tourTold_47 : decode cX5_tourTold 47 = .ok (.iload_n 1, 1) := by decide +kernel
theorem dX5_tourTold_48 : decode cX5_tourTold 48 = .ok (.iaload, 1) := by decide +kernel
theorem dX5_tourTold_49 : decode cX5_tourTold 49 = .ok (.ireturn, 1) := by decide +kernel
theorem dX5_tourTold_50 : decode cX5_tourTold 50 = .ok (.aload_n 0, 1) := by decide +kernel
theorem dX5_tourTold_51 : decode cX5_tourTold 51 = .ok (.iload_n 1, 1) := by decide +kernel
theorem dX5_tourTold_52 : decode cX5_tourTold 52 = .ok (.invokevirtual 78, 3) := by decide +kernel
theorem dX5_tourTold_55 : decode cX5_tourTold 55 = .ok (.ireturn, 1) := by decide +kernel
theorem dX5_tourTold_56 : decode cX5_tourTold 56 = .ok (.aload_n 0, 1) := by decide +kernel
theorem dX5_tourTold_57 : decode cX5_tourTold 57 = .ok (.iload_n 1, 1) := by decide +kernel
theorem dX5_tourTold_58 : decode cX5_tourTold 58 = .ok (.invokevirtual 85, 3) := by decide +kernel
theorem dX5_tourTold_61 : decode cX5_tourTold 61 = .ok (.ifCond .eq 7, 3) := by decide +kernel
theorem dX5_tourTold_64 : decode cX5_tourTold 64 = .ok (.iconst 1, 1) := by decide +kernel
theorem dX5_tourTold_65 : decode cX5_tourTold 65 = .ok (.goto 4, 3) := by decide +kernel
theorem dX5_tourTold_68 : decode cX5_tourTold 68 = .ok (.iconst 0, 1) := by decide +kernel
theorem dX5_tourTold_69 : decode cX5_tourTold 69 = .ok (.ireturn, 1) := by decide +kernel
theorem dX5_tourTold_70 : decode cX5_tourTold 70 = .ok (.aload_n 0, 1) := by decide +kernel
theorem dX5_tourTold_71 : decode cX5_tourTold 71 = .ok (.iload_n 1, 1) := by decide +kernel
theorem dX5_tourTold_72 : decode cX5_tourTold 72 = .ok (.aload_n 0, 1) := by decide +kernel
theorem dX5_tourTold_73 : decode cX5_tourTold 73 = .ok (.getfield 34, 3) := by decide +kernel
theorem dX5_tourTold_76 : decode cX5_tourTold 76 = .ok (.iconst 0, 1) := by decide +kernel
theorem dX5_tourTold_77 : decode cX5_tourTold 77 = .ok (.iaload, 1) := by decide +kernel
theorem dX5_tourTold_78 : decode cX5_tourTold 78 = .ok (.invokevirtual 97, 3) := by decide +kernel
theorem dX5_tourTold_81 : decode cX5_tourTold 81 = .ok (.ireturn, 1) := by decide +kernel
theorem dX5_tourTold_82 : decode cX5_tourTold 82 = .ok (.aload_n 0, 1) := by decide +kernel
theorem dX5_tourTold_83 : decode cX5_tourTold 83 = .ok (.iload_n 1, 1) := by decide +kernel
theorem dX5_tourTold_84 : decode cX5_tourTold 84 = .ok (.aload_n 0, 1) := by decide +kernel
theorem dX5_tourTold_85 : decode cX5_tourTold 85 = .ok (.getfield 34, 3) := by decide +kernel
theorem dX5_tourTold_88 : decode cX5_tourTold 88 = .ok (.iconst 0, 1) := by decide +kernel
theorem dX5_tourTold_89 : decode cX5_tourTold 89 = .ok (.iaload, 1) := by decide +kernel
theorem dX5_tourTold_90 : decode cX5_tourTold 90 = .ok (.invokevirtual 100, 3) := by decide +kernel
theorem dX5_tourTold_93 : decode cX5_tourTold 93 = .ok (.ireturn, 1) := by decide +kernel
set_option maxRecDepth 20000 in
theorem ggX5_told_X5_isTour : GoodIn wsX5_told wsX5_isTour := goodIn_r _ [6, 7, 8, 9, 5, 10, 66, 67, 68, 69, 70, 71, 72, 73, 74, 75, 76, 77, 78] (by decide +kernel) (by decide +kernel)
set_option maxRecDepth 20000 in
theorem gX5_told_X5_isTour : GoodIn wsX5_told (wsV RX5 94 RX5 yX5_isTour wsX5_isTour) := goodIn_app (goodIn_of _ (by decide +kernel)) ggX5_told_X5_isTour
set_option maxRecDepth 20000 in
theorem ggX5_told_X5_isIn : GoodIn wsX5_told wsX5_isIn := goodIn_r _ [10] (by decide +kernel) (by decide +kernel)
set_option maxRecDepth 20000 in
theorem gX5_told_X5_isIn : GoodIn wsX5_told (va_wsS RX5 44 yX5_isIn wsX5_isIn) := goodIn_app (goodIn_of _ (by decide +kernel)) ggX5_told_X5_isIn
set_option maxRecDepth 20000 in
theorem ggX5_told_X5_tourTold : GoodIn wsX5_told wsX5_tourTold := goodIn_r _ [14, 15, 16, 17, 18, 19, 20, 5, 21, 22, 23, 24, 25, 26, 27, 28, 29, 30, 31, 8, 9, 10, 32, 33, 34, 35, 36, 37, 38, 39, 40, 41, 42, 43, 44, 45, 46, 47, 48, 49, 50, 51, 52, 7, 53, 54, 55, 56, 57, 58, 59, 60, 61, 66, 67, 68, 69, 70, 71, 72, 73, 74, 75, 76, 77, 78] (by decide +kernel) (by decide +kernel)
set_option maxRecDepth 20000 in
theorem gX5_told_X5_tourTold : GoodIn wsX5_told (wsV RX5 103 RX5 yX5_tourTold wsX5_tourTold) := goodIn_app (goodIn_of _ (by decide +kernel)) ggX5_told_X5_tourTold
set_option maxRecDepth 20000 in
theorem ggX5_told_X5_no : GoodIn wsX5_told wsX5_no := goodIn_r _ [65, 1, 66, 67, 68, 69, 70, 71, 72, 73, 74, 75, 76, 77, 78] (by decide +kernel) (by decide +kernel)
set_option maxRecDepth 20000 in
theorem gX5_told_X5_no : GoodIn wsX5_told (wsV RX5 51 RX5 yX5_no wsX5_no) := goodIn_app (goodIn_of _ (by decide +kernel)) ggX5_told_X5_no
theorem dX5_told_0 : decode cX5_told 0 = .ok (.aload_n 0, 1) := by decide +kernel
theorem dX5_told_1 : decode cX5_told 1 = .ok (.iconst 0, 1) := by decide +kernel
theorem dX5_told_2 : decode cX5_told 2 = .ok (.putfield 37, 3) := by decide +kernel
theorem dX5_told_5 : decode cX5_told 5 = .ok (.aload_n 0, 1) := by decide +kernel
theorem dX5_told_6 : decode cX5_told 6 = .ok (.iload_n 1, 1) := by decide +kernel
theorem dX5_told_7 : decode cX5_told 7 = .ok (.invokevirtual 94, 3) := by decide +kernel
theorem dX5_told_10 : decode cX5_told 10 = .ok (.ifCond .eq 21, 3) := by decide +kernel
theorem dX5_told_13 : decode cX5_told 13 = .ok (.iload_n 2, 1) := by decide +kernel
theorem dX5_told_14 : decode cX5_told 14 = .ok (.iconst 0, 1) := by decide +kernel
theorem dX5_told_15 : decode cX5_told 15 = .ok (.iconst 5, 1) := by decide +kernel
theorem dX5_told_16 : decode cX5_told 16 = .ok (.invokestatic 44, 3) := by decide +kernel
theorem dX5_told_19 : decode cX5_told 19 = .ok (.ifCond .eq 12, 3) := by decide +kernel
theorem dX5_told_22 : decode cX5_told 22 = .ok (.aload_n 0, 1) := by decide +kernel
theorem dX5_told_23 : decode cX5_told 23 = .ok (.iload_n 1, 1) := by decide +kernel
theorem dX5_told_24 : decode cX5_told 24 = .ok (.iload_n 2, 1) := by decide +kernel
theorem dX5_told_25 : decode cX5_told 25 = .ok (.invokevirtual 103, 3) := by decide +kernel
theorem dX5_told_28 : decode cX5_told 28 = .ok (.goto 8, 3) := by decide +kernel
theorem dX5_told_31 : decode cX5_told 31 = .ok (.aload_n 0, 1) := by decide +kernel
theorem dX5_told_32 : decode cX5_told 32 = .ok (.iconst 1, 1) := by decide +kernel
theorem dX5_told_33 : decode cX5_told 33 = .ok (.invokevirtual 51, 3) := by decide +kernel
theorem dX5_told_36 : decode cX5_told 36 = .ok (.ireturn, 1) := by decide +kernel
set_option maxRecDepth 20000 in
theorem ggX5_valleyTold_X5_has : GoodIn wsX5_valleyTold wsX5_has := goodIn_r _ [10, 11, 12, 13, 14, 9, 15, 16, 42, 43, 44, 45, 46, 47, 48, 49, 50, 51, 52, 53, 54] (by decide +kernel) (by decide +kernel)
set_option maxRecDepth 20000 in
theorem gX5_valleyTold_X5_has : GoodIn wsX5_valleyTold (wsV RX5 81 RX5 yX5_has wsX5_has) := goodIn_app (goodIn_of _ (by decide +kernel)) ggX5_valleyTold_X5_has
set_option maxRecDepth 20000 in
theorem ggX5_valleyTold_X5_goes : GoodIn wsX5_valleyTold wsX5_goes := goodIn_r _ [20, 21, 22, 23, 9, 24, 11, 25, 12, 13, 14, 15, 16, 26, 27, 28, 42, 43, 44, 45, 46, 47, 48, 49, 50, 51, 52, 53, 54] (by decide +kernel) (by decide +kernel)
set_option maxRecDepth 20000 in
theorem gX5_valleyTold_X5_goes : GoodIn wsX5_valleyTold (wsV RX5 85 RX5 yX5_goes wsX5_goes) := goodIn_app (goodIn_of _ (by decide +kernel)) ggX5_valleyTold_X5_goes
set_option maxRecDepth 20000 in
theorem ggX5_valleyTold_X5_blooms : GoodIn wsX5_valleyTold wsX5_blooms := goodIn_r _ [32, 2, 3, 33, 34, 35, 36, 26, 27, 9, 28, 42, 43, 44, 45, 46, 47, 48, 49, 50, 51, 52, 53, 54] (by decide +kernel) (by decide +kernel)
set_option maxRecDepth 20000 in
theorem gX5_valleyTold_X5_blooms : GoodIn wsX5_valleyTold (wsV RX5 72 RX5 yX5_blooms wsX5_blooms) := goodIn_app (goodIn_of _ (by decide +kernel)) ggX5_valleyTold_X5_blooms
set_option maxRecDepth 20000 in
theorem ggX5_valleyTold_X5_crowd : GoodIn wsX5_valleyTold wsX5_crowd := goodIn_r _ [40, 1, 41, 6, 7, 8, 9, 10, 11, 12, 13, 14, 15, 16, 17, 18, 19, 20, 21, 22, 23, 24, 25, 26, 27, 28, 42, 43, 44, 45, 46, 47, 48, 49, 50, 51, 52, 53, 54] (by decide +kernel) (by decide +kernel)
set_option maxRecDepth 20000 in
theorem gX5_valleyTold_X5_crowd : GoodIn wsX5_valleyTold (wsV RX5 88 RX5 yX5_crowd wsX5_crowd) := goodIn_app (goodIn_of _ (by decide +kernel)) ggX5_valleyTold_X5_crowd
theorem dX5_valleyTold_0 : decode cX5_valleyTold 0 = .ok (.iconst 0, 1) := by decide +kernel
theorem dX5_valleyTold_1 : decode cX5_valleyTold 1 = .ok (.istore_n 3, 1) := by decide +kernel
theorem dX5_valleyTold_2 : decode cX5_valleyTold 2 = .ok (.iconst 0, 1) := by decide +kernel
theorem dX5_valleyTold_3 : decode cX5_valleyTold 3 = .ok (.istore 4, 2) := by decide +kernel
theorem dX5_valleyTold_5 : decode cX5_valleyTold 5 = .ok (.iload 4, 2) := by decide +kernel
theorem dX5_valleyTold_7 : decode cX5_valleyTold 7 = .ok (.aload_n 0, 1) := by decide +kernel
theorem dX5_valleyTold_8 : decode cX5_valleyTold 8 = .ok (.getfield 48, 3) := by decide +kernel
theorem dX5_valleyTold_11 : decode cX5_valleyTold 11 = .ok (.if_icmp .ge 36, 3) := by decide +kernel
theorem dX5_valleyTold_14 : decode cX5_valleyTold 14 = .ok (.iload_n 3, 1) := by decide +kernel
theorem dX5_valleyTold_15 : decode cX5_valleyTold 15 = .ok (.aload_n 0, 1) := by decide +kernel
theorem dX5_valleyTold_16 : decode cX5_valleyTold 16 = .ok (.iload 4, 2) := by decide +kernel
theorem dX5_valleyTold_18 : decode cX5_valleyTold 18 = .ok (.iload_n 1, 1) := by decide +kernel
theorem dX5_valleyTold_19 : decode cX5_valleyTold 19 = .ok (.invokevirtual 81, 3) := by decide +kernel
theorem dX5_valleyTold_22 : decode cX5_valleyTold 22 = .ok (.ifCond .eq 16, 3) := by decide +kernel
theorem dX5_valleyTold_25 : decode cX5_valleyTold 25 = .ok (.aload_n 0, 1) := by decide +kernel
theorem dX5_valleyTold_26 : decode cX5_valleyTold 26 = .ok (.iload 4, 2) := by decide +kernel
theorem dX5_valleyTold_28 : decode cX5_valleyTold 28 = .ok (.invokevirtual 85, 3) := by decide +kernel
theorem dX5_valleyTold_31 : decode cX5_valleyTold 31 = .ok (.ifCond .eq 7, 3) := by decide +kernel
theorem dX5_valleyTold_34 : decode cX5_valleyTold 34 = .ok (.iconst 1, 1) := by decide +kernel
theorem dX5_valleyTold_35 : decode cX5_valleyTold 35 = .ok (.goto 4, 3) := by decide +kernel
theorem dX5_valleyTold_38 : decode cX5_valleyTold 38 = .ok (.iconst 0, 1) := by decide +kernel
theorem dX5_valleyTold_39 : decode cX5_valleyTold 39 = .ok (.iadd, 1) := by decide +kernel
theorem dX5_valleyTold_40 : decode cX5_valleyTold 40 = .ok (.istore_n 3, 1) := by decide +kernel
theorem dX5_valleyTold_41 : decode cX5_valleyTold 41 = .ok (.iinc 4 1, 3) := by decide +kernel
theorem dX5_valleyTold_44 : decode cX5_valleyTold 44 = .ok (.goto (-39), 3) := by decide +kernel
theorem dX5_valleyTold_47 : decode cX5_valleyTold 47 = .ok (.iload_n 2, 1) := by decide +kernel
theorem dX5_valleyTold_48 : decode cX5_valleyTold 48 = .ok (.tableswitch 75 0 4 #[36, 43, 50, 57, 69], 36) := by decide +kernel
theorem dX5_valleyTold_84 : decode cX5_valleyTold 84 = .ok (.aload_n 0, 1) := by decide +kernel
theorem dX5_valleyTold_85 : decode cX5_valleyTold 85 = .ok (.getfield 9, 3) := by decide +kernel
theorem dX5_valleyTold_88 : decode cX5_valleyTold 88 = .ok (.iload_n 1, 1) := by decide +kernel
theorem dX5_valleyTold_89 : decode cX5_valleyTold 89 = .ok (.iaload, 1) := by decide +kernel
theorem dX5_valleyTold_90 : decode cX5_valleyTold 90 = .ok (.ireturn, 1) := by decide +kernel
theorem dX5_valleyTold_91 : decode cX5_valleyTold 91 = .ok (.aload_n 0, 1) := by decide +kernel
theorem dX5_valleyTold_92 : decode cX5_valleyTold 92 = .ok (.getfield 13, 3) := by decide +kernel
theorem dX5_valleyTold_95 : decode cX5_valleyTold 95 = .ok (.iload_n 1, 1) := by decide +kernel
theorem dX5_valleyTold_96 : decode cX5_valleyTold 96 = .ok (.iaload, 1) := by decide +kernel
theorem dX5_valleyTold_97 : decode cX5_valleyTold 97 = .ok (.ireturn, 1) := by decide +kernel
theorem dX5_valleyTold_98 : decode cX5_valleyTold 98 = .ok (.aload_n 0, 1) := by decide +kernel
theorem dX5_valleyTold_99 : decode cX5_valleyTold 99 = .ok (.getfield 16, 3) := by decide +kernel
theorem dX5_valleyTold_102 : decode cX5_valleyTold 102 = .ok (.iload_n 1, 1) := by decide +kernel
theorem dX5_valleyTold_103 : decode cX5_valleyTold 103 = .ok (.iaload, 1) := by decide +kernel
theorem dX5_valleyTold_104 : decode cX5_valleyTold 104 = .ok (.ireturn, 1) := by decide +kernel
theorem dX5_valleyTold_105 : decode cX5_valleyTold 105 = .ok (.aload_n 0, 1) := by decide +kernel
theorem dX5_valleyTold_106 : decode cX5_valleyTold 106 = .ok (.iload_n 1, 1) := by decide +kernel
theorem dX5_valleyTold_107 : decode cX5_valleyTold 107 = .ok (.aload_n 0, 1) := by decide +kernel
theorem dX5_valleyTold_108 : decode cX5_valleyTold 108 = .ok (.getfield 34, 3) := by decide +kernel
theorem dX5_valleyTold_111 : decode cX5_valleyTold 111 = .ok (.iconst 0, 1) := by decide +kernel
theorem dX5_valleyTold_112 : decode cX5_valleyTold 112 = .ok (.iaload, 1) := by decide +kernel
theorem dX5_valleyTold_113 : decode cX5_valleyTold 113 = .ok (.invokevirtual 72, 3) := by decide +kernel
theorem dX5_valleyTold_116 : decode cX5_valleyTold 116 = .ok (.ireturn, 1) := by decide +kernel
theorem dX5_valleyTold_117 : decode cX5_valleyTold 117 = .ok (.aload_n 0, 1) := by decide +kernel
theorem dX5_valleyTold_118 : decode cX5_valleyTold 118 = .ok (.iload_n 1, 1) := by decide +kernel
theorem dX5_valleyTold_119 : decode cX5_valleyTold 119 = .ok (.invokevirtual 88, 3) := by decide +kernel
theorem dX5_valleyTold_122 : decode cX5_valleyTold 122 = .ok (.ireturn, 1) := by decide +kernel
theorem dX5_valleyTold_123 : decode cX5_valleyTold 123 = .ok (.iload_n 3, 1) := by decide +kernel
theorem dX5_valleyTold_124 : decode cX5_valleyTold 124 = .ok (.ireturn, 1) := by decide +kernel
set_option maxRecDepth 20000 in
theorem ggX5_about_X5_isValley : GoodIn wsX5_about wsX5_isValley := goodIn_r _ [6, 7, 8, 9, 5, 10, 56, 57, 58, 59, 60, 61, 62, 63, 64, 65, 66, 67, 68] (by decide +kernel) (by decide +kernel)
set_option maxRecDepth 20000 in
theorem gX5_about_X5_isValley : GoodIn wsX5_about (wsV RX5 55 RX5 yX5_isValley wsX5_isValley) := goodIn_app (goodIn_of _ (by decide +kernel)) ggX5_about_X5_isValley
set_option maxRecDepth 20000 in
theorem ggX5_about_X5_isIn : GoodIn wsX5_about wsX5_isIn := goodIn_r _ [10] (by decide +kernel) (by decide +kernel)
set_option maxRecDepth 20000 in
theorem gX5_about_X5_isIn : GoodIn wsX5_about (va_wsS RX5 44 yX5_isIn wsX5_isIn) := goodIn_app (goodIn_of _ (by decide +kernel)) ggX5_about_X5_isIn
set_option maxRecDepth 20000 in
theorem ggX5_about_X5_valleyTold : GoodIn wsX5_about wsX5_valleyTold := goodIn_r _ [14, 15, 16, 17, 18, 19, 20, 21, 22, 5, 23, 24, 25, 26, 27, 28, 29, 30, 31, 32, 33, 34, 35, 36, 37, 38, 8, 9, 10, 39, 40, 41, 42, 43, 44, 45, 46, 47, 48, 49, 50, 51, 56, 57, 58, 59, 60, 61, 62, 63, 64, 65, 66, 67, 68] (by decide +kernel) (by decide +kernel)
set_option maxRecDepth 20000 in
theorem gX5_about_X5_valleyTold : GoodIn wsX5_about (wsV RX5 106 RX5 yX5_valleyTold wsX5_valleyTold) := goodIn_app (goodIn_of _ (by decide +kernel)) ggX5_about_X5_valleyTold
set_option maxRecDepth 20000 in
theorem ggX5_about_X5_no : GoodIn wsX5_about wsX5_no := goodIn_r _ [55, 1, 56, 57, 58, 59, 60, 61, 62, 63, 64, 65, 66, 67, 68] (by decide +kernel) (by decide +kernel)
set_option maxRecDepth 20000 in
theorem gX5_about_X5_no : GoodIn wsX5_about (wsV RX5 51 RX5 yX5_no wsX5_no) := goodIn_app (goodIn_of _ (by decide +kernel)) ggX5_about_X5_no
theorem dX5_about_0 : decode cX5_about 0 = .ok (.aload_n 0, 1) := by decide +kernel
theorem dX5_about_1 : decode cX5_about 1 = .ok (.iconst 0, 1) := by decide +kernel
theorem dX5_about_2 : decode cX5_about 2 = .ok (.putfield 37, 3) := by decide +kernel
theorem dX5_about_5 : decode cX5_about 5 = .ok (.aload_n 0, 1) := by decide +kernel
theorem dX5_about_6 : decode cX5_about 6 = .ok (.iload_n 1, 1) := by decide +kernel
theorem dX5_about_7 : decode cX5_about 7 = .ok (.invokevirtual 55, 3) := by decide +kernel
theorem dX5_about_10 : decode cX5_about 10 = .ok (.ifCond .eq 21, 3) := by decide +kernel
theorem dX5_about_13 : decode cX5_about 13 = .ok (.iload_n 2, 1) := by decide +kernel
theorem dX5_about_14 : decode cX5_about 14 = .ok (.iconst 0, 1) := by decide +kernel
theorem dX5_about_15 : decode cX5_about 15 = .ok (.iconst 5, 1) := by decide +kernel
theorem dX5_about_16 : decode cX5_about 16 = .ok (.invokestatic 44, 3) := by decide +kernel
theorem dX5_about_19 : decode cX5_about 19 = .ok (.ifCond .eq 12, 3) := by decide +kernel
theorem dX5_about_22 : decode cX5_about 22 = .ok (.aload_n 0, 1) := by decide +kernel
theorem dX5_about_23 : decode cX5_about 23 = .ok (.iload_n 1, 1) := by decide +kernel
theorem dX5_about_24 : decode cX5_about 24 = .ok (.iload_n 2, 1) := by decide +kernel
theorem dX5_about_25 : decode cX5_about 25 = .ok (.invokevirtual 106, 3) := by decide +kernel
theorem dX5_about_28 : decode cX5_about 28 = .ok (.goto 8, 3) := by decide +kernel
theorem dX5_about_31 : decode cX5_about 31 = .ok (.aload_n 0, 1) := by decide +kernel
theorem dX5_about_32 : decode cX5_about 32 = .ok (.iconst 1, 1) := by decide +kernel
theorem dX5_about_33 : decode cX5_about 33 = .ok (.invokevirtual 51, 3) := by decide +kernel
theorem dX5_about_36 : decode cX5_about 36 = .ok (.ireturn, 1) := by decide +kernel
set_option maxRecDepth 20000 in
theorem ggX5_counted_X5_blooms : GoodIn wsX5_counted wsX5_blooms := goodIn_r _ [9, 10, 11, 12, 13, 14, 15, 16, 17, 8, 18, 34, 35, 36, 37, 38, 39, 40, 41, 42, 43, 44, 45, 46] (by decide +kernel) (by decide +kernel)
set_option maxRecDepth 20000 in
theorem gX5_counted_X5_blooms : GoodIn wsX5_counted (wsV RX5 72 RX5 yX5_blooms wsX5_blooms) := goodIn_app (goodIn_of _ (by decide +kernel)) ggX5_counted_X5_blooms
set_option maxRecDepth 20000 in
theorem ggX5_counted_X5_goes : GoodIn wsX5_counted wsX5_goes := goodIn_r _ [22, 23, 24, 25, 8, 26, 27, 28, 29, 30, 31, 32, 33, 16, 17, 18, 34, 35, 36, 37, 38, 39, 40, 41, 42, 43, 44, 45, 46] (by decide +kernel) (by decide +kernel)
set_option maxRecDepth 20000 in
theorem gX5_counted_X5_goes : GoodIn wsX5_counted (wsV RX5 85 RX5 yX5_goes wsX5_goes) := goodIn_app (goodIn_of _ (by decide +kernel)) ggX5_counted_X5_goes
theorem dX5_counted_0 : decode cX5_counted 0 = .ok (.iconst 0, 1) := by decide +kernel
theorem dX5_counted_1 : decode cX5_counted 1 = .ok (.istore_n 3, 1) := by decide +kernel
theorem dX5_counted_2 : decode cX5_counted 2 = .ok (.iconst 0, 1) := by decide +kernel
theorem dX5_counted_3 : decode cX5_counted 3 = .ok (.istore 4, 2) := by decide +kernel
theorem dX5_counted_5 : decode cX5_counted 5 = .ok (.iconst 0, 1) := by decide +kernel
theorem dX5_counted_6 : decode cX5_counted 6 = .ok (.istore 5, 2) := by decide +kernel
theorem dX5_counted_8 : decode cX5_counted 8 = .ok (.iload 5, 2) := by decide +kernel
theorem dX5_counted_10 : decode cX5_counted 10 = .ok (.aload_n 0, 1) := by decide +kernel
theorem dX5_counted_11 : decode cX5_counted 11 = .ok (.getfield 41, 3) := by decide +kernel
theorem dX5_counted_14 : decode cX5_counted 14 = .ok (.if_icmp .ge 29, 3) := by decide +kernel
theorem dX5_counted_17 : decode cX5_counted 17 = .ok (.iload_n 3, 1) := by decide +kernel
theorem dX5_counted_18 : decode cX5_counted 18 = .ok (.aload_n 0, 1) := by decide +kernel
theorem dX5_counted_19 : decode cX5_counted 19 = .ok (.iload 5, 2) := by decide +kernel
theorem dX5_counted_21 : decode cX5_counted 21 = .ok (.aload_n 1, 1) := by decide +kernel
theorem dX5_counted_22 : decode cX5_counted 22 = .ok (.iconst 0, 1) := by decide +kernel
theorem dX5_counted_23 : decode cX5_counted 23 = .ok (.iaload, 1) := by decide +kernel
theorem dX5_counted_24 : decode cX5_counted 24 = .ok (.invokevirtual 72, 3) := by decide +kernel
theorem dX5_counted_27 : decode cX5_counted 27 = .ok (.ifCond .le 7, 3) := by decide +kernel
theorem dX5_counted_30 : decode cX5_counted 30 = .ok (.iconst 1, 1) := by decide +kernel
theorem dX5_counted_31 : decode cX5_counted 31 = .ok (.goto 4, 3) := by decide +kernel
theorem dX5_counted_34 : decode cX5_counted 34 = .ok (.iconst 0, 1) := by decide +kernel
theorem dX5_counted_35 : decode cX5_counted 35 = .ok (.iadd, 1) := by decide +kernel
theorem dX5_counted_36 : decode cX5_counted 36 = .ok (.istore_n 3, 1) := by decide +kernel
theorem dX5_counted_37 : decode cX5_counted 37 = .ok (.iinc 5 1, 3) := by decide +kernel
theorem dX5_counted_40 : decode cX5_counted 40 = .ok (.goto (-32), 3) := by decide +kernel
theorem dX5_counted_43 : decode cX5_counted 43 = .ok (.iconst 0, 1) := by decide +kernel
theorem dX5_counted_44 : decode cX5_counted 44 = .ok (.istore 5, 2) := by decide +kernel
theorem dX5_counted_46 : decode cX5_counted 46 = .ok (.iload 5, 2) := by decide +kernel
theorem dX5_counted_48 : decode cX5_counted 48 = .ok (.aload_n 0, 1) := by decide +kernel
theorem dX5_counted_49 : decode cX5_counted 49 = .ok (.getfield 48, 3) := by decide +kernel
theorem dX5_counted_52 : decode cX5_counted 52 = .ok (.if_icmp .ge 28, 3) := by decide +kernel
theorem dX5_counted_55 : decode cX5_counted 55 = .ok (.iload 4, 2) := by decide +kernel
theorem dX5_counted_57 : decode cX5_counted 57 = .ok (.aload_n 0, 1) := by decide +kernel
theorem dX5_counted_58 : decode cX5_counted 58 = .ok (.iload 5, 2) := by decide +kernel
theorem dX5_counted_60 : decode cX5_counted 60 = .ok (.invokevirtual 85, 3) := by decide +kernel
theorem dX5_counted_63 : decode cX5_counted 63 = .ok (.ifCond .eq 7, 3) := by decide +kernel
theorem dX5_counted_66 : decode cX5_counted 66 = .ok (.iconst 1, 1) := by decide +kernel
theorem dX5_counted_67 : decode cX5_counted 67 = .ok (.goto 4, 3) := by decide +kernel
theorem dX5_counted_70 : decode cX5_counted 70 = .ok (.iconst 0, 1) := by decide +kernel
theorem dX5_counted_71 : decode cX5_counted 71 = .ok (.iadd, 1) := by decide +kernel
theorem dX5_counted_72 : decode cX5_counted 72 = .ok (.istore 4, 2) := by decide +kernel
theorem dX5_counted_74 : decode cX5_counted 74 = .ok (.iinc 5 1, 3) := by decide +kernel
theorem dX5_counted_77 : decode cX5_counted 77 = .ok (.goto (-31), 3) := by decide +kernel
theorem dX5_counted_80 : decode cX5_counted 80 = .ok (.bipush 9, 2) := by decide +kernel
theorem dX5_counted_82 : decode cX5_counted 82 = .ok (.newarray .int, 2) := by decide +kernel
theorem dX5_counted_84 : decode cX5_counted 84 = .ok (.dup, 1) := by decide +kernel
theorem dX5_counted_85 : decode cX5_counted 85 = .ok (.iconst 0, 1) := by decide +kernel
theorem dX5_counted_86 : decode cX5_counted 86 = .ok (.aload_n 1, 1) := by decide +kernel
theorem dX5_counted_87 : decode cX5_counted 87 = .ok (.iconst 0, 1) := by decide +kernel
theorem dX5_counted_88 : decode cX5_counted 88 = .ok (.iaload, 1) := by decide +kernel
theorem dX5_counted_89 : decode cX5_counted 89 = .ok (.iastore, 1) := by decide +kernel
theorem dX5_counted_90 : decode cX5_counted 90 = .ok (.dup, 1) := by decide +kernel
theorem dX5_counted_91 : decode cX5_counted 91 = .ok (.iconst 1, 1) := by decide +kernel
theorem dX5_counted_92 : decode cX5_counted 92 = .ok (.aload_n 0, 1) := by decide +kernel
theorem dX5_counted_93 : decode cX5_counted 93 = .ok (.getfield 41, 3) := by decide +kernel
theorem dX5_counted_96 : decode cX5_counted 96 = .ok (.iastore, 1) := by decide +kernel
theorem dX5_counted_97 : decode cX5_counted 97 = .ok (.dup, 1) := by decide +kernel
theorem dX5_counted_98 : decode cX5_counted 98 = .ok (.iconst 2, 1) := by decide +kernel
theorem dX5_counted_99 : decode cX5_counted 99 = .ok (.aload_n 0, 1) := by decide +kernel
theorem dX5_counted_100 : decode cX5_counted 100 = .ok (.getfield 59, 3) := by decide +kernel
theorem dX5_counted_103 : decode cX5_counted 103 = .ok (.iastore, 1) := by decide +kernel
theorem dX5_counted_104 : decode cX5_counted 104 = .ok (.dup, 1) := by decide +kernel
theorem dX5_counted_105 : decode cX5_counted 105 = .ok (.iconst 3, 1) := by decide +kernel
theorem dX5_counted_106 : decode cX5_counted 106 = .ok (.aload_n 0, 1) := by decide +kernel
theorem dX5_counted_107 : decode cX5_counted 107 = .ok (.getfield 48, 3) := by decide +kernel
theorem dX5_counted_110 : decode cX5_counted 110 = .ok (.iastore, 1) := by decide +kernel
theorem dX5_counted_111 : decode cX5_counted 111 = .ok (.dup, 1) := by decide +kernel
theorem dX5_counted_112 : decode cX5_counted 112 = .ok (.iconst 4, 1) := by decide +kernel
theorem dX5_counted_113 : decode cX5_counted 113 = .ok (.iload 4, 2) := by decide +kernel
theorem dX5_counted_115 : decode cX5_counted 115 = .ok (.iastore, 1) := by decide +kernel
theorem dX5_counted_116 : decode cX5_counted 116 = .ok (.dup, 1) := by decide +kernel
theorem dX5_counted_117 : decode cX5_counted 117 = .ok (.iconst 5, 1) := by decide +kernel
theorem dX5_counted_118 : decode cX5_counted 118 = .ok (.iload_n 3, 1) := by decide +kernel
theorem dX5_counted_119 : decode cX5_counted 119 = .ok (.iastore, 1) := by decide +kernel
theorem dX5_counted_120 : decode cX5_counted 120 = .ok (.dup, 1) := by decide +kernel
theorem dX5_counted_121 : decode cX5_counted 121 = .ok (.bipush 6, 2) := by decide +kernel
theorem dX5_counted_123 : decode cX5_counted 123 = .ok (.aload_n 1, 1) := by decide +kernel
theorem dX5_counted_124 : decode cX5_counted 124 = .ok (.iconst 1, 1) := by decide +kernel
theorem dX5_counted_125 : decode cX5_counted 125 = .ok (.iaload, 1) := by decide +kernel
theorem dX5_counted_126 : decode cX5_counted 126 = .ok (.iastore, 1) := by decide +kernel
theorem dX5_counted_127 : decode cX5_counted 127 = .ok (.dup, 1) := by decide +kernel
theorem dX5_counted_128 : decode cX5_counted 128 = .ok (.bipush 7, 2) := by decide +kernel
theorem dX5_counted_130 : decode cX5_counted 130 = .ok (.aload_n 1, 1) := by decide +kernel
theorem dX5_counted_131 : decode cX5_counted 131 = .ok (.iconst 2, 1) := by decide +kernel
theorem dX5_counted_132 : decode cX5_counted 132 = .ok (.iaload, 1) := by decide +kernel
theorem dX5_counted_133 : decode cX5_counted 133 = .ok (.iastore, 1) := by decide +kernel
theorem dX5_counted_134 : decode cX5_counted 134 = .ok (.dup, 1) := by decide +kernel
theorem dX5_counted_135 : decode cX5_counted 135 = .ok (.bipush 8, 2) := by decide +kernel
theorem dX5_counted_137 : decode cX5_counted 137 = .ok (.aload_n 1, 1) := by decide +kernel
theorem dX5_counted_138 : decode cX5_counted 138 = .ok (.iconst 3, 1) := by decide +kernel
theorem dX5_counted_139 : decode cX5_counted 139 = .ok (.iaload, 1) := by decide +kernel
theorem dX5_counted_140 : decode cX5_counted 140 = .ok (.iastore, 1) := by decide +kernel
theorem dX5_counted_141 : decode cX5_counted 141 = .ok (.astore 5, 2) := by decide +kernel
theorem dX5_counted_143 : decode cX5_counted 143 = .ok (.aload 5, 2) := by decide +kernel
theorem dX5_counted_145 : decode cX5_counted 145 = .ok (.iload_n 2, 1) := by decide +kernel
theorem dX5_counted_146 : decode cX5_counted 146 = .ok (.iaload, 1) := by decide +kernel
theorem dX5_counted_147 : decode cX5_counted 147 = .ok (.ireturn, 1) := by decide +kernel
set_option maxRecDepth 20000 in
theorem ggX5_count_X5_isIn : GoodIn wsX5_count wsX5_isIn := goodIn_r _ [6] (by decide +kernel) (by decide +kernel)
set_option maxRecDepth 20000 in
theorem gX5_count_X5_isIn : GoodIn wsX5_count (va_wsS RX5 44 yX5_isIn wsX5_isIn) := goodIn_app (goodIn_of _ (by decide +kernel)) ggX5_count_X5_isIn
set_option maxRecDepth 20000 in
theorem ggX5_count_X5_counted : GoodIn wsX5_count wsX5_counted := goodIn_r _ [10, 11, 12, 13, 14, 15, 16, 17, 5, 18, 19, 20, 21, 22, 23, 24, 3, 4, 6, 25, 26, 27, 28, 29, 30, 31, 32, 33, 34, 35, 36, 37, 38, 39, 44, 45, 46, 47, 48, 49, 50, 51, 52, 53, 54, 55, 56] (by decide +kernel) (by decide +kernel)
set_option maxRecDepth 20000 in
theorem gX5_count_X5_counted : GoodIn wsX5_count (wsV RX5 109 RX5 yX5_counted wsX5_counted) := goodIn_app (goodIn_of _ (by decide +kernel)) ggX5_count_X5_counted
set_option maxRecDepth 20000 in
theorem ggX5_count_X5_no : GoodIn wsX5_count wsX5_no := goodIn_r _ [43, 1, 44, 45, 46, 47, 48, 49, 50, 51, 52, 53, 54, 55, 56] (by decide +kernel) (by decide +kernel)
set_option maxRecDepth 20000 in
theorem gX5_count_X5_no : GoodIn wsX5_count (wsV RX5 51 RX5 yX5_no wsX5_no) := goodIn_app (goodIn_of _ (by decide +kernel)) ggX5_count_X5_no
theorem dX5_count_0 : decode cX5_count 0 = .ok (.aload_n 0, 1) := by decide +kernel
theorem dX5_count_1 : decode cX5_count 1 = .ok (.iconst 0, 1) := by decide +kernel
theorem dX5_count_2 : decode cX5_count 2 = .ok (.putfield 37, 3) := by decide +kernel
theorem dX5_count_5 : decode cX5_count 5 = .ok (.iload_n 1, 1) := by decide +kernel
theorem dX5_count_6 : decode cX5_count 6 = .ok (.iconst 0, 1) := by decide +kernel
theorem dX5_count_7 : decode cX5_count 7 = .ok (.bipush 8, 2) := by decide +kernel
theorem dX5_count_9 : decode cX5_count 9 = .ok (.invokestatic 44, 3) := by decide +kernel
theorem dX5_count_12 : decode cX5_count 12 = .ok (.ifCond .eq 15, 3) := by decide +kernel
theorem dX5_count_15 : decode cX5_count 15 = .ok (.aload_n 0, 1) := by decide +kernel
theorem dX5_count_16 : decode cX5_count 16 = .ok (.aload_n 0, 1) := by decide +kernel
theorem dX5_count_17 : decode cX5_count 17 = .ok (.getfield 34, 3) := by decide +kernel
theorem dX5_count_20 : decode cX5_count 20 = .ok (.iload_n 1, 1) := by decide +kernel
theorem dX5_count_21 : decode cX5_count 21 = .ok (.invokevirtual 109, 3) := by decide +kernel
theorem dX5_count_24 : decode cX5_count 24 = .ok (.goto 8, 3) := by decide +kernel
theorem dX5_count_27 : decode cX5_count 27 = .ok (.aload_n 0, 1) := by decide +kernel
theorem dX5_count_28 : decode cX5_count 28 = .ok (.iconst 1, 1) := by decide +kernel
theorem dX5_count_29 : decode cX5_count 29 = .ok (.invokevirtual 51, 3) := by decide +kernel
theorem dX5_count_32 : decode cX5_count 32 = .ok (.ireturn, 1) := by decide +kernel
set_option maxRecDepth 20000 in
theorem ggX5_pass_X5_goes : GoodIn wsX5_pass wsX5_goes := goodIn_r _ [8, 9, 10, 11, 7, 12, 13, 14, 15, 16, 17, 18, 19, 20, 21, 22, 53, 54, 55, 56, 57, 58, 59, 60, 61, 62, 63, 64, 65] (by decide +kernel) (by decide +kernel)
set_option maxRecDepth 20000 in
theorem gX5_pass_X5_goes : GoodIn wsX5_pass (wsV RX5 85 RX5 yX5_goes wsX5_goes) := goodIn_app (goodIn_of _ (by decide +kernel)) ggX5_pass_X5_goes
set_option maxRecDepth 20000 in
theorem ggX5_pass_X5_joyOf : GoodIn wsX5_pass wsX5_joyOf := goodIn_r _ [26, 13, 27, 28, 29, 30, 4, 5, 6, 7, 8, 9, 10, 11, 12, 14, 15, 16, 17, 18, 19, 20, 21, 22, 31, 32, 33, 34, 35, 36, 37, 38, 39, 40, 41, 42, 43, 1, 2, 44, 45, 46, 47, 53, 54, 55, 56, 57, 58, 59, 60, 61, 62, 63, 64, 65] (by decide +kernel) (by decide +kernel)
set_option maxRecDepth 20000 in
theorem gX5_pass_X5_joyOf : GoodIn wsX5_pass (wsV RX5 97 RX5 yX5_joyOf wsX5_joyOf) := goodIn_app (goodIn_of _ (by decide +kernel)) ggX5_pass_X5_joyOf
set_option maxRecDepth 20000 in
theorem ggX5_pass_X5_stingsOf : GoodIn wsX5_pass wsX5_stingsOf := goodIn_r _ [51, 13, 2, 52, 4, 5, 6, 7, 8, 9, 10, 11, 12, 14, 15, 16, 17, 18, 19, 20, 21, 22, 31, 32, 33, 34, 35, 36, 37, 38, 29, 39, 53, 54, 55, 56, 57, 58, 59, 60, 61, 62, 63, 64, 65] (by decide +kernel) (by decide +kernel)
set_option maxRecDepth 20000 in
theorem gX5_pass_X5_stingsOf : GoodIn wsX5_pass (wsV RX5 100 RX5 yX5_stingsOf wsX5_stingsOf) := goodIn_app (goodIn_of _ (by decide +kernel)) ggX5_pass_X5_stingsOf
theorem dX5_pass_0 : decode cX5_pass 0 = .ok (.iconst 0, 1) := by decide +kernel
theorem dX5_pass_1 : decode cX5_pass 1 = .ok (.istore_n 2, 1) := by decide +kernel
theorem dX5_pass_2 : decode cX5_pass 2 = .ok (.iload_n 2, 1) := by decide +kernel
theorem dX5_pass_3 : decode cX5_pass 3 = .ok (.aload_n 0, 1) := by decide +kernel
theorem dX5_pass_4 : decode cX5_pass 4 = .ok (.getfield 48, 3) := by decide +kernel
theorem dX5_pass_7 : decode cX5_pass 7 = .ok (.if_icmp .ge 89, 3) := by decide +kernel
theorem dX5_pass_10 : decode cX5_pass 10 = .ok (.aload_n 0, 1) := by decide +kernel
theorem dX5_pass_11 : decode cX5_pass 11 = .ok (.iload_n 2, 1) := by decide +kernel
theorem dX5_pass_12 : decode cX5_pass 12 = .ok (.invokevirtual 85, 3) := by decide +kernel
theorem dX5_pass_15 : decode cX5_pass 15 = .ok (.ifCond .ne 6, 3) := by decide +kernel
theorem dX5_pass_18 : decode cX5_pass 18 = .ok (.goto 72, 3) := by decide +kernel
theorem dX5_pass_21 : decode cX5_pass 21 = .ok (.aload_n 0, 1) := by decide +kernel
theorem dX5_pass_22 : decode cX5_pass 22 = .ok (.iload_n 2, 1) := by decide +kernel
theorem dX5_pass_23 : decode cX5_pass 23 = .ok (.aload_n 1, 1) := by decide +kernel
theorem dX5_pass_24 : decode cX5_pass 24 = .ok (.iconst 0, 1) := by decide +kernel
theorem dX5_pass_25 : decode cX5_pass 25 = .ok (.iaload, 1) := by decide +kernel
theorem dX5_pass_26 : decode cX5_pass 26 = .ok (.invokevirtual 97, 3) := by decide +kernel
theorem dX5_pass_29 : decode cX5_pass 29 = .ok (.istore_n 3, 1) := by decide +kernel
theorem dX5_pass_30 : decode cX5_pass 30 = .ok (.aload_n 1, 1) := by decide +kernel
theorem dX5_pass_31 : decode cX5_pass 31 = .ok (.iconst 1, 1) := by decide +kernel
theorem dX5_pass_32 : decode cX5_pass 32 = .ok (.dup2, 1) := by decide +kernel
theorem dX5_pass_33 : decode cX5_pass 33 = .ok (.iaload, 1) := by decide +kernel
theorem dX5_pass_34 : decode cX5_pass 34 = .ok (.iload_n 3, 1) := by decide +kernel
theorem dX5_pass_35 : decode cX5_pass 35 = .ok (.aload_n 0, 1) := by decide +kernel
theorem dX5_pass_36 : decode cX5_pass 36 = .ok (.getfield 25, 3) := by decide +kernel
theorem dX5_pass_39 : decode cX5_pass 39 = .ok (.iload_n 2, 1) := by decide +kernel
theorem dX5_pass_40 : decode cX5_pass 40 = .ok (.iaload, 1) := by decide +kernel
theorem dX5_pass_41 : decode cX5_pass 41 = .ok (.imul, 1) := by decide +kernel
theorem dX5_pass_42 : decode cX5_pass 42 = .ok (.bipush 100, 2) := by decide +kernel
theorem dX5_pass_44 : decode cX5_pass 44 = .ok (.idiv, 1) := by decide +kernel
theorem dX5_pass_45 : decode cX5_pass 45 = .ok (.aload_n 0, 1) := by decide +kernel
theorem dX5_pass_46 : decode cX5_pass 46 = .ok (.getfield 25, 3) := by decide +kernel
theorem dX5_pass_49 : decode cX5_pass 49 = .ok (.iload_n 2, 1) := by decide +kernel
theorem dX5_pass_50 : decode cX5_pass 50 = .ok (.iaload, 1) := by decide +kernel
theorem dX5_pass_51 : decode cX5_pass 51 = .ok (.aload_n 0, 1) := by decide +kernel
theorem dX5_pass_52 : decode cX5_pass 52 = .ok (.getfield 22, 3) := by decide +kernel
theorem dX5_pass_55 : decode cX5_pass 55 = .ok (.aload_n 1, 1) := by decide +kernel
theorem dX5_pass_56 : decode cX5_pass 56 = .ok (.iconst 0, 1) := by decide +kernel
theorem dX5_pass_57 : decode cX5_pass 57 = .ok (.iaload, 1) := by decide +kernel
theorem dX5_pass_58 : decode cX5_pass 58 = .ok (.bipush 10, 2) := by decide +kernel
theorem dX5_pass_60 : decode cX5_pass 60 = .ok (.irem, 1) := by decide +kernel
theorem dX5_pass_61 : decode cX5_pass 61 = .ok (.iaload, 1) := by decide +kernel
theorem dX5_pass_62 : decode cX5_pass 62 = .ok (.imul, 1) := by decide +kernel
theorem dX5_pass_63 : decode cX5_pass 63 = .ok (.bipush 40, 2) := by decide +kernel
theorem dX5_pass_65 : decode cX5_pass 65 = .ok (.idiv, 1) := by decide +kernel
theorem dX5_pass_66 : decode cX5_pass 66 = .ok (.iadd, 1) := by decide +kernel
theorem dX5_pass_67 : decode cX5_pass 67 = .ok (.iadd, 1) := by decide +kernel
theorem dX5_pass_68 : decode cX5_pass 68 = .ok (.iastore, 1) := by decide +kernel
theorem dX5_pass_69 : decode cX5_pass 69 = .ok (.aload_n 1, 1) := by decide +kernel
theorem dX5_pass_70 : decode cX5_pass 70 = .ok (.iconst 2, 1) := by decide +kernel
theorem dX5_pass_71 : decode cX5_pass 71 = .ok (.dup2, 1) := by decide +kernel
theorem dX5_pass_72 : decode cX5_pass 72 = .ok (.iaload, 1) := by decide +kernel
theorem dX5_pass_73 : decode cX5_pass 73 = .ok (.iload_n 3, 1) := by decide +kernel
theorem dX5_pass_74 : decode cX5_pass 74 = .ok (.iadd, 1) := by decide +kernel
theorem dX5_pass_75 : decode cX5_pass 75 = .ok (.iastore, 1) := by decide +kernel
theorem dX5_pass_76 : decode cX5_pass 76 = .ok (.aload_n 1, 1) := by decide +kernel
theorem dX5_pass_77 : decode cX5_pass 77 = .ok (.iconst 3, 1) := by decide +kernel
theorem dX5_pass_78 : decode cX5_pass 78 = .ok (.dup2, 1) := by decide +kernel
theorem dX5_pass_79 : decode cX5_pass 79 = .ok (.iaload, 1) := by decide +kernel
theorem dX5_pass_80 : decode cX5_pass 80 = .ok (.aload_n 0, 1) := by decide +kernel
theorem dX5_pass_81 : decode cX5_pass 81 = .ok (.iload_n 2, 1) := by decide +kernel
theorem dX5_pass_82 : decode cX5_pass 82 = .ok (.aload_n 1, 1) := by decide +kernel
theorem dX5_pass_83 : decode cX5_pass 83 = .ok (.iconst 0, 1) := by decide +kernel
theorem dX5_pass_84 : decode cX5_pass 84 = .ok (.iaload, 1) := by decide +kernel
theorem dX5_pass_85 : decode cX5_pass 85 = .ok (.invokevirtual 100, 3) := by decide +kernel
theorem dX5_pass_88 : decode cX5_pass 88 = .ok (.iadd, 1) := by decide +kernel
theorem dX5_pass_89 : decode cX5_pass 89 = .ok (.iastore, 1) := by decide +kernel
theorem dX5_pass_90 : decode cX5_pass 90 = .ok (.iinc 2 1, 3) := by decide +kernel
theorem dX5_pass_93 : decode cX5_pass 93 = .ok (.goto (-91), 3) := by decide +kernel
theorem dX5_pass_96 : decode cX5_pass 96 = .ok (.aload_n 1, 1) := by decide +kernel
theorem dX5_pass_97 : decode cX5_pass 97 = .ok (.iconst 0, 1) := by decide +kernel
theorem dX5_pass_98 : decode cX5_pass 98 = .ok (.dup2, 1) := by decide +kernel
theorem dX5_pass_99 : decode cX5_pass 99 = .ok (.iaload, 1) := by decide +kernel
theorem dX5_pass_100 : decode cX5_pass 100 = .ok (.iconst 1, 1) := by decide +kernel
theorem dX5_pass_101 : decode cX5_pass 101 = .ok (.iadd, 1) := by decide +kernel
theorem dX5_pass_102 : decode cX5_pass 102 = .ok (.iastore, 1) := by decide +kernel
theorem dX5_pass_103 : decode cX5_pass 103 = .ok (.return_, 1) := by decide +kernel
set_option maxRecDepth 20000 in
theorem ggX5_pass__X5_isIn : GoodIn wsX5_pass_ wsX5_isIn := goodIn_r _ [6] (by decide +kernel) (by decide +kernel)
set_option maxRecDepth 20000 in
theorem gX5_pass__X5_isIn : GoodIn wsX5_pass_ (va_wsS RX5 44 yX5_isIn wsX5_isIn) := goodIn_app (goodIn_of _ (by decide +kernel)) ggX5_pass__X5_isIn
set_option maxRecDepth 20000 in
theorem ggX5_pass__X5_no : GoodIn wsX5_pass_ wsX5_no := goodIn_r _ [10, 1, 63, 64, 65, 66, 67, 68, 69, 70, 71, 72, 73, 74, 75] (by decide +kernel) (by decide +kernel)
set_option maxRecDepth 20000 in
theorem gX5_pass__X5_no : GoodIn wsX5_pass_ (wsV RX5 51 RX5 yX5_no wsX5_no) := goodIn_app (goodIn_of _ (by decide +kernel)) ggX5_pass__X5_no
set_option maxRecDepth 20000 in
theorem ggX5_pass__X5_pass : GoodIn wsX5_pass_ wsX5_pass := goodIn_r _ [14, 15, 16, 17, 18, 19, 20, 5, 21, 22, 23, 24, 25, 26, 27, 28, 29, 30, 31, 32, 3, 4, 6, 33, 34, 35, 36, 37, 38, 39, 40, 41, 42, 43, 44, 45, 46, 47, 48, 49, 50, 51, 52, 53, 54, 55, 56, 57, 58, 59, 60, 61, 62, 63, 64, 65, 66, 67, 68, 69, 70, 71, 72, 73, 74, 75] (by decide +kernel) (by decide +kernel)
set_option maxRecDepth 20000 in
theorem gX5_pass__X5_pass : GoodIn wsX5_pass_ (wsV RX5 113 RX5 yX5_pass wsX5_pass) := goodIn_app (goodIn_of _ (by decide +kernel)) ggX5_pass__X5_pass
theorem dX5_pass__0 : decode cX5_pass_ 0 = .ok (.aload_n 0, 1) := by decide +kernel
theorem dX5_pass__1 : decode cX5_pass_ 1 = .ok (.iconst 0, 1) := by decide +kernel
theorem dX5_pass__2 : decode cX5_pass_ 2 = .ok (.putfield 37, 3) := by decide +kernel
theorem dX5_pass__5 : decode cX5_pass_ 5 = .ok (.iload_n 1, 1) := by decide +kernel
theorem dX5_pass__6 : decode cX5_pass_ 6 = .ok (.iconst 1, 1) := by decide +kernel
theorem dX5_pass__7 : decode cX5_pass_ 7 = .ok (.bipush 60, 2) := by decide +kernel
theorem dX5_pass__9 : decode cX5_pass_ 9 = .ok (.invokestatic 44, 3) := by decide +kernel
theorem dX5_pass__12 : decode cX5_pass_ 12 = .ok (.ifCond .ne 9, 3) := by decide +kernel
theorem dX5_pass__15 : decode cX5_pass_ 15 = .ok (.aload_n 0, 1) := by decide +kernel
theorem dX5_pass__16 : decode cX5_pass_ 16 = .ok (.iconst 1, 1) := by decide +kernel
theorem dX5_pass__17 : decode cX5_pass_ 17 = .ok (.invokevirtual 51, 3) := by decide +kernel
theorem dX5_pass__20 : decode cX5_pass_ 20 = .ok (.ireturn, 1) := by decide +kernel
theorem dX5_pass__21 : decode cX5_pass_ 21 = .ok (.aload_n 0, 1) := by decide +kernel
theorem dX5_pass__22 : decode cX5_pass_ 22 = .ok (.getfield 34, 3) := by decide +kernel
theorem dX5_pass__25 : decode cX5_pass_ 25 = .ok (.iconst 1, 1) := by decide +kernel
theorem dX5_pass__26 : decode cX5_pass_ 26 = .ok (.iaload, 1) := by decide +kernel
theorem dX5_pass__27 : decode cX5_pass_ 27 = .ok (.istore_n 2, 1) := by decide +kernel
theorem dX5_pass__28 : decode cX5_pass_ 28 = .ok (.iconst 0, 1) := by decide +kernel
theorem dX5_pass__29 : decode cX5_pass_ 29 = .ok (.istore_n 3, 1) := by decide +kernel
theorem dX5_pass__30 : decode cX5_pass_ 30 = .ok (.iload_n 3, 1) := by decide +kernel
theorem dX5_pass__31 : decode cX5_pass_ 31 = .ok (.iload_n 1, 1) := by decide +kernel
theorem dX5_pass__32 : decode cX5_pass_ 32 = .ok (.if_icmp .ge 17, 3) := by decide +kernel
theorem dX5_pass__35 : decode cX5_pass_ 35 = .ok (.aload_n 0, 1) := by decide +kernel
theorem dX5_pass__36 : decode cX5_pass_ 36 = .ok (.aload_n 0, 1) := by decide +kernel
theorem dX5_pass__37 : decode cX5_pass_ 37 = .ok (.getfield 34, 3) := by decide +kernel
theorem dX5_pass__40 : decode cX5_pass_ 40 = .ok (.invokevirtual 113, 3) := by decide +kernel
theorem dX5_pass__43 : decode cX5_pass_ 43 = .ok (.iinc 3 1, 3) := by decide +kernel
theorem dX5_pass__46 : decode cX5_pass_ 46 = .ok (.goto (-16), 3) := by decide +kernel
theorem dX5_pass__49 : decode cX5_pass_ 49 = .ok (.aload_n 0, 1) := by decide +kernel
theorem dX5_pass__50 : decode cX5_pass_ 50 = .ok (.getfield 34, 3) := by decide +kernel
theorem dX5_pass__53 : decode cX5_pass_ 53 = .ok (.iconst 1, 1) := by decide +kernel
theorem dX5_pass__54 : decode cX5_pass_ 54 = .ok (.iaload, 1) := by decide +kernel
theorem dX5_pass__55 : decode cX5_pass_ 55 = .ok (.iload_n 2, 1) := by decide +kernel
theorem dX5_pass__56 : decode cX5_pass_ 56 = .ok (.isub, 1) := by decide +kernel
theorem dX5_pass__57 : decode cX5_pass_ 57 = .ok (.ireturn, 1) := by decide +kernel
set_option maxRecDepth 20000 in
theorem ggX5_joy_X5_isTour : GoodIn wsX5_joy wsX5_isTour := goodIn_r _ [6, 7, 8, 9, 5, 10, 56, 57, 58, 59, 60, 61, 62, 63, 64, 65, 66, 67, 68] (by decide +kernel) (by decide +kernel)
set_option maxRecDepth 20000 in
theorem gX5_joy_X5_isTour : GoodIn wsX5_joy (wsV RX5 94 RX5 yX5_isTour wsX5_isTour) := goodIn_app (goodIn_of _ (by decide +kernel)) ggX5_joy_X5_isTour
set_option maxRecDepth 20000 in
theorem ggX5_joy_X5_no : GoodIn wsX5_joy wsX5_no := goodIn_r _ [14, 1, 56, 57, 58, 59, 60, 61, 62, 63, 64, 65, 66, 67, 68] (by decide +kernel) (by decide +kernel)
set_option maxRecDepth 20000 in
theorem gX5_joy_X5_no : GoodIn wsX5_joy (wsV RX5 51 RX5 yX5_no wsX5_no) := goodIn_app (goodIn_of _ (by decide +kernel)) ggX5_joy_X5_no
set_option maxRecDepth 20000 in
theorem ggX5_joy_X5_joyOf : GoodIn wsX5_joy wsX5_joyOf := goodIn_r _ [18, 19, 20, 21, 22, 23, 24, 25, 26, 5, 27, 28, 29, 30, 31, 32, 33, 34, 35, 36, 37, 8, 9, 10, 38, 39, 40, 41, 42, 43, 44, 45, 46, 47, 48, 49, 50, 7, 51, 52, 53, 54, 55, 56, 57, 58, 59, 60, 61, 62, 63, 64, 65, 66, 67, 68] (by decide +kernel) (by decide +kernel)
set_option maxRecDepth 20000 in
theorem gX5_joy_X5_joyOf : GoodIn wsX5_joy (wsV RX5 97 RX5 yX5_joyOf wsX5_joyOf) := goodIn_app (goodIn_of _ (by decide +kernel)) ggX5_joy_X5_joyOf
theorem dX5_joy_0 : decode cX5_joy 0 = .ok (.aload_n 0, 1) := by decide +kernel
theorem dX5_joy_1 : decode cX5_joy 1 = .ok (.iconst 0, 1) := by decide +kernel
theorem dX5_joy_2 : decode cX5_joy 2 = .ok (.putfield 37, 3) := by decide +kernel
theorem dX5_joy_5 : decode cX5_joy 5 = .ok (.aload_n 0, 1) := by decide +kernel
theorem dX5_joy_6 : decode cX5_joy 6 = .ok (.iload_n 1, 1) := by decide +kernel
theorem dX5_joy_7 : decode cX5_joy 7 = .ok (.invokevirtual 94, 3) := by decide +kernel
theorem dX5_joy_10 : decode cX5_joy 10 = .ok (.ifCond .ne 9, 3) := by decide +kernel
theorem dX5_joy_13 : decode cX5_joy 13 = .ok (.aload_n 0, 1) := by decide +kernel
theorem dX5_joy_14 : decode cX5_joy 14 = .ok (.iconst 1, 1) := by decide +kernel
theorem dX5_joy_15 : decode cX5_joy 15 = .ok (.invokevirtual 51, 3) := by decide +kernel
theorem dX5_joy_18 : decode cX5_joy 18 = .ok (.ireturn, 1) := by decide +kernel
theorem dX5_joy_19 : decode cX5_joy 19 = .ok (.iload_n 2, 1) := by decide +kernel
theorem dX5_joy_20 : decode cX5_joy 20 = .ok (.ifCond .ge 11, 3) := by decide +kernel
theorem dX5_joy_23 : decode cX5_joy 23 = .ok (.aload_n 0, 1) := by decide +kernel
theorem dX5_joy_24 : decode cX5_joy 24 = .ok (.iconst 2, 1) := by decide +kernel
theorem dX5_joy_25 : decode cX5_joy 25 = .ok (.invokevirtual 51, 3) := by decide +kernel
theorem dX5_joy_28 : decode cX5_joy 28 = .ok (.goto 9, 3) := by decide +kernel
theorem dX5_joy_31 : decode cX5_joy 31 = .ok (.aload_n 0, 1) := by decide +kernel
theorem dX5_joy_32 : decode cX5_joy 32 = .ok (.iload_n 1, 1) := by decide +kernel
theorem dX5_joy_33 : decode cX5_joy 33 = .ok (.iload_n 2, 1) := by decide +kernel
theorem dX5_joy_34 : decode cX5_joy 34 = .ok (.invokevirtual 97, 3) := by decide +kernel
theorem dX5_joy_37 : decode cX5_joy 37 = .ok (.ireturn, 1) := by decide +kernel
set_option maxRecDepth 20000 in
theorem ggX5_best_X5_isTour : GoodIn wsX5_best wsX5_isTour := goodIn_r _ [7, 8, 9, 10, 6, 11, 57, 58, 59, 60, 61, 62, 63, 64, 65, 66, 67, 68, 69] (by decide +kernel) (by decide +kernel)
set_option maxRecDepth 20000 in
theorem gX5_best_X5_isTour : GoodIn wsX5_best (wsV RX5 94 RX5 yX5_isTour wsX5_isTour) := goodIn_app (goodIn_of _ (by decide +kernel)) ggX5_best_X5_isTour
set_option maxRecDepth 20000 in
theorem ggX5_best_X5_no : GoodIn wsX5_best wsX5_no := goodIn_r _ [15, 1, 57, 58, 59, 60, 61, 62, 63, 64, 65, 66, 67, 68, 69] (by decide +kernel) (by decide +kernel)
set_option maxRecDepth 20000 in
theorem gX5_best_X5_no : GoodIn wsX5_best (wsV RX5 51 RX5 yX5_no wsX5_no) := goodIn_app (goodIn_of _ (by decide +kernel)) ggX5_best_X5_no
set_option maxRecDepth 20000 in
theorem ggX5_best_X5_joyOf : GoodIn wsX5_best wsX5_joyOf := goodIn_r _ [19, 20, 21, 22, 23, 24, 25, 26, 27, 6, 28, 29, 30, 31, 32, 33, 34, 35, 36, 37, 38, 9, 10, 11, 39, 40, 41, 42, 43, 44, 45, 46, 47, 48, 49, 50, 51, 8, 52, 53, 54, 55, 56, 57, 58, 59, 60, 61, 62, 63, 64, 65, 66, 67, 68, 69] (by decide +kernel) (by decide +kernel)
set_option maxRecDepth 20000 in
theorem gX5_best_X5_joyOf : GoodIn wsX5_best (wsV RX5 97 RX5 yX5_joyOf wsX5_joyOf) := goodIn_app (goodIn_of _ (by decide +kernel)) ggX5_best_X5_joyOf
theorem dX5_best_0 : decode cX5_best 0 = .ok (.aload_n 0, 1) := by decide +kernel
theorem dX5_best_1 : decode cX5_best 1 = .ok (.iconst 0, 1) := by decide +kernel
theorem dX5_best_2 : decode cX5_best 2 = .ok (.putfield 37, 3) := by decide +kernel
theorem dX5_best_5 : decode cX5_best 5 = .ok (.aload_n 0, 1) := by decide +kernel
theorem dX5_best_6 : decode cX5_best 6 = .ok (.iload_n 1, 1) := by decide +kernel
theorem dX5_best_7 : decode cX5_best 7 = .ok (.invokevirtual 94, 3) := by decide +kernel
theorem dX5_best_10 : decode cX5_best 10 = .ok (.ifCond .ne 9, 3) := by decide +kernel
theorem dX5_best_13 : decode cX5_best 13 = .ok (.aload_n 0, 1) := by decide +kernel
theorem dX5_best_14 : decode cX5_best 14 = .ok (.iconst 1, 1) := by decide +kernel
theorem dX5_best_15 : decode cX5_best 15 = .ok (.invokevirtual 51, 3) := by decide +kernel
theorem dX5_best_18 : decode cX5_best 18 = .ok (.ireturn, 1) := by decide +kernel
theorem dX5_best_19 : decode cX5_best 19 = .ok (.iconst (-1), 1) := by decide +kernel
theorem dX5_best_20 : decode cX5_best 20 = .ok (.istore_n 2, 1) := by decide +kernel
theorem dX5_best_21 : decode cX5_best 21 = .ok (.iconst 0, 1) := by decide +kernel
theorem dX5_best_22 : decode cX5_best 22 = .ok (.istore_n 3, 1) := by decide +kernel
theorem dX5_best_23 : decode cX5_best 23 = .ok (.aload_n 0, 1) := by decide +kernel
theorem dX5_best_24 : decode cX5_best 24 = .ok (.getfield 34, 3) := by decide +kernel
theorem dX5_best_27 : decode cX5_best 27 = .ok (.iconst 0, 1) := by decide +kernel
theorem dX5_best_28 : decode cX5_best 28 = .ok (.iaload, 1) := by decide +kernel
theorem dX5_best_29 : decode cX5_best 29 = .ok (.istore 4, 2) := by decide +kernel
theorem dX5_best_31 : decode cX5_best 31 = .ok (.iload 4, 2) := by decide +kernel
theorem dX5_best_33 : decode cX5_best 33 = .ok (.aload_n 0, 1) := by decide +kernel
theorem dX5_best_34 : decode cX5_best 34 = .ok (.getfield 34, 3) := by decide +kernel
theorem dX5_best_37 : decode cX5_best 37 = .ok (.iconst 0, 1) := by decide +kernel
theorem dX5_best_38 : decode cX5_best 38 = .ok (.iaload, 1) := by decide +kernel
theorem dX5_best_39 : decode cX5_best 39 = .ok (.bipush 120, 2) := by decide +kernel
theorem dX5_best_41 : decode cX5_best 41 = .ok (.iadd, 1) := by decide +kernel
theorem dX5_best_42 : decode cX5_best 42 = .ok (.if_icmp .ge 33, 3) := by decide +kernel
theorem dX5_best_45 : decode cX5_best 45 = .ok (.aload_n 0, 1) := by decide +kernel
theorem dX5_best_46 : decode cX5_best 46 = .ok (.iload_n 1, 1) := by decide +kernel
theorem dX5_best_47 : decode cX5_best 47 = .ok (.iload 4, 2) := by decide +kernel
theorem dX5_best_49 : decode cX5_best 49 = .ok (.invokevirtual 97, 3) := by decide +kernel
theorem dX5_best_52 : decode cX5_best 52 = .ok (.istore 5, 2) := by decide +kernel
theorem dX5_best_54 : decode cX5_best 54 = .ok (.iload 5, 2) := by decide +kernel
theorem dX5_best_56 : decode cX5_best 56 = .ok (.iload_n 3, 1) := by decide +kernel
theorem dX5_best_57 : decode cX5_best 57 = .ok (.if_icmp .gt 6, 3) := by decide +kernel
theorem dX5_best_60 : decode cX5_best 60 = .ok (.goto 9, 3) := by decide +kernel
theorem dX5_best_63 : decode cX5_best 63 = .ok (.iload 5, 2) := by decide +kernel
theorem dX5_best_65 : decode cX5_best 65 = .ok (.istore_n 3, 1) := by decide +kernel
theorem dX5_best_66 : decode cX5_best 66 = .ok (.iload 4, 2) := by decide +kernel
theorem dX5_best_68 : decode cX5_best 68 = .ok (.istore_n 2, 1) := by decide +kernel
