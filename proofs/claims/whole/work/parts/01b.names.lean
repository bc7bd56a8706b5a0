theorem dX0_init_0 : decode cX0_init 0 = .ok (.aload_n 0, 1) := by decide +kernel
theorem dX0_init_1 : decode cX0_init 1 = .ok (.invokespecial 1, 3) := by decide +kernel
theorem dX0_init_4 : decode cX0_init 4 = .ok (.return_, 1) := by decide +kernel
theorem dX0_copyFrom_0 : decode cX0_copyFrom 0 = .ok (.aload_n 0, 1) := by decide +kernel
theorem dX0_copyFrom_1 : decode cX0_copyFrom 1 = .ok (.aload_n 1, 1) := by decide +kernel
theorem dX0_copyFrom_2 : decode cX0_copyFrom 2 = .ok (.getfield 7, 3) := by decide +kernel
theorem dX0_copyFrom_5 : decode cX0_copyFrom 5 = .ok (.putfield 7, 3) := by decide +kernel
theorem dX0_copyFrom_8 : decode cX0_copyFrom 8 = .ok (.aload_n 0, 1) := by decide +kernel
theorem dX0_copyFrom_9 : decode cX0_copyFrom 9 = .ok (.aload_n 1, 1) := by decide +kernel
theorem dX0_copyFrom_10 : decode cX0_copyFrom 10 = .ok (.getfield 13, 3) := by decide +kernel
theorem dX0_copyFrom_13 : decode cX0_copyFrom 13 = .ok (.putfield 13, 3) := by decide +kernel
theorem dX0_copyFrom_16 : decode cX0_copyFrom 16 = .ok (.aload_n 0, 1) := by decide +kernel
theorem dX0_copyFrom_17 : decode cX0_copyFrom 17 = .ok (.aload_n 1, 1) := by decide +kernel
theorem dX0_copyFrom_18 : decode cX0_copyFrom 18 = .ok (.getfield 16, 3) := by decide +kernel
theorem dX0_copyFrom_21 : decode cX0_copyFrom 21 = .ok (.putfield 16, 3) := by decide +kernel
theorem dX0_copyFrom_24 : decode cX0_copyFrom 24 = .ok (.return_, 1) := by decide +kernel
theorem dX1_init_0 : decode cX1_init 0 = .ok (.aload_n 0, 1) := by decide +kernel
theorem dX1_init_1 : decode cX1_init 1 = .ok (.invokespecial 3, 3) := by decide +kernel
theorem dX1_init_4 : decode cX1_init 4 = .ok (.aload_n 0, 1) := by decide +kernel
theorem dX1_init_5 : decode cX1_init 5 = .ok (.bipush 8, 2) := by decide +kernel
theorem dX1_init_7 : decode cX1_init 7 = .ok (.bipush 8, 2) := by decide +kernel
theorem dX1_init_9 : decode cX1_init 9 = .ok (.multianewarray 9 2, 4) := by decide +kernel
theorem dX1_init_13 : decode cX1_init 13 = .ok (.putfield 11, 3) := by decide +kernel
theorem dX1_init_16 : decode cX1_init 16 = .ok (.iconst 0, 1) := by decide +kernel
theorem dX1_init_17 : decode cX1_init 17 = .ok (.istore_n 1, 1) := by decide +kernel
theorem dX1_init_18 : decode cX1_init 18 = .ok (.iload_n 1, 1) := by decide +kernel
theorem dX1_init_19 : decode cX1_init 19 = .ok (.bipush 8, 2) := by decide +kernel
theorem dX1_init_21 : decode cX1_init 21 = .ok (.if_icmp .ge 42, 3) := by decide +kernel
theorem dX1_init_24 : decode cX1_init 24 = .ok (.iconst 0, 1) := by decide +kernel
theorem dX1_init_25 : decode cX1_init 25 = .ok (.istore_n 2, 1) := by decide +kernel
theorem dX1_init_26 : decode cX1_init 26 = .ok (.iload_n 2, 1) := by decide +kernel
theorem dX1_init_27 : decode cX1_init 27 = .ok (.bipush 8, 2) := by decide +kernel
theorem dX1_init_29 : decode cX1_init 29 = .ok (.if_icmp .ge 28, 3) := by decide +kernel
theorem dX1_init_32 : decode cX1_init 32 = .ok (.aload_n 0, 1) := by decide +kernel
theorem dX1_init_33 : decode cX1_init 33 = .ok (.getfield 11, 3) := by decide +kernel
theorem dX1_init_36 : decode cX1_init 36 = .ok (.iload_n 1, 1) := by decide +kernel
theorem dX1_init_37 : decode cX1_init 37 = .ok (.aaload, 1) := by decide +kernel
theorem dX1_init_38 : decode cX1_init 38 = .ok (.iload_n 2, 1) := by decide +kernel
theorem dX1_init_39 : decode cX1_init 39 = .ok (.iload_n 1, 1) := by decide +kernel
theorem dX1_init_40 : decode cX1_init 40 = .ok (.iload_n 2, 1) := by decide +kernel
theorem dX1_init_41 : decode cX1_init 41 = .ok (.if_icmp .ne 7, 3) := by decide +kernel
theorem dX1_init_44 : decode cX1_init 44 = .ok (.iconst 0, 1) := by decide +kernel
theorem dX1_init_45 : decode cX1_init 45 = .ok (.goto 5, 3) := by decide +kernel
theorem dX1_init_48 : decode cX1_init 48 = .ok (.ldc 16, 2) := by decide +kernel
theorem dX1_init_50 : decode cX1_init 50 = .ok (.iastore, 1) := by decide +kernel
theorem dX1_init_51 : decode cX1_init 51 = .ok (.iinc 2 1, 3) := by decide +kernel
theorem dX1_init_54 : decode cX1_init 54 = .ok (.goto (-28), 3) := by decide +kernel
theorem dX1_init_57 : decode cX1_init 57 = .ok (.iinc 1 1, 3) := by decide +kernel
theorem dX1_init_60 : decode cX1_init 60 = .ok (.goto (-42), 3) := by decide +kernel
theorem dX1_init_63 : decode cX1_init 63 = .ok (.return_, 1) := by decide +kernel
set_option maxRecDepth 20000 in
theorem ggX1_minutesBetween_X1_isPlace : GoodIn wsX1_minutesBetween wsX1_isPlace := goodIn_r _ [6, 7, 8, 9] (by decide +kernel) (by decide +kernel)
set_option maxRecDepth 20000 in
theorem gX1_minutesBetween_X1_isPlace : GoodIn wsX1_minutesBetween (va_wsS RX1 17 yX1_isPlace wsX1_isPlace) := goodIn_app (goodIn_of _ (by decide +kernel)) ggX1_minutesBetween_X1_isPlace
theorem dX1_minutesBetween_0 : decode cX1_minutesBetween 0 = .ok (.iload_n 1, 1) := by decide +kernel
theorem dX1_minutesBetween_1 : decode cX1_minutesBetween 1 = .ok (.invokestatic 17, 3) := by decide +kernel
theorem dX1_minutesBetween_4 : decode cX1_minutesBetween 4 = .ok (.ifCond .eq 23, 3) := by decide +kernel
theorem dX1_minutesBetween_7 : decode cX1_minutesBetween 7 = .ok (.iload_n 2, 1) := by decide +kernel
theorem dX1_minutesBetween_8 : decode cX1_minutesBetween 8 = .ok (.invokestatic 17, 3) := by decide +kernel
theorem dX1_minutesBetween_11 : decode cX1_minutesBetween 11 = .ok (.ifCond .eq 16, 3) := by decide +kernel
theorem dX1_minutesBetween_14 : decode cX1_minutesBetween 14 = .ok (.aload_n 0, 1) := by decide +kernel
theorem dX1_minutesBetween_15 : decode cX1_minutesBetween 15 = .ok (.getfield 11, 3) := by decide +kernel
theorem dX1_minutesBetween_18 : decode cX1_minutesBetween 18 = .ok (.iload_n 1, 1) := by decide +kernel
theorem dX1_minutesBetween_19 : decode cX1_minutesBetween 19 = .ok (.aaload, 1) := by decide +kernel
theorem dX1_minutesBetween_20 : decode cX1_minutesBetween 20 = .ok (.iload_n 2, 1) := by decide +kernel
theorem dX1_minutesBetween_21 : decode cX1_minutesBetween 21 = .ok (.iaload, 1) := by decide +kernel
theorem dX1_minutesBetween_22 : decode cX1_minutesBetween 22 = .ok (.ldc 16, 2) := by decide +kernel
theorem dX1_minutesBetween_24 : decode cX1_minutesBetween 24 = .ok (.if_icmp .lt 5, 3) := by decide +kernel
theorem dX1_minutesBetween_27 : decode cX1_minutesBetween 27 = .ok (.iconst (-1), 1) := by decide +kernel
theorem dX1_minutesBetween_28 : decode cX1_minutesBetween 28 = .ok (.ireturn, 1) := by decide +kernel
theorem dX1_minutesBetween_29 : decode cX1_minutesBetween 29 = .ok (.aload_n 0, 1) := by decide +kernel
theorem dX1_minutesBetween_30 : decode cX1_minutesBetween 30 = .ok (.getfield 11, 3) := by decide +kernel
theorem dX1_minutesBetween_33 : decode cX1_minutesBetween 33 = .ok (.iload_n 1, 1) := by decide +kernel
theorem dX1_minutesBetween_34 : decode cX1_minutesBetween 34 = .ok (.aaload, 1) := by decide +kernel
theorem dX1_minutesBetween_35 : decode cX1_minutesBetween 35 = .ok (.iload_n 2, 1) := by decide +kernel
theorem dX1_minutesBetween_36 : decode cX1_minutesBetween 36 = .ok (.iaload, 1) := by decide +kernel
theorem dX1_minutesBetween_37 : decode cX1_minutesBetween 37 = .ok (.ireturn, 1) := by decide +kernel
set_option maxRecDepth 20000 in
theorem ggX1_lay_X1_isPlace : GoodIn wsX1_lay wsX1_isPlace := goodIn_r _ [10, 11, 12, 13] (by decide +kernel) (by decide +kernel)
set_option maxRecDepth 20000 in
theorem gX1_lay_X1_isPlace : GoodIn wsX1_lay (va_wsS RX1 17 yX1_isPlace wsX1_isPlace) := goodIn_app (goodIn_of _ (by decide +kernel)) ggX1_lay_X1_isPlace
theorem dX1_lay_0 : decode cX1_lay 0 = .ok (.iload_n 1, 1) := by decide +kernel
theorem dX1_lay_1 : decode cX1_lay 1 = .ok (.invokestatic 17, 3) := by decide +kernel
theorem dX1_lay_4 : decode cX1_lay 4 = .ok (.ifCond .eq 10, 3) := by decide +kernel
theorem dX1_lay_7 : decode cX1_lay 7 = .ok (.iload_n 2, 1) := by decide +kernel
theorem dX1_lay_8 : decode cX1_lay 8 = .ok (.invokestatic 17, 3) := by decide +kernel
theorem dX1_lay_11 : decode cX1_lay 11 = .ok (.ifCond .ne 4, 3) := by decide +kernel
theorem dX1_lay_14 : decode cX1_lay 14 = .ok (.return_, 1) := by decide +kernel
theorem dX1_lay_15 : decode cX1_lay 15 = .ok (.iconst 0, 1) := by decide +kernel
theorem dX1_lay_16 : decode cX1_lay 16 = .ok (.istore 4, 2) := by decide +kernel
theorem dX1_lay_18 : decode cX1_lay 18 = .ok (.iload 4, 2) := by decide +kernel
theorem dX1_lay_20 : decode cX1_lay 20 = .ok (.bipush 8, 2) := by decide +kernel
theorem dX1_lay_22 : decode cX1_lay 22 = .ok (.if_icmp .ge 101, 3) := by decide +kernel
theorem dX1_lay_25 : decode cX1_lay 25 = .ok (.iconst 0, 1) := by decide +kernel
theorem dX1_lay_26 : decode cX1_lay 26 = .ok (.istore 5, 2) := by decide +kernel
theorem dX1_lay_28 : decode cX1_lay 28 = .ok (.iload 5, 2) := by decide +kernel
theorem dX1_lay_30 : decode cX1_lay 30 = .ok (.bipush 8, 2) := by decide +kernel
theorem dX1_lay_32 : decode cX1_lay 32 = .ok (.if_icmp .ge 85, 3) := by decide +kernel
theorem dX1_lay_35 : decode cX1_lay 35 = .ok (.aload_n 0, 1) := by decide +kernel
theorem dX1_lay_36 : decode cX1_lay 36 = .ok (.getfield 11, 3) := by decide +kernel
theorem dX1_lay_39 : decode cX1_lay 39 = .ok (.iload 4, 2) := by decide +kernel
theorem dX1_lay_41 : decode cX1_lay 41 = .ok (.aaload, 1) := by decide +kernel
theorem dX1_lay_42 : decode cX1_lay 42 = .ok (.iload_n 1, 1) := by decide +kernel
theorem dX1_lay_43 : decode cX1_lay 43 = .ok (.iaload, 1) := by decide +kernel
theorem dX1_lay_44 : decode cX1_lay 44 = .ok (.iload_n 3, 1) := by decide +kernel
theorem dX1_lay_45 : decode cX1_lay 45 = .ok (.iadd, 1) := by decide +kernel
theorem dX1_lay_46 : decode cX1_lay 46 = .ok (.aload_n 0, 1) := by decide +kernel
theorem dX1_lay_47 : decode cX1_lay 47 = .ok (.getfield 11, 3) := by decide +kernel
theorem dX1_lay_50 : decode cX1_lay 50 = .ok (.iload_n 2, 1) := by decide +kernel
theorem dX1_lay_51 : decode cX1_lay 51 = .ok (.aaload, 1) := by decide +kernel
theorem dX1_lay_52 : decode cX1_lay 52 = .ok (.iload 5, 2) := by decide +kernel
theorem dX1_lay_54 : decode cX1_lay 54 = .ok (.iaload, 1) := by decide +kernel
theorem dX1_lay_55 : decode cX1_lay 55 = .ok (.iadd, 1) := by decide +kernel
theorem dX1_lay_56 : decode cX1_lay 56 = .ok (.istore 6, 2) := by decide +kernel
theorem dX1_lay_58 : decode cX1_lay 58 = .ok (.aload_n 0, 1) := by decide +kernel
theorem dX1_lay_59 : decode cX1_lay 59 = .ok (.getfield 11, 3) := by decide +kernel
theorem dX1_lay_62 : decode cX1_lay 62 = .ok (.iload 4, 2) := by decide +kernel
theorem dX1_lay_64 : decode cX1_lay 64 = .ok (.aaload, 1) := by decide +kernel
theorem dX1_lay_65 : decode cX1_lay 65 = .ok (.iload_n 2, 1) := by decide +kernel
theorem dX1_lay_66 : decode cX1_lay 66 = .ok (.iaload, 1) := by decide +kernel
theorem dX1_lay_67 : decode cX1_lay 67 = .ok (.iload_n 3, 1) := by decide +kernel
theorem dX1_lay_68 : decode cX1_lay 68 = .ok (.iadd, 1) := by decide +kernel
theorem dX1_lay_69 : decode cX1_lay 69 = .ok (.aload_n 0, 1) := by decide +kernel
theorem dX1_lay_70 : decode cX1_lay 70 = .ok (.getfield 11, 3) := by decide +kernel
theorem dX1_lay_73 : decode cX1_lay 73 = .ok (.iload_n 1, 1) := by decide +kernel
theorem dX1_lay_74 : decode cX1_lay 74 = .ok (.aaload, 1) := by decide +kernel
theorem dX1_lay_75 : decode cX1_lay 75 = .ok (.iload 5, 2) := by decide +kernel
theorem dX1_lay_77 : decode cX1_lay 77 = .ok (.iaload, 1) := by decide +kernel
theorem dX1_lay_78 : decode cX1_lay 78 = .ok (.iadd, 1) := by decide +kernel
theorem dX1_lay_79 : decode cX1_lay 79 = .ok (.istore 7, 2) := by decide +kernel
theorem dX1_lay_81 : decode cX1_lay 81 = .ok (.aload_n 0, 1) := by decide +kernel
theorem dX1_lay_82 : decode cX1_lay 82 = .ok (.getfield 11, 3) := by decide +kernel
theorem dX1_lay_85 : decode cX1_lay 85 = .ok (.iload 4, 2) := by decide +kernel
theorem dX1_lay_87 : decode cX1_lay 87 = .ok (.aaload, 1) := by decide +kernel
theorem dX1_lay_88 : decode cX1_lay 88 = .ok (.iload 5, 2) := by decide +kernel
theorem dX1_lay_90 : decode cX1_lay 90 = .ok (.aload_n 0, 1) := by decide +kernel
theorem dX1_lay_91 : decode cX1_lay 91 = .ok (.getfield 11, 3) := by decide +kernel
theorem dX1_lay_94 : decode cX1_lay 94 = .ok (.iload 4, 2) := by decide +kernel
theorem dX1_lay_96 : decode cX1_lay 96 = .ok (.aaload, 1) := by decide +kernel
theorem dX1_lay_97 : decode cX1_lay 97 = .ok (.iload 5, 2) := by decide +kernel
theorem dX1_lay_99 : decode cX1_lay 99 = .ok (.iaload, 1) := by decide +kernel
theorem dX1_lay_100 : decode cX1_lay 100 = .ok (.iload 6, 2) := by decide +kernel
theorem dX1_lay_102 : decode cX1_lay 102 = .ok (.iload 7, 2) := by decide +kernel
theorem dX1_lay_104 : decode cX1_lay 104 = .ok (.invokestatic 21, 3) := by decide +kernel
theorem dX1_lay_107 : decode cX1_lay 107 = .ok (.invokestatic 21, 3) := by decide +kernel
theorem dX1_lay_110 : decode cX1_lay 110 = .ok (.iastore, 1) := by decide +kernel
theorem dX1_lay_111 : decode cX1_lay 111 = .ok (.iinc 5 1, 3) := by decide +kernel
theorem dX1_lay_114 : decode cX1_lay 114 = .ok (.goto (-86), 3) := by decide +kernel
theorem dX1_lay_117 : decode cX1_lay 117 = .ok (.iinc 4 1, 3) := by decide +kernel
theorem dX1_lay_120 : decode cX1_lay 120 = .ok (.goto (-102), 3) := by decide +kernel
theorem dX1_lay_123 : decode cX1_lay 123 = .ok (.aload_n 0, 1) := by decide +kernel
theorem dX1_lay_124 : decode cX1_lay 124 = .ok (.dup, 1) := by decide +kernel
theorem dX1_lay_125 : decode cX1_lay 125 = .ok (.getfield 27, 3) := by decide +kernel
theorem dX1_lay_128 : decode cX1_lay 128 = .ok (.iconst 1, 1) := by decide +kernel
theorem dX1_lay_129 : decode cX1_lay 129 = .ok (.iadd, 1) := by decide +kernel
theorem dX1_lay_130 : decode cX1_lay 130 = .ok (.putfield 27, 3) := by decide +kernel
theorem dX1_lay_133 : decode cX1_lay 133 = .ok (.return_, 1) := by decide +kernel
set_option maxRecDepth 20000 in
theorem ggX1_isPlace_X4_isWithin : GoodIn wsX1_isPlace wsX4_isWithin := goodIn_r _ [3] (by decide +kernel) (by decide +kernel)
set_option maxRecDepth 20000 in
theorem gX1_isPlace_X4_isWithin_n31 : GoodIn wsX1_isPlace (wsX4_isWithin) := ggX1_isPlace_X4_isWithin
theorem dX1_isPlace_0 : decode cX1_isPlace 0 = .ok (.iload_n 0, 1) := by decide +kernel
theorem dX1_isPlace_1 : decode cX1_isPlace 1 = .ok (.iconst 0, 1) := by decide +kernel
theorem dX1_isPlace_2 : decode cX1_isPlace 2 = .ok (.bipush 7, 2) := by decide +kernel
theorem dX1_isPlace_4 : decode cX1_isPlace 4 = .ok (.invokestatic 31, 3) := by decide +kernel
theorem dX1_isPlace_7 : decode cX1_isPlace 7 = .ok (.ireturn, 1) := by decide +kernel
theorem dX2_init_0 : decode cX2_init 0 = .ok (.aload_n 0, 1) := by decide +kernel
theorem dX2_init_1 : decode cX2_init 1 = .ok (.invokespecial 3, 3) := by decide +kernel
theorem dX2_init_4 : decode cX2_init 4 = .ok (.aload_n 0, 1) := by decide +kernel
theorem dX2_init_5 : decode cX2_init 5 = .ok (.iconst 5, 1) := by decide +kernel
theorem dX2_init_6 : decode cX2_init 6 = .ok (.newarray .int, 2) := by decide +kernel
theorem dX2_init_8 : decode cX2_init 8 = .ok (.putfield 9, 3) := by decide +kernel
theorem dX2_init_11 : decode cX2_init 11 = .ok (.return_, 1) := by decide +kernel
theorem dX2_isFull_0 : decode cX2_isFull 0 = .ok (.aload_n 0, 1) := by decide +kernel
theorem dX2_isFull_1 : decode cX2_isFull 1 = .ok (.getfield 15, 3) := by decide +kernel
theorem dX2_isFull_4 : decode cX2_isFull 4 = .ok (.aload_n 0, 1) := by decide +kernel
theorem dX2_isFull_5 : decode cX2_isFull 5 = .ok (.getfield 9, 3) := by decide +kernel
theorem dX2_isFull_8 : decode cX2_isFull 8 = .ok (.arraylength, 1) := by decide +kernel
theorem dX2_isFull_9 : decode cX2_isFull 9 = .ok (.if_icmp .lt 7, 3) := by decide +kernel
theorem dX2_isFull_12 : decode cX2_isFull 12 = .ok (.iconst 1, 1) := by decide +kernel
theorem dX2_isFull_13 : decode cX2_isFull 13 = .ok (.goto 4, 3) := by decide +kernel
theorem dX2_isFull_16 : decode cX2_isFull 16 = .ok (.iconst 0, 1) := by decide +kernel
theorem dX2_isFull_17 : decode cX2_isFull 17 = .ok (.ireturn, 1) := by decide +kernel
theorem dX2_visits_0 : decode cX2_visits 0 = .ok (.iconst 0, 1) := by decide +kernel
theorem dX2_visits_1 : decode cX2_visits 1 = .ok (.istore_n 2, 1) := by decide +kernel
theorem dX2_visits_2 : decode cX2_visits 2 = .ok (.iload_n 2, 1) := by decide +kernel
theorem dX2_visits_3 : decode cX2_visits 3 = .ok (.aload_n 0, 1) := by decide +kernel
theorem dX2_visits_4 : decode cX2_visits 4 = .ok (.getfield 15, 3) := by decide +kernel
theorem dX2_visits_7 : decode cX2_visits 7 = .ok (.if_icmp .ge 21, 3) := by decide +kernel
theorem dX2_visits_10 : decode cX2_visits 10 = .ok (.aload_n 0, 1) := by decide +kernel
theorem dX2_visits_11 : decode cX2_visits 11 = .ok (.getfield 9, 3) := by decide +kernel
theorem dX2_visits_14 : decode cX2_visits 14 = .ok (.iload_n 2, 1) := by decide +kernel
theorem dX2_visits_15 : decode cX2_visits 15 = .ok (.iaload, 1) := by decide +kernel
theorem dX2_visits_16 : decode cX2_visits 16 = .ok (.iload_n 1, 1) := by decide +kernel
theorem dX2_visits_17 : decode cX2_visits 17 = .ok (.if_icmp .ne 5, 3) := by decide +kernel
theorem dX2_visits_20 : decode cX2_visits 20 = .ok (.iconst 1, 1) := by decide +kernel
theorem dX2_visits_21 : decode cX2_visits 21 = .ok (.ireturn, 1) := by decide +kernel
theorem dX2_visits_22 : decode cX2_visits 22 = .ok (.iinc 2 1, 3) := by decide +kernel
theorem dX2_visits_25 : decode cX2_visits 25 = .ok (.goto (-23), 3) := by decide +kernel
theorem dX2_visits_28 : decode cX2_visits 28 = .ok (.iconst 0, 1) := by decide +kernel
theorem dX2_visits_29 : decode cX2_visits 29 = .ok (.ireturn, 1) := by decide +kernel
set_option maxRecDepth 20000 in
theorem ggX2_append_X2_isFull : GoodIn wsX2_append wsX2_isFull := goodIn_r _ [7, 2, 1, 8, 9, 10, 11] (by decide +kernel) (by decide +kernel)
set_option maxRecDepth 20000 in
theorem gX2_append_X2_isFull : GoodIn wsX2_append (wsV RX2 19 RX2 yX2_isFull wsX2_isFull) := goodIn_app (goodIn_of _ (by decide +kernel)) ggX2_append_X2_isFull
theorem dX2_append_0 : decode cX2_append 0 = .ok (.aload_n 0, 1) := by decide +kernel
theorem dX2_append_1 : decode cX2_append 1 = .ok (.invokevirtual 19, 3) := by decide +kernel
theorem dX2_append_4 : decode cX2_append 4 = .ok (.ifCond .ne 23, 3) := by decide +kernel
theorem dX2_append_7 : decode cX2_append 7 = .ok (.aload_n 0, 1) := by decide +kernel
theorem dX2_append_8 : decode cX2_append 8 = .ok (.getfield 9, 3) := by decide +kernel
theorem dX2_append_11 : decode cX2_append 11 = .ok (.aload_n 0, 1) := by decide +kernel
theorem dX2_append_12 : decode cX2_append 12 = .ok (.getfield 15, 3) := by decide +kernel
theorem dX2_append_15 : decode cX2_append 15 = .ok (.iload_n 1, 1) := by decide +kernel
theorem dX2_append_16 : decode cX2_append 16 = .ok (.iastore, 1) := by decide +kernel
theorem dX2_append_17 : decode cX2_append 17 = .ok (.aload_n 0, 1) := by decide +kernel
theorem dX2_append_18 : decode cX2_append 18 = .ok (.dup, 1) := by decide +kernel
theorem dX2_append_19 : decode cX2_append 19 = .ok (.getfield 15, 3) := by decide +kernel
theorem dX2_append_22 : decode cX2_append 22 = .ok (.iconst 1, 1) := by decide +kernel
theorem dX2_append_23 : decode cX2_append 23 = .ok (.iadd, 1) := by decide +kernel
theorem dX2_append_24 : decode cX2_append 24 = .ok (.putfield 15, 3) := by decide +kernel
theorem dX2_append_27 : decode cX2_append 27 = .ok (.return_, 1) := by decide +kernel
theorem dX2_takeLast_0 : decode cX2_takeLast 0 = .ok (.aload_n 0, 1) := by decide +kernel
theorem dX2_takeLast_1 : decode cX2_takeLast 1 = .ok (.getfield 15, 3) := by decide +kernel
theorem dX2_takeLast_4 : decode cX2_takeLast 4 = .ok (.ifCond .gt 5, 3) := by decide +kernel
theorem dX2_takeLast_7 : decode cX2_takeLast 7 = .ok (.iconst (-1), 1) := by decide +kernel
theorem dX2_takeLast_8 : decode cX2_takeLast 8 = .ok (.ireturn, 1) := by decide +kernel
theorem dX2_takeLast_9 : decode cX2_takeLast 9 = .ok (.aload_n 0, 1) := by decide +kernel
theorem dX2_takeLast_10 : decode cX2_takeLast 10 = .ok (.dup, 1) := by decide +kernel
theorem dX2_takeLast_11 : decode cX2_takeLast 11 = .ok (.getfield 15, 3) := by decide +kernel
theorem dX2_takeLast_14 : decode cX2_takeLast 14 = .ok (.iconst 1, 1) := by decide +kernel
theorem dX2_takeLast_15 : decode cX2_takeLast 15 = .ok (.isub, 1) := by decide +kernel
theorem dX2_takeLast_16 : decode cX2_takeLast 16 = .ok (.putfield 15, 3) := by decide +kernel
theorem dX2_takeLast_19 : decode cX2_takeLast 19 = .ok (.aload_n 0, 1) := by decide +kernel
theorem dX2_takeLast_20 : decode cX2_takeLast 20 = .ok (.getfield 9, 3) := by decide +kernel
theorem dX2_takeLast_23 : decode cX2_takeLast 23 = .ok (.aload_n 0, 1) := by decide +kernel
theorem dX2_takeLast_24 : decode cX2_takeLast 24 = .ok (.getfield 15, 3) := by decide +kernel
theorem dX2_takeLast_27 : decode cX2_takeLast 27 = .ok (.iaload, 1) := by decide +kernel
theorem dX2_takeLast_28 : decode cX2_takeLast 28 = .ok (.ireturn, 1) := by decide +kernel
set_option maxRecDepth 20000 in
theorem ggX2_measure_X1_minutesBetween : GoodIn wsX2_measure wsX1_minutesBetween := goodIn_r _ [7, 8, 9, 10, 11, 5, 12, 13, 14, 15, 20, 21] (by decide +kernel) (by decide +kernel)
set_option maxRecDepth 20000 in
theorem gX2_measure_X1_minutesBetween_n23 : GoodIn wsX2_measure (wsX1_minutesBetween) := ggX2_measure_X1_minutesBetween
theorem dX2_measure_0 : decode cX2_measure 0 = .ok (.bipush 50, 2) := by decide +kernel
theorem dX2_measure_2 : decode cX2_measure 2 = .ok (.aload_n 0, 1) := by decide +kernel
theorem dX2_measure_3 : decode cX2_measure 3 = .ok (.getfield 15, 3) := by decide +kernel
theorem dX2_measure_6 : decode cX2_measure 6 = .ok (.imul, 1) := by decide +kernel
theorem dX2_measure_7 : decode cX2_measure 7 = .ok (.istore_n 2, 1) := by decide +kernel
theorem dX2_measure_8 : decode cX2_measure 8 = .ok (.iconst 1, 1) := by decide +kernel
theorem dX2_measure_9 : decode cX2_measure 9 = .ok (.istore_n 3, 1) := by decide +kernel
theorem dX2_measure_10 : decode cX2_measure 10 = .ok (.iload_n 3, 1) := by decide +kernel
theorem dX2_measure_11 : decode cX2_measure 11 = .ok (.aload_n 0, 1) := by decide +kernel
theorem dX2_measure_12 : decode cX2_measure 12 = .ok (.getfield 15, 3) := by decide +kernel
theorem dX2_measure_15 : decode cX2_measure 15 = .ok (.if_icmp .ge 45, 3) := by decide +kernel
theorem dX2_measure_18 : decode cX2_measure 18 = .ok (.aload_n 1, 1) := by decide +kernel
theorem dX2_measure_19 : decode cX2_measure 19 = .ok (.aload_n 0, 1) := by decide +kernel
theorem dX2_measure_20 : decode cX2_measure 20 = .ok (.getfield 9, 3) := by decide +kernel
theorem dX2_measure_23 : decode cX2_measure 23 = .ok (.iload_n 3, 1) := by decide +kernel
theorem dX2_measure_24 : decode cX2_measure 24 = .ok (.iconst 1, 1) := by decide +kernel
theorem dX2_measure_25 : decode cX2_measure 25 = .ok (.isub, 1) := by decide +kernel
theorem dX2_measure_26 : decode cX2_measure 26 = .ok (.iaload, 1) := by decide +kernel
theorem dX2_measure_27 : decode cX2_measure 27 = .ok (.aload_n 0, 1) := by decide +kernel
theorem dX2_measure_28 : decode cX2_measure 28 = .ok (.getfield 9, 3) := by decide +kernel
theorem dX2_measure_31 : decode cX2_measure 31 = .ok (.iload_n 3, 1) := by decide +kernel
theorem dX2_measure_32 : decode cX2_measure 32 = .ok (.iaload, 1) := by decide +kernel
theorem dX2_measure_33 : decode cX2_measure 33 = .ok (.invokevirtual 23, 3) := by decide +kernel
theorem dX2_measure_36 : decode cX2_measure 36 = .ok (.istore 4, 2) := by decide +kernel
theorem dX2_measure_38 : decode cX2_measure 38 = .ok (.iload 4, 2) := by decide +kernel
theorem dX2_measure_40 : decode cX2_measure 40 = .ok (.ifCond .ge 9, 3) := by decide +kernel
theorem dX2_measure_43 : decode cX2_measure 43 = .ok (.aload_n 0, 1) := by decide +kernel
theorem dX2_measure_44 : decode cX2_measure 44 = .ok (.iconst (-1), 1) := by decide +kernel
theorem dX2_measure_45 : decode cX2_measure 45 = .ok (.putfield 29, 3) := by decide +kernel
theorem dX2_measure_48 : decode cX2_measure 48 = .ok (.return_, 1) := by decide +kernel
theorem dX2_measure_49 : decode cX2_measure 49 = .ok (.iload_n 2, 1) := by decide +kernel
theorem dX2_measure_50 : decode cX2_measure 50 = .ok (.iload 4, 2) := by decide +kernel
theorem dX2_measure_52 : decode cX2_measure 52 = .ok (.iadd, 1) := by decide +kernel
theorem dX2_measure_53 : decode cX2_measure 53 = .ok (.istore_n 2, 1) := by decide +kernel
theorem dX2_measure_54 : decode cX2_measure 54 = .ok (.iinc 3 1, 3) := by decide +kernel
theorem dX2_measure_57 : decode cX2_measure 57 = .ok (.goto (-47), 3) := by decide +kernel
theorem dX2_measure_60 : decode cX2_measure 60 = .ok (.aload_n 0, 1) := by decide +kernel
theorem dX2_measure_61 : decode cX2_measure 61 = .ok (.iload_n 2, 1) := by decide +kernel
theorem dX2_measure_62 : decode cX2_measure 62 = .ok (.putfield 29, 3) := by decide +kernel
theorem dX2_measure_65 : decode cX2_measure 65 = .ok (.return_, 1) := by decide +kernel
set_option maxRecDepth 20000 in
theorem ggX2_canGo_X4_isWithin : GoodIn wsX2_canGo wsX4_isWithin := goodIn_r _ [5] (by decide +kernel) (by decide +kernel)
set_option maxRecDepth 20000 in
theorem gX2_canGo_X4_isWithin_n32 : GoodIn wsX2_canGo (wsX4_isWithin) := ggX2_canGo_X4_isWithin
theorem dX2_canGo_0 : decode cX2_canGo 0 = .ok (.aload_n 0, 1) := by decide +kernel
theorem dX2_canGo_1 : decode cX2_canGo 1 = .ok (.getfield 15, 3) := by decide +kernel
theorem dX2_canGo_4 : decode cX2_canGo 4 = .ok (.ifCond .le 21, 3) := by decide +kernel
theorem dX2_canGo_7 : decode cX2_canGo 7 = .ok (.aload_n 0, 1) := by decide +kernel
theorem dX2_canGo_8 : decode cX2_canGo 8 = .ok (.getfield 29, 3) := by decide +kernel
theorem dX2_canGo_11 : decode cX2_canGo 11 = .ok (.iconst 0, 1) := by decide +kernel
theorem dX2_canGo_12 : decode cX2_canGo 12 = .ok (.sipush 480, 3) := by decide +kernel
theorem dX2_canGo_15 : decode cX2_canGo 15 = .ok (.invokestatic 32, 3) := by decide +kernel
theorem dX2_canGo_18 : decode cX2_canGo 18 = .ok (.ifCond .eq 7, 3) := by decide +kernel
theorem dX2_canGo_21 : decode cX2_canGo 21 = .ok (.iconst 1, 1) := by decide +kernel
theorem dX2_canGo_22 : decode cX2_canGo 22 = .ok (.goto 4, 3) := by decide +kernel
theorem dX2_canGo_25 : decode cX2_canGo 25 = .ok (.iconst 0, 1) := by decide +kernel
theorem dX2_canGo_26 : decode cX2_canGo 26 = .ok (.ireturn, 1) := by decide +kernel
theorem dX3_init_0 : decode cX3_init 0 = .ok (.aload_n 0, 1) := by decide +kernel
theorem dX3_init_1 : decode cX3_init 1 = .ok (.invokespecial 1, 3) := by decide +kernel
theorem dX3_init_4 : decode cX3_init 4 = .ok (.return_, 1) := by decide +kernel
theorem dX3_bloomOn_0 : decode cX3_bloomOn 0 = .ok (.aload_n 0, 1) := by decide +kernel
theorem dX3_bloomOn_1 : decode cX3_bloomOn 1 = .ok (.getfield 7, 3) := by decide +kernel
theorem dX3_bloomOn_4 : decode cX3_bloomOn 4 = .ok (.aload_n 0, 1) := by decide +kernel
theorem dX3_bloomOn_5 : decode cX3_bloomOn 5 = .ok (.getfield 13, 3) := by decide +kernel
theorem dX3_bloomOn_8 : decode cX3_bloomOn 8 = .ok (.iadd, 1) := by decide +kernel
theorem dX3_bloomOn_9 : decode cX3_bloomOn 9 = .ok (.iconst 1, 1) := by decide +kernel
theorem dX3_bloomOn_10 : decode cX3_bloomOn 10 = .ok (.isub, 1) := by decide +kernel
theorem dX3_bloomOn_11 : decode cX3_bloomOn 11 = .ok (.istore_n 2, 1) := by decide +kernel
theorem dX3_bloomOn_12 : decode cX3_bloomOn 12 = .ok (.aload_n 0, 1) := by decide +kernel
theorem dX3_bloomOn_13 : decode cX3_bloomOn 13 = .ok (.getfield 13, 3) := by decide +kernel
theorem dX3_bloomOn_16 : decode cX3_bloomOn 16 = .ok (.iconst 1, 1) := by decide +kernel
theorem dX3_bloomOn_17 : decode cX3_bloomOn 17 = .ok (.iadd, 1) := by decide +kernel
theorem dX3_bloomOn_18 : decode cX3_bloomOn 18 = .ok (.iconst 2, 1) := by decide +kernel
theorem dX3_bloomOn_19 : decode cX3_bloomOn 19 = .ok (.idiv, 1) := by decide +kernel
theorem dX3_bloomOn_20 : decode cX3_bloomOn 20 = .ok (.istore_n 3, 1) := by decide +kernel
theorem dX3_bloomOn_21 : decode cX3_bloomOn 21 = .ok (.iload_n 1, 1) := by decide +kernel
theorem dX3_bloomOn_22 : decode cX3_bloomOn 22 = .ok (.aload_n 0, 1) := by decide +kernel
theorem dX3_bloomOn_23 : decode cX3_bloomOn 23 = .ok (.getfield 7, 3) := by decide +kernel
theorem dX3_bloomOn_26 : decode cX3_bloomOn 26 = .ok (.if_icmp .lt 12, 3) := by decide +kernel
theorem dX3_bloomOn_29 : decode cX3_bloomOn 29 = .ok (.iload_n 1, 1) := by decide +kernel
theorem dX3_bloomOn_30 : decode cX3_bloomOn 30 = .ok (.iload_n 2, 1) := by decide +kernel
theorem dX3_bloomOn_31 : decode cX3_bloomOn 31 = .ok (.if_icmp .gt 7, 3) := by decide +kernel
theorem dX3_bloomOn_34 : decode cX3_bloomOn 34 = .ok (.iload_n 3, 1) := by decide +kernel
theorem dX3_bloomOn_35 : decode cX3_bloomOn 35 = .ok (.ifCond .gt 5, 3) := by decide +kernel
theorem dX3_bloomOn_38 : decode cX3_bloomOn 38 = .ok (.iconst 0, 1) := by decide +kernel
theorem dX3_bloomOn_39 : decode cX3_bloomOn 39 = .ok (.ireturn, 1) := by decide +kernel
theorem dX3_bloomOn_40 : decode cX3_bloomOn 40 = .ok (.iload_n 1, 1) := by decide +kernel
theorem dX3_bloomOn_41 : decode cX3_bloomOn 41 = .ok (.aload_n 0, 1) := by decide +kernel
theorem dX3_bloomOn_42 : decode cX3_bloomOn 42 = .ok (.getfield 7, 3) := by decide +kernel
theorem dX3_bloomOn_45 : decode cX3_bloomOn 45 = .ok (.isub, 1) := by decide +kernel
theorem dX3_bloomOn_46 : decode cX3_bloomOn 46 = .ok (.iconst 1, 1) := by decide +kernel
theorem dX3_bloomOn_47 : decode cX3_bloomOn 47 = .ok (.iadd, 1) := by decide +kernel
theorem dX3_bloomOn_48 : decode cX3_bloomOn 48 = .ok (.iload_n 2, 1) := by decide +kernel
theorem dX3_bloomOn_49 : decode cX3_bloomOn 49 = .ok (.iload_n 1, 1) := by decide +kernel
theorem dX3_bloomOn_50 : decode cX3_bloomOn 50 = .ok (.isub, 1) := by decide +kernel
theorem dX3_bloomOn_51 : decode cX3_bloomOn 51 = .ok (.iconst 1, 1) := by decide +kernel
theorem dX3_bloomOn_52 : decode cX3_bloomOn 52 = .ok (.iadd, 1) := by decide +kernel
theorem dX3_bloomOn_53 : decode cX3_bloomOn 53 = .ok (.invokestatic 16, 3) := by decide +kernel
theorem dX3_bloomOn_56 : decode cX3_bloomOn 56 = .ok (.istore 4, 2) := by decide +kernel
theorem dX3_bloomOn_58 : decode cX3_bloomOn 58 = .ok (.bipush 100, 2) := by decide +kernel
theorem dX3_bloomOn_60 : decode cX3_bloomOn 60 = .ok (.iload 4, 2) := by decide +kernel
theorem dX3_bloomOn_62 : decode cX3_bloomOn 62 = .ok (.imul, 1) := by decide +kernel
theorem dX3_bloomOn_63 : decode cX3_bloomOn 63 = .ok (.iload_n 3, 1) := by decide +kernel
theorem dX3_bloomOn_64 : decode cX3_bloomOn 64 = .ok (.idiv, 1) := by decide +kernel
theorem dX3_bloomOn_65 : decode cX3_bloomOn 65 = .ok (.ireturn, 1) := by decide +kernel
set_option maxRecDepth 20000 in
theorem ggX4_init_X1_init : GoodIn wsX4_init wsX1_init := goodIn_r _ [24, 25, 2, 3, 26, 8, 27, 28, 48, 49] (by decide +kernel) (by decide +kernel)
set_option maxRecDepth 20000 in
theorem gX4_init_X1_init_n27 : GoodIn wsX4_init (wsX1_init) := ggX4_init_X1_init
set_option maxRecDepth 20000 in
theorem ggX4_init_X0_init : GoodIn wsX4_init wsX0_init := goodIn_r _ [30, 31, 2, 3] (by decide +kernel) (by decide +kernel)
set_option maxRecDepth 20000 in
theorem gX4_init_X0_init_n34 : GoodIn wsX4_init (wsX0_init) := ggX4_init_X0_init
set_option maxRecDepth 20000 in
theorem ggX4_init_X3_init : GoodIn wsX4_init wsX3_init := goodIn_r _ [33, 34, 2, 3] (by decide +kernel) (by decide +kernel)
set_option maxRecDepth 20000 in
theorem gX4_init_X3_init_n42 : GoodIn wsX4_init (wsX3_init) := ggX4_init_X3_init
set_option maxRecDepth 20000 in
theorem ggX4_init_X2_init : GoodIn wsX4_init wsX2_init := goodIn_r _ [36, 37, 2, 3, 8, 38, 58, 59, 60, 61] (by decide +kernel) (by decide +kernel)
set_option maxRecDepth 20000 in
theorem gX4_init_X2_init_n43 : GoodIn wsX4_init (wsX2_init) := ggX4_init_X2_init
theorem dX4_init_0 : decode cX4_init 0 = .ok (.aload_n 0, 1) := by decide +kernel
theorem dX4_init_1 : decode cX4_init 1 = .ok (.invokespecial 1, 3) := by decide +kernel
theorem dX4_init_4 : decode cX4_init 4 = .ok (.aload_n 0, 1) := by decide +kernel
theorem dX4_init_5 : decode cX4_init 5 = .ok (.bipush 8, 2) := by decide +kernel
theorem dX4_init_7 : decode cX4_init 7 = .ok (.anewarray 9, 3) := by decide +kernel
theorem dX4_init_10 : decode cX4_init 10 = .ok (.putfield 11, 3) := by decide +kernel
theorem dX4_init_13 : decode cX4_init 13 = .ok (.aload_n 0, 1) := by decide +kernel
theorem dX4_init_14 : decode cX4_init 14 = .ok (.bipush 6, 2) := by decide +kernel
theorem dX4_init_16 : decode cX4_init 16 = .ok (.anewarray 15, 3) := by decide +kernel
theorem dX4_init_19 : decode cX4_init 19 = .ok (.putfield 17, 3) := by decide +kernel
theorem dX4_init_22 : decode cX4_init 22 = .ok (.aload_n 0, 1) := by decide +kernel
theorem dX4_init_23 : decode cX4_init 23 = .ok (.bipush 10, 2) := by decide +kernel
theorem dX4_init_25 : decode cX4_init 25 = .ok (.newarray .int, 2) := by decide +kernel
theorem dX4_init_27 : decode cX4_init 27 = .ok (.putfield 21, 3) := by decide +kernel
theorem dX4_init_30 : decode cX4_init 30 = .ok (.aload_n 0, 1) := by decide +kernel
theorem dX4_init_31 : decode cX4_init 31 = .ok (.new 25, 3) := by decide +kernel
theorem dX4_init_34 : decode cX4_init 34 = .ok (.dup, 1) := by decide +kernel
theorem dX4_init_35 : decode cX4_init 35 = .ok (.invokespecial 27, 3) := by decide +kernel
theorem dX4_init_38 : decode cX4_init 38 = .ok (.putfield 28, 3) := by decide +kernel
theorem dX4_init_41 : decode cX4_init 41 = .ok (.aload_n 0, 1) := by decide +kernel
theorem dX4_init_42 : decode cX4_init 42 = .ok (.new 32, 3) := by decide +kernel
theorem dX4_init_45 : decode cX4_init 45 = .ok (.dup, 1) := by decide +kernel
theorem dX4_init_46 : decode cX4_init 46 = .ok (.invokespecial 34, 3) := by decide +kernel
theorem dX4_init_49 : decode cX4_init 49 = .ok (.putfield 35, 3) := by decide +kernel
theorem dX4_init_52 : decode cX4_init 52 = .ok (.aload_n 0, 1) := by decide +kernel
theorem dX4_init_53 : decode cX4_init 53 = .ok (.new 32, 3) := by decide +kernel
theorem dX4_init_56 : decode cX4_init 56 = .ok (.dup, 1) := by decide +kernel
theorem dX4_init_57 : decode cX4_init 57 = .ok (.invokespecial 34, 3) := by decide +kernel
theorem dX4_init_60 : decode cX4_init 60 = .ok (.putfield 39, 3) := by decide +kernel
theorem dX4_init_63 : decode cX4_init 63 = .ok (.iconst 0, 1) := by decide +kernel
theorem dX4_init_64 : decode cX4_init 64 = .ok (.istore_n 1, 1) := by decide +kernel
theorem dX4_init_65 : decode cX4_init 65 = .ok (.iload_n 1, 1) := by decide +kernel
theorem dX4_init_66 : decode cX4_init 66 = .ok (.aload_n 0, 1) := by decide +kernel
theorem dX4_init_67 : decode cX4_init 67 = .ok (.getfield 11, 3) := by decide +kernel
theorem dX4_init_70 : decode cX4_init 70 = .ok (.arraylength, 1) := by decide +kernel
theorem dX4_init_71 : decode cX4_init 71 = .ok (.if_icmp .ge 22, 3) := by decide +kernel
theorem dX4_init_74 : decode cX4_init 74 = .ok (.aload_n 0, 1) := by decide +kernel
theorem dX4_init_75 : decode cX4_init 75 = .ok (.getfield 11, 3) := by decide +kernel
theorem dX4_init_78 : decode cX4_init 78 = .ok (.iload_n 1, 1) := by decide +kernel
theorem dX4_init_79 : decode cX4_init 79 = .ok (.new 9, 3) := by decide +kernel
theorem dX4_init_82 : decode cX4_init 82 = .ok (.dup, 1) := by decide +kernel
theorem dX4_init_83 : decode cX4_init 83 = .ok (.invokespecial 42, 3) := by decide +kernel
theorem dX4_init_86 : decode cX4_init 86 = .ok (.aastore, 1) := by decide +kernel
theorem dX4_init_87 : decode cX4_init 87 = .ok (.iinc 1 1, 3) := by decide +kernel
theorem dX4_init_90 : decode cX4_init 90 = .ok (.goto (-25), 3) := by decide +kernel
theorem dX4_init_93 : decode cX4_init 93 = .ok (.iconst 0, 1) := by decide +kernel
theorem dX4_init_94 : decode cX4_init 94 = .ok (.istore_n 1, 1) := by decide +kernel
theorem dX4_init_95 : decode cX4_init 95 = .ok (.iload_n 1, 1) := by decide +kernel
theorem dX4_init_96 : decode cX4_init 96 = .ok (.aload_n 0, 1) := by decide +kernel
theorem dX4_init_97 : decode cX4_init 97 = .ok (.getfield 17, 3) := by decide +kernel
theorem dX4_init_100 : decode cX4_init 100 = .ok (.arraylength, 1) := by decide +kernel
theorem dX4_init_101 : decode cX4_init 101 = .ok (.if_icmp .ge 22, 3) := by decide +kernel
theorem dX4_init_104 : decode cX4_init 104 = .ok (.aload_n 0, 1) := by decide +kernel
theorem dX4_init_105 : decode cX4_init 105 = .ok (.getfield 17, 3) := by decide +kernel
theorem dX4_init_108 : decode cX4_init 108 = .ok (.iload_n 1, 1) := by decide +kernel
theorem dX4_init_109 : decode cX4_init 109 = .ok (.new 15, 3) := by decide +kernel
theorem dX4_init_112 : decode cX4_init 112 = .ok (.dup, 1) := by decide +kernel
theorem dX4_init_113 : decode cX4_init 113 = .ok (.invokespecial 43, 3) := by decide +kernel
theorem dX4_init_116 : decode cX4_init 116 = .ok (.aastore, 1) := by decide +kernel
theorem dX4_init_117 : decode cX4_init 117 = .ok (.iinc 1 1, 3) := by decide +kernel
theorem dX4_init_120 : decode cX4_init 120 = .ok (.goto (-25), 3) := by decide +kernel
theorem dX4_init_123 : decode cX4_init 123 = .ok (.iconst 0, 1) := by decide +kernel
theorem dX4_init_124 : decode cX4_init 124 = .ok (.istore_n 1, 1) := by decide +kernel
theorem dX4_init_125 : decode cX4_init 125 = .ok (.iload_n 1, 1) := by decide +kernel
theorem dX4_init_126 : decode cX4_init 126 = .ok (.aload_n 0, 1) := by decide +kernel
theorem dX4_init_127 : decode cX4_init 127 = .ok (.getfield 21, 3) := by decide +kernel
theorem dX4_init_130 : decode cX4_init 130 = .ok (.arraylength, 1) := by decide +kernel
theorem dX4_init_131 : decode cX4_init 131 = .ok (.if_icmp .ge 17, 3) := by decide +kernel
theorem dX4_init_134 : decode cX4_init 134 = .ok (.aload_n 0, 1) := by decide +kernel
theorem dX4_init_135 : decode cX4_init 135 = .ok (.getfield 21, 3) := by decide +kernel
theorem dX4_init_138 : decode cX4_init 138 = .ok (.iload_n 1, 1) := by decide +kernel
theorem dX4_init_139 : decode cX4_init 139 = .ok (.bipush 20, 2) := by decide +kernel
theorem dX4_init_141 : decode cX4_init 141 = .ok (.iastore, 1) := by decide +kernel
theorem dX4_init_142 : decode cX4_init 142 = .ok (.iinc 1 1, 3) := by decide +kernel
theorem dX4_init_145 : decode cX4_init 145 = .ok (.goto (-20), 3) := by decide +kernel
theorem dX4_init_148 : decode cX4_init 148 = .ok (.return_, 1) := by decide +kernel
set_option maxRecDepth 20000 in
theorem ggX4_valley_X4_isWithin : GoodIn wsX4_valley wsX4_isWithin := goodIn_r _ [10] (by decide +kernel) (by decide +kernel)
set_option maxRecDepth 20000 in
theorem gX4_valley_X4_isWithin : GoodIn wsX4_valley (va_wsS RX4 44 yX4_isWithin wsX4_isWithin) := goodIn_app (goodIn_of _ (by decide +kernel)) ggX4_valley_X4_isWithin
theorem dX4_valley_0 : decode cX4_valley 0 = .ok (.iload_n 1, 1) := by decide +kernel
theorem dX4_valley_1 : decode cX4_valley 1 = .ok (.iconst 0, 1) := by decide +kernel
theorem dX4_valley_2 : decode cX4_valley 2 = .ok (.bipush 90, 2) := by decide +kernel
theorem dX4_valley_4 : decode cX4_valley 4 = .ok (.invokestatic 44, 3) := by decide +kernel
theorem dX4_valley_7 : decode cX4_valley 7 = .ok (.ifCond .ne 13, 3) := by decide +kernel
theorem dX4_valley_10 : decode cX4_valley 10 = .ok (.new 48, 3) := by decide +kernel
theorem dX4_valley_13 : decode cX4_valley 13 = .ok (.dup, 1) := by decide +kernel
theorem dX4_valley_14 : decode cX4_valley 14 = .ok (.ldc 50, 2) := by decide +kernel
theorem dX4_valley_16 : decode cX4_valley 16 = .ok (.invokespecial 52, 3) := by decide +kernel
theorem dX4_valley_19 : decode cX4_valley 19 = .ok (.athrow, 1) := by decide +kernel
theorem dX4_valley_20 : decode cX4_valley 20 = .ok (.iload_n 2, 1) := by decide +kernel
theorem dX4_valley_21 : decode cX4_valley 21 = .ok (.iconst 1, 1) := by decide +kernel
theorem dX4_valley_22 : decode cX4_valley 22 = .ok (.bipush 30, 2) := by decide +kernel
theorem dX4_valley_24 : decode cX4_valley 24 = .ok (.invokestatic 44, 3) := by decide +kernel
theorem dX4_valley_27 : decode cX4_valley 27 = .ok (.ifCond .ne 13, 3) := by decide +kernel
theorem dX4_valley_30 : decode cX4_valley 30 = .ok (.new 48, 3) := by decide +kernel
theorem dX4_valley_33 : decode cX4_valley 33 = .ok (.dup, 1) := by decide +kernel
theorem dX4_valley_34 : decode cX4_valley 34 = .ok (.ldc 55, 2) := by decide +kernel
theorem dX4_valley_36 : decode cX4_valley 36 = .ok (.invokespecial 52, 3) := by decide +kernel
theorem dX4_valley_39 : decode cX4_valley 39 = .ok (.athrow, 1) := by decide +kernel
theorem dX4_valley_40 : decode cX4_valley 40 = .ok (.iload_n 3, 1) := by decide +kernel
theorem dX4_valley_41 : decode cX4_valley 41 = .ok (.iconst 0, 1) := by decide +kernel
theorem dX4_valley_42 : decode cX4_valley 42 = .ok (.bipush 50, 2) := by decide +kernel
theorem dX4_valley_44 : decode cX4_valley 44 = .ok (.invokestatic 44, 3) := by decide +kernel
theorem dX4_valley_47 : decode cX4_valley 47 = .ok (.ifCond .ne 13, 3) := by decide +kernel
theorem dX4_valley_50 : decode cX4_valley 50 = .ok (.new 48, 3) := by decide +kernel
theorem dX4_valley_53 : decode cX4_valley 53 = .ok (.dup, 1) := by decide +kernel
theorem dX4_valley_54 : decode cX4_valley 54 = .ok (.ldc 57, 2) := by decide +kernel
theorem dX4_valley_56 : decode cX4_valley 56 = .ok (.invokespecial 52, 3) := by decide +kernel
theorem dX4_valley_59 : decode cX4_valley 59 = .ok (.athrow, 1) := by decide +kernel
theorem dX4_valley_60 : decode cX4_valley 60 = .ok (.aload_n 0, 1) := by decide +kernel
theorem dX4_valley_61 : decode cX4_valley 61 = .ok (.getfield 59, 3) := by decide +kernel
theorem dX4_valley_64 : decode cX4_valley 64 = .ok (.aload_n 0, 1) := by decide +kernel
theorem dX4_valley_65 : decode cX4_valley 65 = .ok (.getfield 11, 3) := by decide +kernel
theorem dX4_valley_68 : decode cX4_valley 68 = .ok (.arraylength, 1) := by decide +kernel
theorem dX4_valley_69 : decode cX4_valley 69 = .ok (.if_icmp .lt 13, 3) := by decide +kernel
theorem dX4_valley_72 : decode cX4_valley 72 = .ok (.new 63, 3) := by decide +kernel
theorem dX4_valley_75 : decode cX4_valley 75 = .ok (.dup, 1) := by decide +kernel
theorem dX4_valley_76 : decode cX4_valley 76 = .ok (.ldc 65, 2) := by decide +kernel
theorem dX4_valley_78 : decode cX4_valley 78 = .ok (.invokespecial 67, 3) := by decide +kernel
theorem dX4_valley_81 : decode cX4_valley 81 = .ok (.athrow, 1) := by decide +kernel
theorem dX4_valley_82 : decode cX4_valley 82 = .ok (.aload_n 0, 1) := by decide +kernel
theorem dX4_valley_83 : decode cX4_valley 83 = .ok (.getfield 11, 3) := by decide +kernel
theorem dX4_valley_86 : decode cX4_valley 86 = .ok (.aload_n 0, 1) := by decide +kernel
theorem dX4_valley_87 : decode cX4_valley 87 = .ok (.getfield 59, 3) := by decide +kernel
theorem dX4_valley_90 : decode cX4_valley 90 = .ok (.aaload, 1) := by decide +kernel
theorem dX4_valley_91 : decode cX4_valley 91 = .ok (.astore 4, 2) := by decide +kernel
theorem dX4_valley_93 : decode cX4_valley 93 = .ok (.aload 4, 2) := by decide +kernel
theorem dX4_valley_95 : decode cX4_valley 95 = .ok (.iload_n 1, 1) := by decide +kernel
theorem dX4_valley_96 : decode cX4_valley 96 = .ok (.putfield 68, 3) := by decide +kernel
theorem dX4_valley_99 : decode cX4_valley 99 = .ok (.aload 4, 2) := by decide +kernel
theorem dX4_valley_101 : decode cX4_valley 101 = .ok (.iload_n 2, 1) := by decide +kernel
theorem dX4_valley_102 : decode cX4_valley 102 = .ok (.putfield 71, 3) := by decide +kernel
theorem dX4_valley_105 : decode cX4_valley 105 = .ok (.aload 4, 2) := by decide +kernel
theorem dX4_valley_107 : decode cX4_valley 107 = .ok (.iload_n 3, 1) := by decide +kernel
theorem dX4_valley_108 : decode cX4_valley 108 = .ok (.putfield 74, 3) := by decide +kernel
theorem dX4_valley_111 : decode cX4_valley 111 = .ok (.aload_n 0, 1) := by decide +kernel
theorem dX4_valley_112 : decode cX4_valley 112 = .ok (.dup, 1) := by decide +kernel
theorem dX4_valley_113 : decode cX4_valley 113 = .ok (.getfield 59, 3) := by decide +kernel
theorem dX4_valley_116 : decode cX4_valley 116 = .ok (.iconst 1, 1) := by decide +kernel
theorem dX4_valley_117 : decode cX4_valley 117 = .ok (.iadd, 1) := by decide +kernel
theorem dX4_valley_118 : decode cX4_valley 118 = .ok (.putfield 59, 3) := by decide +kernel
theorem dX4_valley_121 : decode cX4_valley 121 = .ok (.aload_n 0, 1) := by decide +kernel
theorem dX4_valley_122 : decode cX4_valley 122 = .ok (.getfield 59, 3) := by decide +kernel
theorem dX4_valley_125 : decode cX4_valley 125 = .ok (.iconst 1, 1) := by decide +kernel
theorem dX4_valley_126 : decode cX4_valley 126 = .ok (.isub, 1) := by decide +kernel
theorem dX4_valley_127 : decode cX4_valley 127 = .ok (.ireturn, 1) := by decide +kernel
set_option maxRecDepth 20000 in
theorem ggX4_road_X4_checkValley : GoodIn wsX4_road wsX4_checkValley := goodIn_ca (goodIn_r _ [10, 11, 12, 13, 58, 59, 60, 61, 62, 63, 64, 65, 66] (by decide +kernel) (by decide +kernel)) (goodIn_sub (fun _ h => List.mem_cons_of_mem _ (List.mem_append_right _ h)) (by decide +kernel))
set_option maxRecDepth 20000 in
theorem gX4_road_X4_checkValley : GoodIn wsX4_road (wsV RX4 77 RX4 yX4_checkValley wsX4_checkValley) := goodIn_app (goodIn_of _ (by decide +kernel)) ggX4_road_X4_checkValley
set_option maxRecDepth 20000 in
theorem ggX4_road_X4_isWithin : GoodIn wsX4_road wsX4_isWithin := goodIn_r _ [16] (by decide +kernel) (by decide +kernel)
set_option maxRecDepth 20000 in
theorem gX4_road_X4_isWithin : GoodIn wsX4_road (va_wsS RX4 44 yX4_isWithin wsX4_isWithin) := goodIn_app (goodIn_of _ (by decide +kernel)) ggX4_road_X4_isWithin
set_option maxRecDepth 20000 in
theorem ggX4_road_X1_lay : GoodIn wsX4_road wsX1_lay := goodIn_r _ [20, 21, 22, 23, 24, 25, 26, 27, 28, 18, 29, 15, 9, 16, 67, 68] (by decide +kernel) (by decide +kernel)
set_option maxRecDepth 20000 in
theorem gX4_road_X1_lay_n90 : GoodIn wsX4_road (wsX1_lay) := ggX4_road_X1_lay
set_option maxRecDepth 20000 in
theorem ggX4_road_X4_reckonCrowds : GoodIn wsX4_road wsX4_reckonCrowds := goodIn_r _ [33, 13, 34, 35, 36, 5, 37, 38, 39, 40, 41, 42, 43, 44, 18, 45, 46, 21, 47, 27, 28, 29, 15, 9, 16, 48, 49, 50, 51, 52, 53, 54, 55, 56, 57, 58, 59, 60, 61, 62, 63, 64, 65, 66, 69, 70, 71, 72, 73, 74, 75, 76, 77, 67, 68] (by decide +kernel) (by decide +kernel)
set_option maxRecDepth 20000 in
theorem gX4_road_X4_reckonCrowds : GoodIn wsX4_road (wsV RX4 94 RX4 yX4_reckonCrowds wsX4_reckonCrowds) := goodIn_app (goodIn_of _ (by decide +kernel)) ggX4_road_X4_reckonCrowds
theorem dX4_road_0 : decode cX4_road 0 = .ok (.aload_n 0, 1) := by decide +kernel
theorem dX4_road_1 : decode cX4_road 1 = .ok (.iload_n 1, 1) := by decide +kernel
theorem dX4_road_2 : decode cX4_road 2 = .ok (.invokevirtual 77, 3) := by decide +kernel
theorem dX4_road_5 : decode cX4_road 5 = .ok (.aload_n 0, 1) := by decide +kernel
theorem dX4_road_6 : decode cX4_road 6 = .ok (.iload_n 2, 1) := by decide +kernel
theorem dX4_road_7 : decode cX4_road 7 = .ok (.invokevirtual 77, 3) := by decide +kernel
theorem dX4_road_10 : decode cX4_road 10 = .ok (.iload_n 1, 1) := by decide +kernel
theorem dX4_road_11 : decode cX4_road 11 = .ok (.iload_n 2, 1) := by decide +kernel
theorem dX4_road_12 : decode cX4_road 12 = .ok (.if_icmp .ne 13, 3) := by decide +kernel
theorem dX4_road_15 : decode cX4_road 15 = .ok (.new 48, 3) := by decide +kernel
theorem dX4_road_18 : decode cX4_road 18 = .ok (.dup, 1) := by decide +kernel
theorem dX4_road_19 : decode cX4_road 19 = .ok (.ldc 81, 2) := by decide +kernel
theorem dX4_road_21 : decode cX4_road 21 = .ok (.invokespecial 52, 3) := by decide +kernel
theorem dX4_road_24 : decode cX4_road 24 = .ok (.athrow, 1) := by decide +kernel
theorem dX4_road_25 : decode cX4_road 25 = .ok (.iload_n 3, 1) := by decide +kernel
theorem dX4_road_26 : decode cX4_road 26 = .ok (.iconst 1, 1) := by decide +kernel
theorem dX4_road_27 : decode cX4_road 27 = .ok (.sipush 240, 3) := by decide +kernel
theorem dX4_road_30 : decode cX4_road 30 = .ok (.invokestatic 44, 3) := by decide +kernel
theorem dX4_road_33 : decode cX4_road 33 = .ok (.ifCond .ne 13, 3) := by decide +kernel
theorem dX4_road_36 : decode cX4_road 36 = .ok (.new 48, 3) := by decide +kernel
theorem dX4_road_39 : decode cX4_road 39 = .ok (.dup, 1) := by decide +kernel
theorem dX4_road_40 : decode cX4_road 40 = .ok (.ldc 83, 2) := by decide +kernel
theorem dX4_road_42 : decode cX4_road 42 = .ok (.invokespecial 52, 3) := by decide +kernel
theorem dX4_road_45 : decode cX4_road 45 = .ok (.athrow, 1) := by decide +kernel
theorem dX4_road_46 : decode cX4_road 46 = .ok (.aload_n 0, 1) := by decide +kernel
theorem dX4_road_47 : decode cX4_road 47 = .ok (.getfield 28, 3) := by decide +kernel
theorem dX4_road_50 : decode cX4_road 50 = .ok (.getfield 85, 3) := by decide +kernel
theorem dX4_road_53 : decode cX4_road 53 = .ok (.bipush 20, 2) := by decide +kernel
theorem dX4_road_55 : decode cX4_road 55 = .ok (.if_icmp .lt 13, 3) := by decide +kernel
theorem dX4_road_58 : decode cX4_road 58 = .ok (.new 63, 3) := by decide +kernel
theorem dX4_road_61 : decode cX4_road 61 = .ok (.dup, 1) := by decide +kernel
theorem dX4_road_62 : decode cX4_road 62 = .ok (.ldc 88, 2) := by decide +kernel
theorem dX4_road_64 : decode cX4_road 64 = .ok (.invokespecial 67, 3) := by decide +kernel
theorem dX4_road_67 : decode cX4_road 67 = .ok (.athrow, 1) := by decide +kernel
theorem dX4_road_68 : decode cX4_road 68 = .ok (.aload_n 0, 1) := by decide +kernel
theorem dX4_road_69 : decode cX4_road 69 = .ok (.getfield 28, 3) := by decide +kernel
theorem dX4_road_72 : decode cX4_road 72 = .ok (.iload_n 1, 1) := by decide +kernel
theorem dX4_road_73 : decode cX4_road 73 = .ok (.iload_n 2, 1) := by decide +kernel
theorem dX4_road_74 : decode cX4_road 74 = .ok (.iload_n 3, 1) := by decide +kernel
theorem dX4_road_75 : decode cX4_road 75 = .ok (.invokevirtual 90, 3) := by decide +kernel
theorem dX4_road_78 : decode cX4_road 78 = .ok (.aload_n 0, 1) := by decide +kernel
theorem dX4_road_79 : decode cX4_road 79 = .ok (.invokevirtual 94, 3) := by decide +kernel
theorem dX4_road_82 : decode cX4_road 82 = .ok (.aload_n 0, 1) := by decide +kernel
theorem dX4_road_83 : decode cX4_road 83 = .ok (.getfield 28, 3) := by decide +kernel
theorem dX4_road_86 : decode cX4_road 86 = .ok (.getfield 85, 3) := by decide +kernel
theorem dX4_road_89 : decode cX4_road 89 = .ok (.ireturn, 1) := by decide +kernel
set_option maxRecDepth 20000 in
theorem ggX4_setHeat_X4_isWithin : GoodIn wsX4_setHeat wsX4_isWithin := goodIn_r _ [9] (by decide +kernel) (by decide +kernel)
set_option maxRecDepth 20000 in
theorem gX4_setHeat_X4_isWithin : GoodIn wsX4_setHeat (va_wsS RX4 44 yX4_isWithin wsX4_isWithin) := goodIn_app (goodIn_of _ (by decide +kernel)) ggX4_setHeat_X4_isWithin
theorem dX4_setHeat_0 : decode cX4_setHeat 0 = .ok (.iload_n 1, 1) := by decide +kernel
theorem dX4_setHeat_1 : decode cX4_setHeat 1 = .ok (.ifCond .lt 12, 3) := by decide +kernel
theorem dX4_setHeat_4 : decode cX4_setHeat 4 = .ok (.iload_n 1, 1) := by decide +kernel
theorem dX4_setHeat_5 : decode cX4_setHeat 5 = .ok (.aload_n 0, 1) := by decide +kernel
theorem dX4_setHeat_6 : decode cX4_setHeat 6 = .ok (.getfield 21, 3) := by decide +kernel
theorem dX4_setHeat_9 : decode cX4_setHeat 9 = .ok (.arraylength, 1) := by decide +kernel
theorem dX4_setHeat_10 : decode cX4_setHeat 10 = .ok (.if_icmp .lt 13, 3) := by decide +kernel
theorem dX4_setHeat_13 : decode cX4_setHeat 13 = .ok (.new 97, 3) := by decide +kernel
theorem dX4_setHeat_16 : decode cX4_setHeat 16 = .ok (.dup, 1) := by decide +kernel
theorem dX4_setHeat_17 : decode cX4_setHeat 17 = .ok (.ldc 99, 2) := by decide +kernel
theorem dX4_setHeat_19 : decode cX4_setHeat 19 = .ok (.invokespecial 101, 3) := by decide +kernel
theorem dX4_setHeat_22 : decode cX4_setHeat 22 = .ok (.athrow, 1) := by decide +kernel
theorem dX4_setHeat_23 : decode cX4_setHeat 23 = .ok (.iload_n 2, 1) := by decide +kernel
theorem dX4_setHeat_24 : decode cX4_setHeat 24 = .ok (.iconst 0, 1) := by decide +kernel
theorem dX4_setHeat_25 : decode cX4_setHeat 25 = .ok (.bipush 40, 2) := by decide +kernel
theorem dX4_setHeat_27 : decode cX4_setHeat 27 = .ok (.invokestatic 44, 3) := by decide +kernel
theorem dX4_setHeat_30 : decode cX4_setHeat 30 = .ok (.ifCond .ne 13, 3) := by decide +kernel
theorem dX4_setHeat_33 : decode cX4_setHeat 33 = .ok (.new 48, 3) := by decide +kernel
theorem dX4_setHeat_36 : decode cX4_setHeat 36 = .ok (.dup, 1) := by decide +kernel
theorem dX4_setHeat_37 : decode cX4_setHeat 37 = .ok (.ldc 102, 2) := by decide +kernel
theorem dX4_setHeat_39 : decode cX4_setHeat 39 = .ok (.invokespecial 52, 3) := by decide +kernel
theorem dX4_setHeat_42 : decode cX4_setHeat 42 = .ok (.athrow, 1) := by decide +kernel
theorem dX4_setHeat_43 : decode cX4_setHeat 43 = .ok (.aload_n 0, 1) := by decide +kernel
theorem dX4_setHeat_44 : decode cX4_setHeat 44 = .ok (.getfield 21, 3) := by decide +kernel
theorem dX4_setHeat_47 : decode cX4_setHeat 47 = .ok (.iload_n 1, 1) := by decide +kernel
theorem dX4_setHeat_48 : decode cX4_setHeat 48 = .ok (.iaload, 1) := by decide +kernel
theorem dX4_setHeat_49 : decode cX4_setHeat 49 = .ok (.istore_n 3, 1) := by decide +kernel
theorem dX4_setHeat_50 : decode cX4_setHeat 50 = .ok (.aload_n 0, 1) := by decide +kernel
theorem dX4_setHeat_51 : decode cX4_setHeat 51 = .ok (.getfield 21, 3) := by decide +kernel
theorem dX4_setHeat_54 : decode cX4_setHeat 54 = .ok (.iload_n 1, 1) := by decide +kernel
theorem dX4_setHeat_55 : decode cX4_setHeat 55 = .ok (.iload_n 2, 1) := by decide +kernel
theorem dX4_setHeat_56 : decode cX4_setHeat 56 = .ok (.iastore, 1) := by decide +kernel
theorem dX4_setHeat_57 : decode cX4_setHeat 57 = .ok (.iload_n 3, 1) := by decide +kernel
theorem dX4_setHeat_58 : decode cX4_setHeat 58 = .ok (.ireturn, 1) := by decide +kernel
set_option maxRecDepth 20000 in
theorem ggX4_bloom_X4_checkValley : GoodIn wsX4_bloom wsX4_checkValley := goodIn_ca (goodIn_r _ [6, 7, 8, 9, 25, 26, 27, 28, 29, 30, 31, 32, 33] (by decide +kernel) (by decide +kernel)) (goodIn_sub (fun _ h => List.mem_cons_of_mem _ (List.mem_append_left _ (List.mem_append_right _ h))) (by decide +kernel))
set_option maxRecDepth 20000 in
theorem gX4_bloom_X4_checkValley : GoodIn wsX4_bloom (wsV RX4 77 RX4 yX4_checkValley wsX4_checkValley) := goodIn_app (goodIn_of _ (by decide +kernel)) ggX4_bloom_X4_checkValley
set_option maxRecDepth 20000 in
theorem ggX4_bloom_X4_checkDay : GoodIn wsX4_bloom wsX4_checkDay := goodIn_ca (goodIn_r _ [12, 13, 14] (by decide +kernel) (by decide +kernel)) (goodIn_sub (fun _ h => List.mem_cons_of_mem _ (List.mem_append_right _ h)) (by decide +kernel))
set_option maxRecDepth 20000 in
theorem gX4_bloom_X4_checkDay : GoodIn wsX4_bloom (va_wsS RX4 104 yX4_checkDay wsX4_checkDay) := goodIn_app (goodIn_of _ (by decide +kernel)) ggX4_bloom_X4_checkDay
set_option maxRecDepth 20000 in
theorem ggX4_bloom_X3_bloomOn : GoodIn wsX4_bloom wsX3_bloomOn := goodIn_r _ [18, 19, 20, 21, 22, 23, 24, 34, 35, 36, 37, 38] (by decide +kernel) (by decide +kernel)
set_option maxRecDepth 20000 in
theorem gX4_bloom_X3_bloomOn_n107 : GoodIn wsX4_bloom (wsX3_bloomOn) := ggX4_bloom_X3_bloomOn
theorem dX4_bloom_0 : decode cX4_bloom 0 = .ok (.aload_n 0, 1) := by decide +kernel
theorem dX4_bloom_1 : decode cX4_bloom 1 = .ok (.iload_n 1, 1) := by decide +kernel
theorem dX4_bloom_2 : decode cX4_bloom 2 = .ok (.invokevirtual 77, 3) := by decide +kernel
theorem dX4_bloom_5 : decode cX4_bloom 5 = .ok (.iload_n 2, 1) := by decide +kernel
theorem dX4_bloom_6 : decode cX4_bloom 6 = .ok (.invokestatic 104, 3) := by decide +kernel
theorem dX4_bloom_9 : decode cX4_bloom 9 = .ok (.aload_n 0, 1) := by decide +kernel
theorem dX4_bloom_10 : decode cX4_bloom 10 = .ok (.getfield 11, 3) := by decide +kernel
theorem dX4_bloom_13 : decode cX4_bloom 13 = .ok (.iload_n 1, 1) := by decide +kernel
theorem dX4_bloom_14 : decode cX4_bloom 14 = .ok (.aaload, 1) := by decide +kernel
theorem dX4_bloom_15 : decode cX4_bloom 15 = .ok (.iload_n 2, 1) := by decide +kernel
theorem dX4_bloom_16 : decode cX4_bloom 16 = .ok (.invokevirtual 107, 3) := by decide +kernel
theorem dX4_bloom_19 : decode cX4_bloom 19 = .ok (.ireturn, 1) := by decide +kernel
set_option maxRecDepth 20000 in
theorem ggX4_way_X4_checkValley : GoodIn wsX4_way wsX4_checkValley := goodIn_ca (goodIn_r _ [6, 7, 8, 9, 21, 22, 23, 24, 25, 26, 27, 28, 29] (by decide +kernel) (by decide +kernel)) (goodIn_sub (fun _ h => List.mem_cons_of_mem _ (List.mem_append_right _ h)) (by decide +kernel))
set_option maxRecDepth 20000 in
theorem gX4_way_X4_checkValley : GoodIn wsX4_way (wsV RX4 77 RX4 yX4_checkValley wsX4_checkValley) := goodIn_app (goodIn_of _ (by decide +kernel)) ggX4_way_X4_checkValley
set_option maxRecDepth 20000 in
theorem ggX4_way_X1_minutesBetween : GoodIn wsX4_way wsX1_minutesBetween := goodIn_r _ [13, 14, 15, 16, 17, 11, 18, 19, 5, 20, 30, 31] (by decide +kernel) (by decide +kernel)
set_option maxRecDepth 20000 in
theorem gX4_way_X1_minutesBetween_n111 : GoodIn wsX4_way (wsX1_minutesBetween) := ggX4_way_X1_minutesBetween
theorem dX4_way_0 : decode cX4_way 0 = .ok (.aload_n 0, 1) := by decide +kernel
theorem dX4_way_1 : decode cX4_way 1 = .ok (.iload_n 1, 1) := by decide +kernel
theorem dX4_way_2 : decode cX4_way 2 = .ok (.invokevirtual 77, 3) := by decide +kernel
theorem dX4_way_5 : decode cX4_way 5 = .ok (.aload_n 0, 1) := by decide +kernel
theorem dX4_way_6 : decode cX4_way 6 = .ok (.iload_n 2, 1) := by decide +kernel
theorem dX4_way_7 : decode cX4_way 7 = .ok (.invokevirtual 77, 3) := by decide +kernel
theorem dX4_way_10 : decode cX4_way 10 = .ok (.aload_n 0, 1) := by decide +kernel
theorem dX4_way_11 : decode cX4_way 11 = .ok (.getfield 28, 3) := by decide +kernel
theorem dX4_way_14 : decode cX4_way 14 = .ok (.iload_n 1, 1) := by decide +kernel
theorem dX4_way_15 : decode cX4_way 15 = .ok (.iload_n 2, 1) := by decide +kernel
theorem dX4_way_16 : decode cX4_way 16 = .ok (.invokevirtual 111, 3) := by decide +kernel
theorem dX4_way_19 : decode cX4_way 19 = .ok (.ireturn, 1) := by decide +kernel
set_option maxRecDepth 20000 in
theorem ggX4_tour_X4_isWithin : GoodIn wsX4_tour wsX4_isWithin := goodIn_r _ [10] (by decide +kernel) (by decide +kernel)
set_option maxRecDepth 20000 in
theorem gX4_tour_X4_isWithin : GoodIn wsX4_tour (va_wsS RX4 44 yX4_isWithin wsX4_isWithin) := goodIn_app (goodIn_of _ (by decide +kernel)) ggX4_tour_X4_isWithin
theorem dX4_tour_0 : decode cX4_tour 0 = .ok (.iload_n 1, 1) := by decide +kernel
theorem dX4_tour_1 : decode cX4_tour 1 = .ok (.iconst 1, 1) := by decide +kernel
theorem dX4_tour_2 : decode cX4_tour 2 = .ok (.bipush 60, 2) := by decide +kernel
theorem dX4_tour_4 : decode cX4_tour 4 = .ok (.invokestatic 44, 3) := by decide +kernel
theorem dX4_tour_7 : decode cX4_tour 7 = .ok (.ifCond .ne 13, 3) := by decide +kernel
theorem dX4_tour_10 : decode cX4_tour 10 = .ok (.new 48, 3) := by decide +kernel
theorem dX4_tour_13 : decode cX4_tour 13 = .ok (.dup, 1) := by decide +kernel
theorem dX4_tour_14 : decode cX4_tour 14 = .ok (.ldc 115, 2) := by decide +kernel
theorem dX4_tour_16 : decode cX4_tour 16 = .ok (.invokespecial 52, 3) := by decide +kernel
theorem dX4_tour_19 : decode cX4_tour 19 = .ok (.athrow, 1) := by decide +kernel
theorem dX4_tour_20 : decode cX4_tour 20 = .ok (.aload_n 0, 1) := by decide +kernel
theorem dX4_tour_21 : decode cX4_tour 21 = .ok (.getfield 117, 3) := by decide +kernel
theorem dX4_tour_24 : decode cX4_tour 24 = .ok (.aload_n 0, 1) := by decide +kernel
theorem dX4_tour_25 : decode cX4_tour 25 = .ok (.getfield 17, 3) := by decide +kernel
theorem dX4_tour_28 : decode cX4_tour 28 = .ok (.arraylength, 1) := by decide +kernel
theorem dX4_tour_29 : decode cX4_tour 29 = .ok (.if_icmp .lt 13, 3) := by decide +kernel
theorem dX4_tour_32 : decode cX4_tour 32 = .ok (.new 63, 3) := by decide +kernel
theorem dX4_tour_35 : decode cX4_tour 35 = .ok (.dup, 1) := by decide +kernel
theorem dX4_tour_36 : decode cX4_tour 36 = .ok (.ldc 120, 2) := by decide +kernel
theorem dX4_tour_38 : decode cX4_tour 38 = .ok (.invokespecial 67, 3) := by decide +kernel
theorem dX4_tour_41 : decode cX4_tour 41 = .ok (.athrow, 1) := by decide +kernel
theorem dX4_tour_42 : decode cX4_tour 42 = .ok (.aload_n 0, 1) := by decide +kernel
theorem dX4_tour_43 : decode cX4_tour 43 = .ok (.getfield 17, 3) := by decide +kernel
theorem dX4_tour_46 : decode cX4_tour 46 = .ok (.aload_n 0, 1) := by decide +kernel
theorem dX4_tour_47 : decode cX4_tour 47 = .ok (.getfield 117, 3) := by decide +kernel
theorem dX4_tour_50 : decode cX4_tour 50 = .ok (.aaload, 1) := by decide +kernel
theorem dX4_tour_51 : decode cX4_tour 51 = .ok (.iload_n 1, 1) := by decide +kernel
theorem dX4_tour_52 : decode cX4_tour 52 = .ok (.putfield 122, 3) := by decide +kernel
theorem dX4_tour_55 : decode cX4_tour 55 = .ok (.aload_n 0, 1) := by decide +kernel
theorem dX4_tour_56 : decode cX4_tour 56 = .ok (.dup, 1) := by decide +kernel
theorem dX4_tour_57 : decode cX4_tour 57 = .ok (.getfield 117, 3) := by decide +kernel
theorem dX4_tour_60 : decode cX4_tour 60 = .ok (.iconst 1, 1) := by decide +kernel
theorem dX4_tour_61 : decode cX4_tour 61 = .ok (.iadd, 1) := by decide +kernel
theorem dX4_tour_62 : decode cX4_tour 62 = .ok (.putfield 117, 3) := by decide +kernel
theorem dX4_tour_65 : decode cX4_tour 65 = .ok (.aload_n 0, 1) := by decide +kernel
theorem dX4_tour_66 : decode cX4_tour 66 = .ok (.getfield 117, 3) := by decide +kernel
theorem dX4_tour_69 : decode cX4_tour 69 = .ok (.iconst 1, 1) := by decide +kernel
theorem dX4_tour_70 : decode cX4_tour 70 = .ok (.isub, 1) := by decide +kernel
theorem dX4_tour_71 : decode cX4_tour 71 = .ok (.ireturn, 1) := by decide +kernel
set_option maxRecDepth 20000 in
theorem ggX4_add_X4_checkTour : GoodIn wsX4_add wsX4_checkTour := goodIn_ca (goodIn_r _ [8, 9, 10, 11, 58, 59, 60, 61, 62, 63, 64, 65, 66] (by decide +kernel) (by decide +kernel)) (goodIn_sub (fun _ h => List.mem_cons_of_mem _ (List.mem_append_right _ h)) (by decide +kernel))
set_option maxRecDepth 20000 in
theorem gX4_add_X4_checkTour : GoodIn wsX4_add (wsV RX4 125 RX4 yX4_checkTour wsX4_checkTour) := goodIn_app (goodIn_of _ (by decide +kernel)) ggX4_add_X4_checkTour
set_option maxRecDepth 20000 in
theorem ggX4_add_X4_checkValley : GoodIn wsX4_add wsX4_checkValley := goodIn_ca (goodIn_r _ [15, 9, 10, 16, 58, 59, 60, 61, 62, 63, 64, 65, 66] (by decide +kernel) (by decide +kernel)) (goodIn_sub (fun _ h => List.mem_cons_of_mem _ (List.mem_append_right _ h)) (by decide +kernel))
set_option maxRecDepth 20000 in
theorem gX4_add_X4_checkValley : GoodIn wsX4_add (wsV RX4 77 RX4 yX4_checkValley wsX4_checkValley) := goodIn_app (goodIn_of _ (by decide +kernel)) ggX4_add_X4_checkValley
set_option maxRecDepth 20000 in
theorem ggX4_add_X2_isFull : GoodIn wsX4_add wsX2_isFull := goodIn_r _ [20, 21, 22, 67, 68, 69, 70] (by decide +kernel) (by decide +kernel)
set_option maxRecDepth 20000 in
theorem gX4_add_X2_isFull_n128 : GoodIn wsX4_add (wsX2_isFull) := ggX4_add_X2_isFull
set_option maxRecDepth 20000 in
theorem ggX4_add_X2_visits : GoodIn wsX4_add wsX2_visits := goodIn_r _ [25, 21, 22, 67, 68, 69, 70] (by decide +kernel) (by decide +kernel)
set_option maxRecDepth 20000 in
theorem gX4_add_X2_visits_n134 : GoodIn wsX4_add (wsX2_visits) := ggX4_add_X2_visits
set_option maxRecDepth 20000 in
theorem ggX4_add_X2_append : GoodIn wsX4_add wsX2_append := goodIn_r _ [28, 22, 21, 29, 17, 19, 18, 20, 67, 68, 69, 70] (by decide +kernel) (by decide +kernel)
set_option maxRecDepth 20000 in
theorem gX4_add_X2_append_n140 : GoodIn wsX4_add (wsX2_append) := ggX4_add_X2_append
set_option maxRecDepth 20000 in
theorem ggX4_add_X4_reckonCrowds : GoodIn wsX4_add wsX4_reckonCrowds := goodIn_r _ [33, 16, 34, 11, 3, 35, 36, 18, 37, 38, 21, 22, 39, 40, 41, 42, 43, 44, 45, 46, 47, 48, 49, 7, 50, 51, 52, 53, 54, 55, 56, 57, 23, 24, 25, 58, 59, 60, 61, 62, 63, 64, 65, 66, 71, 72, 73, 74, 75, 67, 68, 69, 70, 76, 77] (by decide +kernel) (by decide +kernel)
set_option maxRecDepth 20000 in
theorem gX4_add_X4_reckonCrowds : GoodIn wsX4_add (wsV RX4 94 RX4 yX4_reckonCrowds wsX4_reckonCrowds) := goodIn_app (goodIn_of _ (by decide +kernel)) ggX4_add_X4_reckonCrowds
theorem dX4_add_0 : decode cX4_add 0 = .ok (.aload_n 0, 1) := by decide +kernel
theorem dX4_add_1 : decode cX4_add 1 = .ok (.iload_n 1, 1) := by decide +kernel
theorem dX4_add_2 : decode cX4_add 2 = .ok (.invokevirtual 125, 3) := by decide +kernel
theorem dX4_add_5 : decode cX4_add 5 = .ok (.aload_n 0, 1) := by decide +kernel
theorem dX4_add_6 : decode cX4_add 6 = .ok (.iload_n 2, 1) := by decide +kernel
theorem dX4_add_7 : decode cX4_add 7 = .ok (.invokevirtual 77, 3) := by decide +kernel
theorem dX4_add_10 : decode cX4_add 10 = .ok (.aload_n 0, 1) := by decide +kernel
theorem dX4_add_11 : decode cX4_add 11 = .ok (.getfield 17, 3) := by decide +kernel
theorem dX4_add_14 : decode cX4_add 14 = .ok (.iload_n 1, 1) := by decide +kernel
theorem dX4_add_15 : decode cX4_add 15 = .ok (.aaload, 1) := by decide +kernel
theorem dX4_add_16 : decode cX4_add 16 = .ok (.astore_n 3, 1) := by decide +kernel
theorem dX4_add_17 : decode cX4_add 17 = .ok (.aload_n 3, 1) := by decide +kernel
theorem dX4_add_18 : decode cX4_add 18 = .ok (.invokevirtual 128, 3) := by decide +kernel
theorem dX4_add_21 : decode cX4_add 21 = .ok (.ifCond .eq 13, 3) := by decide +kernel
theorem dX4_add_24 : decode cX4_add 24 = .ok (.new 63, 3) := by decide +kernel
theorem dX4_add_27 : decode cX4_add 27 = .ok (.dup, 1) := by decide +kernel
theorem dX4_add_28 : decode cX4_add 28 = .ok (.ldc 132, 2) := by decide +kernel
theorem dX4_add_30 : decode cX4_add 30 = .ok (.invokespecial 67, 3) := by decide +kernel
theorem dX4_add_33 : decode cX4_add 33 = .ok (.athrow, 1) := by decide +kernel
theorem dX4_add_34 : decode cX4_add 34 = .ok (.aload_n 3, 1) := by decide +kernel
theorem dX4_add_35 : decode cX4_add 35 = .ok (.iload_n 2, 1) := by decide +kernel
theorem dX4_add_36 : decode cX4_add 36 = .ok (.invokevirtual 134, 3) := by decide +kernel
theorem dX4_add_39 : decode cX4_add 39 = .ok (.ifCond .eq 13, 3) := by decide +kernel
theorem dX4_add_42 : decode cX4_add 42 = .ok (.new 63, 3) := by decide +kernel
theorem dX4_add_45 : decode cX4_add 45 = .ok (.dup, 1) := by decide +kernel
theorem dX4_add_46 : decode cX4_add 46 = .ok (.ldc 138, 2) := by decide +kernel
theorem dX4_add_48 : decode cX4_add 48 = .ok (.invokespecial 67, 3) := by decide +kernel
theorem dX4_add_51 : decode cX4_add 51 = .ok (.athrow, 1) := by decide +kernel
theorem dX4_add_52 : decode cX4_add 52 = .ok (.aload_n 3, 1) := by decide +kernel
theorem dX4_add_53 : decode cX4_add 53 = .ok (.iload_n 2, 1) := by decide +kernel
theorem dX4_add_54 : decode cX4_add 54 = .ok (.invokevirtual 140, 3) := by decide +kernel
theorem dX4_add_57 : decode cX4_add 57 = .ok (.aload_n 0, 1) := by decide +kernel
theorem dX4_add_58 : decode cX4_add 58 = .ok (.invokevirtual 94, 3) := by decide +kernel
theorem dX4_add_61 : decode cX4_add 61 = .ok (.aload_n 3, 1) := by decide +kernel
theorem dX4_add_62 : decode cX4_add 62 = .ok (.getfield 143, 3) := by decide +kernel
theorem dX4_add_65 : decode cX4_add 65 = .ok (.ireturn, 1) := by decide +kernel
set_option maxRecDepth 20000 in
theorem ggX4_cut_X4_checkTour : GoodIn wsX4_cut wsX4_checkTour := goodIn_ca (goodIn_r _ [8, 9, 10, 11, 50, 51, 52, 53, 54, 55, 56, 57, 58] (by decide +kernel) (by decide +kernel)) (goodIn_sub (fun _ h => List.mem_cons_of_mem _ (List.mem_append_right _ h)) (by decide +kernel))
set_option maxRecDepth 20000 in
theorem gX4_cut_X4_checkTour : GoodIn wsX4_cut (wsV RX4 125 RX4 yX4_checkTour wsX4_checkTour) := goodIn_app (goodIn_of _ (by decide +kernel)) ggX4_cut_X4_checkTour
set_option maxRecDepth 20000 in
theorem ggX4_cut_X2_takeLast : GoodIn wsX4_cut wsX2_takeLast := goodIn_r _ [15, 16, 17, 59, 60, 61, 62] (by decide +kernel) (by decide +kernel)
set_option maxRecDepth 20000 in
theorem gX4_cut_X2_takeLast_n148 : GoodIn wsX4_cut (wsX2_takeLast) := ggX4_cut_X2_takeLast
set_option maxRecDepth 20000 in
theorem ggX4_cut_X4_reckonCrowds : GoodIn wsX4_cut wsX4_reckonCrowds := goodIn_r _ [21, 22, 23, 11, 3, 24, 25, 13, 26, 27, 16, 17, 28, 29, 30, 31, 32, 33, 34, 35, 36, 37, 38, 7, 39, 40, 41, 42, 43, 44, 45, 46, 47, 48, 49, 50, 51, 52, 53, 54, 55, 56, 57, 58, 63, 64, 65, 66, 67, 59, 60, 61, 62, 68, 69] (by decide +kernel) (by decide +kernel)
set_option maxRecDepth 20000 in
theorem gX4_cut_X4_reckonCrowds : GoodIn wsX4_cut (wsV RX4 94 RX4 yX4_reckonCrowds wsX4_reckonCrowds) := goodIn_app (goodIn_of _ (by decide +kernel)) ggX4_cut_X4_reckonCrowds
theorem dX4_cut_0 : decode cX4_cut 0 = .ok (.aload_n 0, 1) := by decide +kernel
theorem dX4_cut_1 : decode cX4_cut 1 = .ok (.iload_n 1, 1) := by decide +kernel
theorem dX4_cut_2 : decode cX4_cut 2 = .ok (.invokevirtual 125, 3) := by decide +kernel
theorem dX4_cut_5 : decode cX4_cut 5 = .ok (.aload_n 0, 1) := by decide +kernel
theorem dX4_cut_6 : decode cX4_cut 6 = .ok (.getfield 17, 3) := by decide +kernel
theorem dX4_cut_9 : decode cX4_cut 9 = .ok (.iload_n 1, 1) := by decide +kernel
theorem dX4_cut_10 : decode cX4_cut 10 = .ok (.aaload, 1) := by decide +kernel
theorem dX4_cut_11 : decode cX4_cut 11 = .ok (.astore_n 2, 1) := by decide +kernel
theorem dX4_cut_12 : decode cX4_cut 12 = .ok (.aload_n 2, 1) := by decide +kernel
theorem dX4_cut_13 : decode cX4_cut 13 = .ok (.getfield 143, 3) := by decide +kernel
theorem dX4_cut_16 : decode cX4_cut 16 = .ok (.ifCond .gt 13, 3) := by decide +kernel
theorem dX4_cut_19 : decode cX4_cut 19 = .ok (.new 63, 3) := by decide +kernel
theorem dX4_cut_22 : decode cX4_cut 22 = .ok (.dup, 1) := by decide +kernel
theorem dX4_cut_23 : decode cX4_cut 23 = .ok (.ldc 146, 2) := by decide +kernel
theorem dX4_cut_25 : decode cX4_cut 25 = .ok (.invokespecial 67, 3) := by decide +kernel
theorem dX4_cut_28 : decode cX4_cut 28 = .ok (.athrow, 1) := by decide +kernel
theorem dX4_cut_29 : decode cX4_cut 29 = .ok (.aload_n 2, 1) := by decide +kernel
theorem dX4_cut_30 : decode cX4_cut 30 = .ok (.invokevirtual 148, 3) := by decide +kernel
theorem dX4_cut_33 : decode cX4_cut 33 = .ok (.istore_n 3, 1) := by decide +kernel
theorem dX4_cut_34 : decode cX4_cut 34 = .ok (.aload_n 0, 1) := by decide +kernel
theorem dX4_cut_35 : decode cX4_cut 35 = .ok (.invokevirtual 94, 3) := by decide +kernel
theorem dX4_cut_38 : decode cX4_cut 38 = .ok (.iload_n 3, 1) := by decide +kernel
theorem dX4_cut_39 : decode cX4_cut 39 = .ok (.ireturn, 1) := by decide +kernel
set_option maxRecDepth 20000 in
theorem ggX4_told_X4_checkTour : GoodIn wsX4_told wsX4_checkTour := goodIn_ca (goodIn_r _ [9, 1, 2, 10, 46, 47, 48, 49, 50, 51, 52, 53, 54] (by decide +kernel) (by decide +kernel)) (goodIn_sub (fun _ h => List.mem_cons_of_mem _ (List.mem_append_right _ h)) (by decide +kernel))
set_option maxRecDepth 20000 in
theorem gX4_told_X4_checkTour : GoodIn wsX4_told (wsV RX4 125 RX4 yX4_checkTour wsX4_checkTour) := goodIn_app (goodIn_of _ (by decide +kernel)) ggX4_told_X4_checkTour
set_option maxRecDepth 20000 in
theorem ggX4_told_X2_canGo : GoodIn wsX4_told wsX2_canGo := goodIn_r _ [14, 15, 16, 17, 8, 18, 55, 56, 57, 58] (by decide +kernel) (by decide +kernel)
set_option maxRecDepth 20000 in
theorem gX4_told_X2_canGo_n155 : GoodIn wsX4_told (wsX2_canGo) := ggX4_told_X2_canGo
set_option maxRecDepth 20000 in
theorem ggX4_told_X4_joyOn : GoodIn wsX4_told wsX4_joyOn := goodIn_r _ [22, 23, 24, 25, 26, 27, 28, 11, 12, 13, 14, 15, 16, 17, 8, 18, 29, 30, 31, 32, 33, 34, 35, 36, 37, 38, 39, 40, 41, 46, 47, 48, 49, 50, 51, 52, 53, 54, 59, 60, 61, 62, 63, 55, 56, 57, 58] (by decide +kernel) (by decide +kernel)
set_option maxRecDepth 20000 in
theorem gX4_told_X4_joyOn : GoodIn wsX4_told (wsV RX4 161 RX4 yX4_joyOn wsX4_joyOn) := goodIn_app (goodIn_of _ (by decide +kernel)) ggX4_told_X4_joyOn
set_option maxRecDepth 20000 in
theorem ggX4_told_X4_stingsOn : GoodIn wsX4_told wsX4_stingsOn := goodIn_r _ [45, 23, 24, 11, 12, 13, 14, 15, 16, 17, 8, 18, 29, 30, 31, 32, 33, 34, 35, 36, 37, 38, 39, 40, 27, 41, 46, 47, 48, 49, 50, 51, 52, 53, 54, 55, 56, 57, 58, 59, 60, 61, 62, 63] (by decide +kernel) (by decide +kernel)
set_option maxRecDepth 20000 in
theorem gX4_told_X4_stingsOn : GoodIn wsX4_told (wsV RX4 165 RX4 yX4_stingsOn wsX4_stingsOn) := goodIn_app (goodIn_of _ (by decide +kernel)) ggX4_told_X4_stingsOn
theorem dX4_told_0 : decode cX4_told 0 = .ok (.aload_n 0, 1) := by decide +kernel
theorem dX4_told_1 : decode cX4_told 1 = .ok (.iload_n 1, 1) := by decide +kernel
theorem dX4_told_2 : decode cX4_told 2 = .ok (.invokevirtual 125, 3) := by decide +kernel
theorem dX4_told_5 : decode cX4_told 5 = .ok (.aload_n 0, 1) := by decide +kernel
theorem dX4_told_6 : decode cX4_told 6 = .ok (.getfield 17, 3) := by decide +kernel
theorem dX4_told_9 : decode cX4_told 9 = .ok (.iload_n 1, 1) := by decide +kernel
theorem dX4_told_10 : decode cX4_told 10 = .ok (.aaload, 1) := by decide +kernel
theorem dX4_told_11 : decode cX4_told 11 = .ok (.astore_n 3, 1) := by decide +kernel
theorem dX4_told_12 : decode cX4_told 12 = .ok (.iload_n 2, 1) := by decide +kernel
theorem dX4_told_13 : decode cX4_told 13 = .ok (.tableswitch 87 0 5 #[39, 44, 49, 54, 67, 77], 39) := by decide +kernel
theorem dX4_told_52 : decode cX4_told 52 = .ok (.aload_n 3, 1) := by decide +kernel
theorem dX4_told_53 : decode cX4_told 53 = .ok (.getfield 122, 3) := by decide +kernel
theorem dX4_told_56 : decode cX4_told 56 = .ok (.ireturn, 1) := by decide +kernel
theorem dX4_told_57 : decode cX4_told 57 = .ok (.aload_n 3, 1) := by decide +kernel
theorem dX4_told_58 : decode cX4_told 58 = .ok (.getfield 143, 3) := by decide +kernel
theorem dX4_told_61 : decode cX4_told 61 = .ok (.ireturn, 1) := by decide +kernel
theorem dX4_told_62 : decode cX4_told 62 = .ok (.aload_n 3, 1) := by decide +kernel
theorem dX4_told_63 : decode cX4_told 63 = .ok (.getfield 152, 3) := by decide +kernel
theorem dX4_told_66 : decode cX4_told 66 = .ok (.ireturn, 1) := by decide +kernel
theorem dX4_told_67 : decode cX4_told 67 = .ok (.aload_n 3, 1) := by decide +kernel
theorem dX4_told_68 : decode cX4_told 68 = .ok (.invokevirtual 155, 3) := by decide +kernel
theorem dX4_told_71 : decode cX4_told 71 = .ok (.ifCond .eq 7, 3) := by decide +kernel
theorem dX4_told_74 : decode cX4_told 74 = .ok (.iconst 1, 1) := by decide +kernel
theorem dX4_told_75 : decode cX4_told 75 = .ok (.goto 4, 3) := by decide +kernel
theorem dX4_told_78 : decode cX4_told 78 = .ok (.iconst 0, 1) := by decide +kernel
theorem dX4_told_79 : decode cX4_told 79 = .ok (.ireturn, 1) := by decide +kernel
theorem dX4_told_80 : decode cX4_told 80 = .ok (.aload_n 0, 1) := by decide +kernel
theorem dX4_told_81 : decode cX4_told 81 = .ok (.aload_n 3, 1) := by decide +kernel
theorem dX4_told_82 : decode cX4_told 82 = .ok (.aload_n 0, 1) := by decide +kernel
theorem dX4_told_83 : decode cX4_told 83 = .ok (.getfield 158, 3) := by decide +kernel
theorem dX4_told_86 : decode cX4_told 86 = .ok (.invokevirtual 161, 3) := by decide +kernel
theorem dX4_told_89 : decode cX4_told 89 = .ok (.ireturn, 1) := by decide +kernel
theorem dX4_told_90 : decode cX4_told 90 = .ok (.aload_n 0, 1) := by decide +kernel
theorem dX4_told_91 : decode cX4_told 91 = .ok (.aload_n 3, 1) := by decide +kernel
theorem dX4_told_92 : decode cX4_told 92 = .ok (.aload_n 0, 1) := by decide +kernel
theorem dX4_told_93 : decode cX4_told 93 = .ok (.getfield 158, 3) := by decide +kernel
theorem dX4_told_96 : decode cX4_told 96 = .ok (.invokevirtual 165, 3) := by decide +kernel
theorem dX4_told_99 : decode cX4_told 99 = .ok (.ireturn, 1) := by decide +kernel
theorem dX4_told_100 : decode cX4_told 100 = .ok (.new 97, 3) := by decide +kernel
theorem dX4_told_103 : decode cX4_told 103 = .ok (.dup, 1) := by decide +kernel
theorem dX4_told_104 : decode cX4_told 104 = .ok (.ldc 168, 2) := by decide +kernel
theorem dX4_told_106 : decode cX4_told 106 = .ok (.invokespecial 101, 3) := by decide +kernel
theorem dX4_told_109 : decode cX4_told 109 = .ok (.athrow, 1) := by decide +kernel
set_option maxRecDepth 20000 in
theorem ggX4_about_X4_checkValley : GoodIn wsX4_about wsX4_checkValley := goodIn_ca (goodIn_r _ [9, 1, 2, 10, 21, 22, 23, 24, 25, 26, 27, 28, 29] (by decide +kernel) (by decide +kernel)) (goodIn_sub (fun _ h => List.mem_cons_of_mem _ (List.mem_append_right _ h)) (by decide +kernel))
set_option maxRecDepth 20000 in
theorem gX4_about_X4_checkValley : GoodIn wsX4_about (wsV RX4 77 RX4 yX4_checkValley wsX4_checkValley) := goodIn_app (goodIn_of _ (by decide +kernel)) ggX4_about_X4_checkValley
set_option maxRecDepth 20000 in
theorem ggX4_about_X3_bloomOn : GoodIn wsX4_about wsX3_bloomOn := goodIn_r _ [14, 15, 16, 17, 18, 19, 20, 30, 31, 32, 33, 34] (by decide +kernel) (by decide +kernel)
set_option maxRecDepth 20000 in
theorem gX4_about_X3_bloomOn_n107 : GoodIn wsX4_about (wsX3_bloomOn) := ggX4_about_X3_bloomOn
theorem dX4_about_0 : decode cX4_about 0 = .ok (.aload_n 0, 1) := by decide +kernel
theorem dX4_about_1 : decode cX4_about 1 = .ok (.iload_n 1, 1) := by decide +kernel
theorem dX4_about_2 : decode cX4_about 2 = .ok (.invokevirtual 77, 3) := by decide +kernel
theorem dX4_about_5 : decode cX4_about 5 = .ok (.aload_n 0, 1) := by decide +kernel
theorem dX4_about_6 : decode cX4_about 6 = .ok (.getfield 11, 3) := by decide +kernel
theorem dX4_about_9 : decode cX4_about 9 = .ok (.iload_n 1, 1) := by decide +kernel
theorem dX4_about_10 : decode cX4_about 10 = .ok (.aaload, 1) := by decide +kernel
theorem dX4_about_11 : decode cX4_about 11 = .ok (.astore_n 3, 1) := by decide +kernel
theorem dX4_about_12 : decode cX4_about 12 = .ok (.iload_n 2, 1) := by decide +kernel
theorem dX4_about_13 : decode cX4_about 13 = .ok (.tableswitch 73 0 5 #[39, 44, 49, 54, 63, 68], 39) := by decide +kernel
theorem dX4_about_52 : decode cX4_about 52 = .ok (.aload_n 3, 1) := by decide +kernel
theorem dX4_about_53 : decode cX4_about 53 = .ok (.getfield 68, 3) := by decide +kernel
theorem dX4_about_56 : decode cX4_about 56 = .ok (.ireturn, 1) := by decide +kernel
theorem dX4_about_57 : decode cX4_about 57 = .ok (.aload_n 3, 1) := by decide +kernel
theorem dX4_about_58 : decode cX4_about 58 = .ok (.getfield 71, 3) := by decide +kernel
theorem dX4_about_61 : decode cX4_about 61 = .ok (.ireturn, 1) := by decide +kernel
theorem dX4_about_62 : decode cX4_about 62 = .ok (.aload_n 3, 1) := by decide +kernel
theorem dX4_about_63 : decode cX4_about 63 = .ok (.getfield 74, 3) := by decide +kernel
theorem dX4_about_66 : decode cX4_about 66 = .ok (.ireturn, 1) := by decide +kernel
theorem dX4_about_67 : decode cX4_about 67 = .ok (.aload_n 3, 1) := by decide +kernel
theorem dX4_about_68 : decode cX4_about 68 = .ok (.aload_n 0, 1) := by decide +kernel
theorem dX4_about_69 : decode cX4_about 69 = .ok (.getfield 158, 3) := by decide +kernel
theorem dX4_about_72 : decode cX4_about 72 = .ok (.invokevirtual 107, 3) := by decide +kernel
theorem dX4_about_75 : decode cX4_about 75 = .ok (.ireturn, 1) := by decide +kernel
theorem dX4_about_76 : decode cX4_about 76 = .ok (.aload_n 3, 1) := by decide +kernel
theorem dX4_about_77 : decode cX4_about 77 = .ok (.getfield 170, 3) := by decide +kernel
theorem dX4_about_80 : decode cX4_about 80 = .ok (.ireturn, 1) := by decide +kernel
theorem dX4_about_81 : decode cX4_about 81 = .ok (.aload_n 3, 1) := by decide +kernel
theorem dX4_about_82 : decode cX4_about 82 = .ok (.getfield 173, 3) := by decide +kernel
theorem dX4_about_85 : decode cX4_about 85 = .ok (.ireturn, 1) := by decide +kernel
theorem dX4_about_86 : decode cX4_about 86 = .ok (.new 97, 3) := by decide +kernel
theorem dX4_about_89 : decode cX4_about 89 = .ok (.dup, 1) := by decide +kernel
theorem dX4_about_90 : decode cX4_about 90 = .ok (.ldc 168, 2) := by decide +kernel
theorem dX4_about_92 : decode cX4_about 92 = .ok (.invokespecial 101, 3) := by decide +kernel
theorem dX4_about_95 : decode cX4_about 95 = .ok (.athrow, 1) := by decide +kernel
set_option maxRecDepth 20000 in
theorem ggX4_count_X4_toursThatCanGo : GoodIn wsX4_count wsX4_toursThatCanGo := goodIn_r _ [12, 6, 13, 14, 15, 16, 17, 18, 19, 20, 11, 21, 37, 38, 39, 40, 41, 42, 43, 44, 45, 51, 52, 53, 54] (by decide +kernel) (by decide +kernel)
set_option maxRecDepth 20000 in
theorem gX4_count_X4_toursThatCanGo : GoodIn wsX4_count (wsV RX4 176 RX4 yX4_toursThatCanGo wsX4_toursThatCanGo) := goodIn_app (goodIn_of _ (by decide +kernel)) ggX4_count_X4_toursThatCanGo
set_option maxRecDepth 20000 in
theorem ggX4_count_X4_valleysInBloomOn : GoodIn wsX4_count wsX4_valleysInBloomOn := goodIn_r _ [25, 4, 26, 27, 28, 29, 30, 31, 32, 33, 34, 35, 36, 37, 38, 39, 40, 41, 42, 43, 44, 45, 55, 56, 57, 58, 59] (by decide +kernel) (by decide +kernel)
set_option maxRecDepth 20000 in
theorem gX4_count_X4_valleysInBloomOn : GoodIn wsX4_count (wsV RX4 179 RX4 yX4_valleysInBloomOn wsX4_valleysInBloomOn) := goodIn_app (goodIn_of _ (by decide +kernel)) ggX4_count_X4_valleysInBloomOn
theorem dX4_count_0 : decode cX4_count 0 = .ok (.iload_n 1, 1) := by decide +kernel
theorem dX4_count_1 : decode cX4_count 1 = .ok (.tableswitch 112 0 8 #[51, 56, 61, 69, 74, 79, 88, 96, 104], 51) := by decide +kernel
theorem dX4_count_52 : decode cX4_count 52 = .ok (.aload_n 0, 1) := by decide +kernel
theorem dX4_count_53 : decode cX4_count 53 = .ok (.getfield 158, 3) := by decide +kernel
theorem dX4_count_56 : decode cX4_count 56 = .ok (.ireturn, 1) := by decide +kernel
theorem dX4_count_57 : decode cX4_count 57 = .ok (.aload_n 0, 1) := by decide +kernel
theorem dX4_count_58 : decode cX4_count 58 = .ok (.getfield 59, 3) := by decide +kernel
theorem dX4_count_61 : decode cX4_count 61 = .ok (.ireturn, 1) := by decide +kernel
theorem dX4_count_62 : decode cX4_count 62 = .ok (.aload_n 0, 1) := by decide +kernel
theorem dX4_count_63 : decode cX4_count 63 = .ok (.getfield 28, 3) := by decide +kernel
theorem dX4_count_66 : decode cX4_count 66 = .ok (.getfield 85, 3) := by decide +kernel
theorem dX4_count_69 : decode cX4_count 69 = .ok (.ireturn, 1) := by decide +kernel
theorem dX4_count_70 : decode cX4_count 70 = .ok (.aload_n 0, 1) := by decide +kernel
theorem dX4_count_71 : decode cX4_count 71 = .ok (.getfield 117, 3) := by decide +kernel
theorem dX4_count_74 : decode cX4_count 74 = .ok (.ireturn, 1) := by decide +kernel
theorem dX4_count_75 : decode cX4_count 75 = .ok (.aload_n 0, 1) := by decide +kernel
theorem dX4_count_76 : decode cX4_count 76 = .ok (.invokevirtual 176, 3) := by decide +kernel
theorem dX4_count_79 : decode cX4_count 79 = .ok (.ireturn, 1) := by decide +kernel
theorem dX4_count_80 : decode cX4_count 80 = .ok (.aload_n 0, 1) := by decide +kernel
theorem dX4_count_81 : decode cX4_count 81 = .ok (.aload_n 0, 1) := by decide +kernel
theorem dX4_count_82 : decode cX4_count 82 = .ok (.getfield 158, 3) := by decide +kernel
theorem dX4_count_85 : decode cX4_count 85 = .ok (.invokevirtual 179, 3) := by decide +kernel
theorem dX4_count_88 : decode cX4_count 88 = .ok (.ireturn, 1) := by decide +kernel
theorem dX4_count_89 : decode cX4_count 89 = .ok (.aload_n 0, 1) := by decide +kernel
theorem dX4_count_90 : decode cX4_count 90 = .ok (.getfield 35, 3) := by decide +kernel
theorem dX4_count_93 : decode cX4_count 93 = .ok (.getfield 182, 3) := by decide +kernel
theorem dX4_count_96 : decode cX4_count 96 = .ok (.ireturn, 1) := by decide +kernel
theorem dX4_count_97 : decode cX4_count 97 = .ok (.aload_n 0, 1) := by decide +kernel
theorem dX4_count_98 : decode cX4_count 98 = .ok (.getfield 35, 3) := by decide +kernel
theorem dX4_count_101 : decode cX4_count 101 = .ok (.getfield 185, 3) := by decide +kernel
theorem dX4_count_104 : decode cX4_count 104 = .ok (.ireturn, 1) := by decide +kernel
theorem dX4_count_105 : decode cX4_count 105 = .ok (.aload_n 0, 1) := by decide +kernel
theorem dX4_count_106 : decode cX4_count 106 = .ok (.getfield 35, 3) := by decide +kernel
theorem dX4_count_109 : decode cX4_count 109 = .ok (.getfield 188, 3) := by decide +kernel
theorem dX4_count_112 : decode cX4_count 112 = .ok (.ireturn, 1) := by decide +kernel
theorem dX4_count_113 : decode cX4_count 113 = .ok (.new 97, 3) := by decide +kernel
theorem dX4_count_116 : decode cX4_count 116 = .ok (.dup, 1) := by decide +kernel
theorem dX4_count_117 : decode cX4_count 117 = .ok (.ldc 191, 2) := by decide +kernel
theorem dX4_count_119 : decode cX4_count 119 = .ok (.invokespecial 101, 3) := by decide +kernel
theorem dX4_count_122 : decode cX4_count 122 = .ok (.athrow, 1) := by decide +kernel
set_option maxRecDepth 20000 in
theorem ggX4_pass_X4_checkSpan : GoodIn wsX4_pass wsX4_checkSpan := goodIn_ca (goodIn_r _ [6, 7, 8, 9, 10, 5, 11] (by decide +kernel) (by decide +kernel)) (goodIn_sub (fun _ h => List.mem_cons_of_mem _ (List.mem_append_right _ h)) (by decide +kernel))
set_option maxRecDepth 20000 in
theorem gX4_pass_X4_checkSpan : GoodIn wsX4_pass (va_wsS RX4 193 yX4_checkSpan wsX4_checkSpan) := goodIn_app (goodIn_of _ (by decide +kernel)) ggX4_pass_X4_checkSpan
set_option maxRecDepth 20000 in
theorem ggX4_pass_X4_enterDays : GoodIn wsX4_pass wsX4_enterDays := goodIn_r _ [15, 2, 16, 17, 18, 5, 19, 20, 21, 22, 23, 24, 25, 26, 27, 28, 29, 30, 31, 32, 10, 11, 33, 34, 35, 36, 37, 38, 39, 40, 41, 42, 43, 44, 45, 46, 47, 48, 49, 50, 51, 52, 53, 54, 55, 56, 57, 58, 59, 60, 61, 62, 63, 64, 65, 66, 67, 68, 69, 70, 71, 72, 73, 74, 75, 76, 77, 78, 79, 80] (by decide +kernel) (by decide +kernel)
set_option maxRecDepth 20000 in
theorem gX4_pass_X4_enterDays : GoodIn wsX4_pass (wsV RX4 196 RX4 yX4_enterDays wsX4_enterDays) := goodIn_app (goodIn_of _ (by decide +kernel)) ggX4_pass_X4_enterDays
theorem dX4_pass_0 : decode cX4_pass 0 = .ok (.iload_n 1, 1) := by decide +kernel
theorem dX4_pass_1 : decode cX4_pass 1 = .ok (.invokestatic 193, 3) := by decide +kernel
theorem dX4_pass_4 : decode cX4_pass 4 = .ok (.aload_n 0, 1) := by decide +kernel
theorem dX4_pass_5 : decode cX4_pass 5 = .ok (.getfield 35, 3) := by decide +kernel
theorem dX4_pass_8 : decode cX4_pass 8 = .ok (.getfield 182, 3) := by decide +kernel
theorem dX4_pass_11 : decode cX4_pass 11 = .ok (.istore_n 2, 1) := by decide +kernel
theorem dX4_pass_12 : decode cX4_pass 12 = .ok (.aload_n 0, 1) := by decide +kernel
theorem dX4_pass_13 : decode cX4_pass 13 = .ok (.aload_n 0, 1) := by decide +kernel
theorem dX4_pass_14 : decode cX4_pass 14 = .ok (.getfield 35, 3) := by decide +kernel
theorem dX4_pass_17 : decode cX4_pass 17 = .ok (.iload_n 1, 1) := by decide +kernel
theorem dX4_pass_18 : decode cX4_pass 18 = .ok (.invokevirtual 196, 3) := by decide +kernel
theorem dX4_pass_21 : decode cX4_pass 21 = .ok (.aload_n 0, 1) := by decide +kernel
theorem dX4_pass_22 : decode cX4_pass 22 = .ok (.dup, 1) := by decide +kernel
theorem dX4_pass_23 : decode cX4_pass 23 = .ok (.getfield 158, 3) := by decide +kernel
theorem dX4_pass_26 : decode cX4_pass 26 = .ok (.iload_n 1, 1) := by decide +kernel
theorem dX4_pass_27 : decode cX4_pass 27 = .ok (.iadd, 1) := by decide +kernel
theorem dX4_pass_28 : decode cX4_pass 28 = .ok (.putfield 158, 3) := by decide +kernel
theorem dX4_pass_31 : decode cX4_pass 31 = .ok (.aload_n 0, 1) := by decide +kernel
theorem dX4_pass_32 : decode cX4_pass 32 = .ok (.getfield 35, 3) := by decide +kernel
theorem dX4_pass_35 : decode cX4_pass 35 = .ok (.getfield 182, 3) := by decide +kernel
theorem dX4_pass_38 : decode cX4_pass 38 = .ok (.iload_n 2, 1) := by decide +kernel
theorem dX4_pass_39 : decode cX4_pass 39 = .ok (.isub, 1) := by decide +kernel
theorem dX4_pass_40 : decode cX4_pass 40 = .ok (.ireturn, 1) := by decide +kernel
set_option maxRecDepth 20000 in
theorem ggX4_joy_X4_checkTour : GoodIn wsX4_joy wsX4_checkTour := goodIn_ca (goodIn_r _ [6, 7, 8, 9, 46, 47, 48, 49, 50, 51, 52, 53, 54] (by decide +kernel) (by decide +kernel)) (goodIn_sub (fun _ h => List.mem_cons_of_mem _ (List.mem_append_left _ (List.mem_append_right _ h))) (by decide +kernel))
set_option maxRecDepth 20000 in
theorem gX4_joy_X4_checkTour : GoodIn wsX4_joy (wsV RX4 125 RX4 yX4_checkTour wsX4_checkTour) := goodIn_app (goodIn_of _ (by decide +kernel)) ggX4_joy_X4_checkTour
set_option maxRecDepth 20000 in
theorem ggX4_joy_X4_checkDay : GoodIn wsX4_joy wsX4_checkDay := goodIn_ca (goodIn_r _ [12, 13, 14] (by decide +kernel) (by decide +kernel)) (goodIn_sub (fun _ h => List.mem_cons_of_mem _ (List.mem_append_right _ h)) (by decide +kernel))
set_option maxRecDepth 20000 in
theorem gX4_joy_X4_checkDay : GoodIn wsX4_joy (va_wsS RX4 104 yX4_checkDay wsX4_checkDay) := goodIn_app (goodIn_of _ (by decide +kernel)) ggX4_joy_X4_checkDay
set_option maxRecDepth 20000 in
theorem ggX4_joy_X4_joyOn : GoodIn wsX4_joy wsX4_joyOn := goodIn_r _ [18, 19, 20, 21, 22, 23, 24, 25, 26, 27, 28, 29, 30, 31, 5, 32, 33, 34, 35, 36, 37, 38, 39, 40, 41, 42, 43, 44, 45, 46, 47, 48, 49, 50, 51, 52, 53, 54, 55, 56, 57, 58, 59, 60, 61, 62, 63] (by decide +kernel) (by decide +kernel)
set_option maxRecDepth 20000 in
theorem gX4_joy_X4_joyOn : GoodIn wsX4_joy (wsV RX4 161 RX4 yX4_joyOn wsX4_joyOn) := goodIn_app (goodIn_of _ (by decide +kernel)) ggX4_joy_X4_joyOn
theorem dX4_joy_0 : decode cX4_joy 0 = .ok (.aload_n 0, 1) := by decide +kernel
theorem dX4_joy_1 : decode cX4_joy 1 = .ok (.iload_n 1, 1) := by decide +kernel
theorem dX4_joy_2 : decode cX4_joy 2 = .ok (.invokevirtual 125, 3) := by decide +kernel
theorem dX4_joy_5 : decode cX4_joy 5 = .ok (.iload_n 2, 1) := by decide +kernel
theorem dX4_joy_6 : decode cX4_joy 6 = .ok (.invokestatic 104, 3) := by decide +kernel
theorem dX4_joy_9 : decode cX4_joy 9 = .ok (.aload_n 0, 1) := by decide +kernel
theorem dX4_joy_10 : decode cX4_joy 10 = .ok (.aload_n 0, 1) := by decide +kernel
theorem dX4_joy_11 : decode cX4_joy 11 = .ok (.getfield 17, 3) := by decide +kernel
theorem dX4_joy_14 : decode cX4_joy 14 = .ok (.iload_n 1, 1) := by decide +kernel
theorem dX4_joy_15 : decode cX4_joy 15 = .ok (.aaload, 1) := by decide +kernel
theorem dX4_joy_16 : decode cX4_joy 16 = .ok (.iload_n 2, 1) := by decide +kernel
theorem dX4_joy_17 : decode cX4_joy 17 = .ok (.invokevirtual 161, 3) := by decide +kernel
theorem dX4_joy_20 : decode cX4_joy 20 = .ok (.ireturn, 1) := by decide +kernel
set_option maxRecDepth 20000 in
theorem ggX4_best_X4_checkTour : GoodIn wsX4_best wsX4_checkTour := goodIn_ca (goodIn_r _ [7, 8, 9, 10, 42, 43, 44, 45, 46, 47, 48, 49, 50] (by decide +kernel) (by decide +kernel)) (goodIn_sub (fun _ h => List.mem_cons_of_mem _ (List.mem_append_right _ h)) (by decide +kernel))
set_option maxRecDepth 20000 in
theorem gX4_best_X4_checkTour : GoodIn wsX4_best (wsV RX4 125 RX4 yX4_checkTour wsX4_checkTour) := goodIn_app (goodIn_of _ (by decide +kernel)) ggX4_best_X4_checkTour
set_option maxRecDepth 20000 in
theorem ggX4_best_X4_joyOn : GoodIn wsX4_best wsX4_joyOn := goodIn_r _ [14, 15, 16, 17, 18, 19, 20, 21, 22, 23, 24, 25, 26, 27, 6, 28, 29, 30, 31, 32, 33, 34, 35, 36, 37, 38, 39, 40, 41, 42, 43, 44, 45, 46, 47, 48, 49, 50, 51, 52, 53, 54, 55, 56, 57, 58, 59] (by decide +kernel) (by decide +kernel)
set_option maxRecDepth 20000 in
theorem gX4_best_X4_joyOn : GoodIn wsX4_best (wsV RX4 161 RX4 yX4_joyOn wsX4_joyOn) := goodIn_app (goodIn_of _ (by decide +kernel)) ggX4_best_X4_joyOn
theorem dX4_best_0 : decode cX4_best 0 = .ok (.aload_n 0, 1) := by decide +kernel
theorem dX4_best_1 : decode cX4_best 1 = .ok (.iload_n 1, 1) := by decide +kernel
theorem dX4_best_2 : decode cX4_best 2 = .ok (.invokevirtual 125, 3) := by decide +kernel
theorem dX4_best_5 : decode cX4_best 5 = .ok (.iconst (-1), 1) := by decide +kernel
theorem dX4_best_6 : decode cX4_best 6 = .ok (.istore_n 2, 1) := by decide +kernel
theorem dX4_best_7 : decode cX4_best 7 = .ok (.iconst 0, 1) := by decide +kernel
theorem dX4_best_8 : decode cX4_best 8 = .ok (.istore_n 3, 1) := by decide +kernel
theorem dX4_best_9 : decode cX4_best 9 = .ok (.iconst 0, 1) := by decide +kernel
theorem dX4_best_10 : decode cX4_best 10 = .ok (.istore 4, 2) := by decide +kernel
theorem dX4_best_12 : decode cX4_best 12 = .ok (.iload 4, 2) := by decide +kernel
theorem dX4_best_14 : decode cX4_best 14 = .ok (.bipush 120, 2) := by decide +kernel
theorem dX4_best_16 : decode cX4_best 16 = .ok (.if_icmp .ge 45, 3) := by decide +kernel
theorem dX4_best_19 : decode cX4_best 19 = .ok (.aload_n 0, 1) := by decide +kernel
theorem dX4_best_20 : decode cX4_best 20 = .ok (.aload_n 0, 1) := by decide +kernel
theorem dX4_best_21 : decode cX4_best 21 = .ok (.getfield 17, 3) := by decide +kernel
theorem dX4_best_24 : decode cX4_best 24 = .ok (.iload_n 1, 1) := by decide +kernel
theorem dX4_best_25 : decode cX4_best 25 = .ok (.aaload, 1) := by decide +kernel
theorem dX4_best_26 : decode cX4_best 26 = .ok (.aload_n 0, 1) := by decide +kernel
theorem dX4_best_27 : decode cX4_best 27 = .ok (.getfield 158, 3) := by decide +kernel
theorem dX4_best_30 : decode cX4_best 30 = .ok (.iload 4, 2) := by decide +kernel
theorem dX4_best_32 : decode cX4_best 32 = .ok (.iadd, 1) := by decide +kernel
theorem dX4_best_33 : decode cX4_best 33 = .ok (.invokevirtual 161, 3) := by decide +kernel
theorem dX4_best_36 : decode cX4_best 36 = .ok (.istore 5, 2) := by decide +kernel
theorem dX4_best_38 : decode cX4_best 38 = .ok (.iload 5, 2) := by decide +kernel
theorem dX4_best_40 : decode cX4_best 40 = .ok (.iload_n 3, 1) := by decide +kernel
theorem dX4_best_41 : decode cX4_best 41 = .ok (.if_icmp .le 14, 3) := by decide +kernel
theorem dX4_best_44 : decode cX4_best 44 = .ok (.iload 5, 2) := by decide +kernel
theorem dX4_best_46 : decode cX4_best 46 = .ok (.istore_n 3, 1) := by decide +kernel
theorem dX4_best_47 : decode cX4_best 47 = .ok (.aload_n 0, 1) := by decide +kernel
theorem dX4_best_48 : decode cX4_best 48 = .ok (.getfield 158, 3) := by decide +kernel
theorem dX4_best_51 : decode cX4_best 51 = .ok (.iload 4, 2) := by decide +kernel
theorem dX4_best_53 : decode cX4_best 53 = .ok (.iadd, 1) := by decide +kernel
theorem dX4_best_54 : decode cX4_best 54 = .ok (.istore_n 2, 1) := by decide +kernel
theorem dX4_best_55 : decode cX4_best 55 = .ok (.iinc 4 1, 3) := by decide +kernel
theorem dX4_best_58 : decode cX4_best 58 = .ok (.goto (-46), 3) := by decide +kernel
theorem dX4_best_61 : decode cX4_best 61 = .ok (.iload_n 2, 1) := by decide +kernel
theorem dX4_best_62 : decode cX4_best 62 = .ok (.ireturn, 1) := by decide +kernel
set_option maxRecDepth 20000 in
theorem ggX4_advise_X4_checkTour : GoodIn wsX4_advise wsX4_checkTour := goodIn_ca (goodIn_r _ [8, 9, 10, 11, 77, 78, 79, 80, 81, 82, 83, 84, 85] (by decide +kernel) (by decide +kernel)) (goodIn_sub (fun _ h => List.mem_cons_of_mem _ (List.mem_append_right _ h)) (by decide +kernel))
set_option maxRecDepth 20000 in
theorem gX4_advise_X4_checkTour : GoodIn wsX4_advise (wsV RX4 125 RX4 yX4_checkTour wsX4_checkTour) := goodIn_app (goodIn_of _ (by decide +kernel)) ggX4_advise_X4_checkTour
set_option maxRecDepth 20000 in
theorem ggX4_advise_X2_isFull : GoodIn wsX4_advise wsX2_isFull := goodIn_r _ [15, 16, 17, 86, 87, 88, 89] (by decide +kernel) (by decide +kernel)
set_option maxRecDepth 20000 in
theorem gX4_advise_X2_isFull_n128 : GoodIn wsX4_advise (wsX2_isFull) := ggX4_advise_X2_isFull
set_option maxRecDepth 20000 in
theorem ggX4_advise_X4_joyOn : GoodIn wsX4_advise wsX4_joyOn := goodIn_r _ [21, 3, 22, 23, 24, 25, 26, 27, 13, 28, 29, 16, 30, 31, 7, 32, 33, 34, 35, 17, 36, 37, 38, 39, 40, 41, 42, 43, 44, 77, 78, 79, 80, 81, 82, 83, 84, 85, 90, 91, 92, 93, 94, 86, 87, 88, 89] (by decide +kernel) (by decide +kernel)
set_option maxRecDepth 20000 in
theorem gX4_advise_X4_joyOn : GoodIn wsX4_advise (wsV RX4 161 RX4 yX4_joyOn wsX4_joyOn) := goodIn_app (goodIn_of _ (by decide +kernel)) ggX4_advise_X4_joyOn
set_option maxRecDepth 20000 in
theorem ggX4_advise_X2_visits : GoodIn wsX4_advise wsX2_visits := goodIn_r _ [35, 16, 17, 86, 87, 88, 89] (by decide +kernel) (by decide +kernel)
set_option maxRecDepth 20000 in
theorem gX4_advise_X2_visits_n134 : GoodIn wsX4_advise (wsX2_visits) := ggX4_advise_X2_visits
set_option maxRecDepth 20000 in
theorem ggX4_advise_X4_joyWithStopAdded : GoodIn wsX4_advise wsX4_joyWithStopAdded := goodIn_r _ [48, 2, 49, 13, 50, 51, 17, 16, 52, 12, 14, 15, 53, 54, 55, 7, 56, 3, 22, 11, 1, 57, 58, 59, 60, 30, 61, 62, 63, 64, 65, 66, 67, 68, 69, 31, 32, 27, 28, 29, 70, 71, 72, 73, 33, 34, 35, 18, 19, 20, 21, 23, 24, 25, 26, 36, 37, 38, 39, 40, 41, 42, 43, 44, 74, 75, 76, 77, 78, 79, 80, 81, 82, 83, 84, 85, 86, 87, 88, 89, 90, 91, 92, 93, 94, 95, 96] (by decide +kernel) (by decide +kernel)
set_option maxRecDepth 20000 in
theorem gX4_advise_X4_joyWithStopAdded : GoodIn wsX4_advise (wsV RX4 200 RX4 yX4_joyWithStopAdded wsX4_joyWithStopAdded) := goodIn_app (goodIn_of _ (by decide +kernel)) ggX4_advise_X4_joyWithStopAdded
theorem dX4_advise_0 : decode cX4_advise 0 = .ok (.aload_n 0, 1) := by decide +kernel
theorem dX4_advise_1 : decode cX4_advise 1 = .ok (.iload_n 1, 1) := by decide +kernel
theorem dX4_advise_2 : decode cX4_advise 2 = .ok (.invokevirtual 125, 3) := by decide +kernel
theorem dX4_advise_5 : decode cX4_advise 5 = .ok (.aload_n 0, 1) := by decide +kernel
theorem dX4_advise_6 : decode cX4_advise 6 = .ok (.getfield 17, 3) := by decide +kernel
theorem dX4_advise_9 : decode cX4_advise 9 = .ok (.iload_n 1, 1) := by decide +kernel
theorem dX4_advise_10 : decode cX4_advise 10 = .ok (.aaload, 1) := by decide +kernel
theorem dX4_advise_11 : decode cX4_advise 11 = .ok (.astore_n 2, 1) := by decide +kernel
theorem dX4_advise_12 : decode cX4_advise 12 = .ok (.aload_n 2, 1) := by decide +kernel
theorem dX4_advise_13 : decode cX4_advise 13 = .ok (.invokevirtual 128, 3) := by decide +kernel
theorem dX4_advise_16 : decode cX4_advise 16 = .ok (.ifCond .eq 5, 3) := by decide +kernel
theorem dX4_advise_19 : decode cX4_advise 19 = .ok (.iconst (-1), 1) := by decide +kernel
theorem dX4_advise_20 : decode cX4_advise 20 = .ok (.ireturn, 1) := by decide +kernel
theorem dX4_advise_21 : decode cX4_advise 21 = .ok (.iconst (-1), 1) := by decide +kernel
theorem dX4_advise_22 : decode cX4_advise 22 = .ok (.istore_n 3, 1) := by decide +kernel
theorem dX4_advise_23 : decode cX4_advise 23 = .ok (.aload_n 0, 1) := by decide +kernel
theorem dX4_advise_24 : decode cX4_advise 24 = .ok (.aload_n 2, 1) := by decide +kernel
theorem dX4_advise_25 : decode cX4_advise 25 = .ok (.aload_n 0, 1) := by decide +kernel
theorem dX4_advise_26 : decode cX4_advise 26 = .ok (.getfield 158, 3) := by decide +kernel
theorem dX4_advise_29 : decode cX4_advise 29 = .ok (.invokevirtual 161, 3) := by decide +kernel
theorem dX4_advise_32 : decode cX4_advise 32 = .ok (.istore 4, 2) := by decide +kernel
theorem dX4_advise_34 : decode cX4_advise 34 = .ok (.iconst 0, 1) := by decide +kernel
theorem dX4_advise_35 : decode cX4_advise 35 = .ok (.istore 5, 2) := by decide +kernel
theorem dX4_advise_37 : decode cX4_advise 37 = .ok (.iload 5, 2) := by decide +kernel
theorem dX4_advise_39 : decode cX4_advise 39 = .ok (.aload_n 0, 1) := by decide +kernel
theorem dX4_advise_40 : decode cX4_advise 40 = .ok (.getfield 59, 3) := by decide +kernel
theorem dX4_advise_43 : decode cX4_advise 43 = .ok (.if_icmp .ge 45, 3) := by decide +kernel
theorem dX4_advise_46 : decode cX4_advise 46 = .ok (.aload_n 2, 1) := by decide +kernel
theorem dX4_advise_47 : decode cX4_advise 47 = .ok (.iload 5, 2) := by decide +kernel
theorem dX4_advise_49 : decode cX4_advise 49 = .ok (.invokevirtual 134, 3) := by decide +kernel
theorem dX4_advise_52 : decode cX4_advise 52 = .ok (.ifCond .eq 7, 3) := by decide +kernel
theorem dX4_advise_55 : decode cX4_advise 55 = .ok (.iconst 0, 1) := by decide +kernel
theorem dX4_advise_56 : decode cX4_advise 56 = .ok (.goto 10, 3) := by decide +kernel
theorem dX4_advise_59 : decode cX4_advise 59 = .ok (.aload_n 0, 1) := by decide +kernel
theorem dX4_advise_60 : decode cX4_advise 60 = .ok (.aload_n 2, 1) := by decide +kernel
theorem dX4_advise_61 : decode cX4_advise 61 = .ok (.iload 5, 2) := by decide +kernel
theorem dX4_advise_63 : decode cX4_advise 63 = .ok (.invokevirtual 200, 3) := by decide +kernel
