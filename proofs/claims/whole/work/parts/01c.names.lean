theorem dX4_advise_66 : decode cX4_advise 66 = .ok (.istore 6, 2) := by decide +kernel
theorem dX4_advise_68 : decode cX4_advise 68 = .ok (.iload 6, 2) := by decide +kernel
theorem dX4_advise_70 : decode cX4_advise 70 = .ok (.iload 4, 2) := by decide +kernel
theorem dX4_advise_72 : decode cX4_advise 72 = .ok (.if_icmp .le 10, 3) := by decide +kernel
theorem dX4_advise_75 : decode cX4_advise 75 = .ok (.iload 6, 2) := by decide +kernel
theorem dX4_advise_77 : decode cX4_advise 77 = .ok (.istore 4, 2) := by decide +kernel
theorem dX4_advise_79 : decode cX4_advise 79 = .ok (.iload 5, 2) := by decide +kernel
theorem dX4_advise_81 : decode cX4_advise 81 = .ok (.istore_n 3, 1) := by decide +kernel
theorem dX4_advise_82 : decode cX4_advise 82 = .ok (.iinc 5 1, 3) := by decide +kernel
theorem dX4_advise_85 : decode cX4_advise 85 = .ok (.goto (-48), 3) := by decide +kernel
theorem dX4_advise_88 : decode cX4_advise 88 = .ok (.iload_n 3, 1) := by decide +kernel
theorem dX4_advise_89 : decode cX4_advise 89 = .ok (.ireturn, 1) := by decide +kernel
set_option maxRecDepth 20000 in
theorem ggX4_foresee_X4_checkSpan : GoodIn wsX4_foresee wsX4_checkSpan := goodIn_ca (goodIn_r _ [9, 10, 11, 12, 13, 8, 14] (by decide +kernel) (by decide +kernel)) (goodIn_sub (fun _ h => List.mem_cons_of_mem _ (List.mem_append_right _ h)) (by decide +kernel))
set_option maxRecDepth 20000 in
theorem gX4_foresee_X4_checkSpan : GoodIn wsX4_foresee (va_wsS RX4 193 yX4_checkSpan wsX4_checkSpan) := goodIn_app (goodIn_of _ (by decide +kernel)) ggX4_foresee_X4_checkSpan
set_option maxRecDepth 20000 in
theorem ggX4_foresee_X0_copyFrom : GoodIn wsX4_foresee wsX0_copyFrom := goodIn_r _ [18, 19, 20, 21, 83, 84, 85] (by decide +kernel) (by decide +kernel)
set_option maxRecDepth 20000 in
theorem gX4_foresee_X0_copyFrom_n203 : GoodIn wsX4_foresee (wsX0_copyFrom) := ggX4_foresee_X0_copyFrom
set_option maxRecDepth 20000 in
theorem ggX4_foresee_X4_enterDays : GoodIn wsX4_foresee wsX4_enterDays := goodIn_r _ [25, 5, 26, 27, 28, 8, 29, 30, 31, 32, 33, 34, 35, 36, 37, 38, 39, 40, 41, 42, 13, 14, 43, 44, 45, 46, 47, 48, 49, 50, 51, 52, 53, 54, 55, 56, 57, 58, 59, 60, 61, 62, 63, 64, 65, 66, 67, 68, 69, 74, 75, 76, 77, 78, 79, 80, 81, 82, 83, 84, 85, 86, 87, 88, 89, 90, 91, 92, 93, 94] (by decide +kernel) (by decide +kernel)
set_option maxRecDepth 20000 in
theorem gX4_foresee_X4_enterDays : GoodIn wsX4_foresee (wsV RX4 196 RX4 yX4_enterDays wsX4_enterDays) := goodIn_app (goodIn_of _ (by decide +kernel)) ggX4_foresee_X4_enterDays
set_option maxRecDepth 20000 in
theorem ggX4_foresee_X4_valleysInBloomOn : GoodIn wsX4_foresee wsX4_valleysInBloomOn := goodIn_r _ [73, 47, 48, 57, 58, 59, 60, 61, 62, 63, 64, 51, 65, 74, 75, 76, 77, 78, 79, 80, 81, 82, 90, 91, 92, 93, 94] (by decide +kernel) (by decide +kernel)
set_option maxRecDepth 20000 in
theorem gX4_foresee_X4_valleysInBloomOn : GoodIn wsX4_foresee (wsV RX4 179 RX4 yX4_valleysInBloomOn wsX4_valleysInBloomOn) := goodIn_app (goodIn_of _ (by decide +kernel)) ggX4_foresee_X4_valleysInBloomOn
theorem dX4_foresee_0 : decode cX4_foresee 0 = .ok (.iload_n 1, 1) := by decide +kernel
theorem dX4_foresee_1 : decode cX4_foresee 1 = .ok (.invokestatic 193, 3) := by decide +kernel
theorem dX4_foresee_4 : decode cX4_foresee 4 = .ok (.aload_n 0, 1) := by decide +kernel
theorem dX4_foresee_5 : decode cX4_foresee 5 = .ok (.getfield 39, 3) := by decide +kernel
theorem dX4_foresee_8 : decode cX4_foresee 8 = .ok (.aload_n 0, 1) := by decide +kernel
theorem dX4_foresee_9 : decode cX4_foresee 9 = .ok (.getfield 35, 3) := by decide +kernel
theorem dX4_foresee_12 : decode cX4_foresee 12 = .ok (.invokevirtual 203, 3) := by decide +kernel
theorem dX4_foresee_15 : decode cX4_foresee 15 = .ok (.aload_n 0, 1) := by decide +kernel
theorem dX4_foresee_16 : decode cX4_foresee 16 = .ok (.aload_n 0, 1) := by decide +kernel
theorem dX4_foresee_17 : decode cX4_foresee 17 = .ok (.getfield 39, 3) := by decide +kernel
theorem dX4_foresee_20 : decode cX4_foresee 20 = .ok (.iload_n 1, 1) := by decide +kernel
theorem dX4_foresee_21 : decode cX4_foresee 21 = .ok (.invokevirtual 196, 3) := by decide +kernel
theorem dX4_foresee_24 : decode cX4_foresee 24 = .ok (.iload_n 2, 1) := by decide +kernel
theorem dX4_foresee_25 : decode cX4_foresee 25 = .ok (.tableswitch 66 5 8 #[31, 42, 50, 58], 31) := by decide +kernel
theorem dX4_foresee_56 : decode cX4_foresee 56 = .ok (.aload_n 0, 1) := by decide +kernel
theorem dX4_foresee_57 : decode cX4_foresee 57 = .ok (.aload_n 0, 1) := by decide +kernel
theorem dX4_foresee_58 : decode cX4_foresee 58 = .ok (.getfield 158, 3) := by decide +kernel
theorem dX4_foresee_61 : decode cX4_foresee 61 = .ok (.iload_n 1, 1) := by decide +kernel
theorem dX4_foresee_62 : decode cX4_foresee 62 = .ok (.iadd, 1) := by decide +kernel
theorem dX4_foresee_63 : decode cX4_foresee 63 = .ok (.invokevirtual 179, 3) := by decide +kernel
theorem dX4_foresee_66 : decode cX4_foresee 66 = .ok (.ireturn, 1) := by decide +kernel
theorem dX4_foresee_67 : decode cX4_foresee 67 = .ok (.aload_n 0, 1) := by decide +kernel
theorem dX4_foresee_68 : decode cX4_foresee 68 = .ok (.getfield 39, 3) := by decide +kernel
theorem dX4_foresee_71 : decode cX4_foresee 71 = .ok (.getfield 182, 3) := by decide +kernel
theorem dX4_foresee_74 : decode cX4_foresee 74 = .ok (.ireturn, 1) := by decide +kernel
theorem dX4_foresee_75 : decode cX4_foresee 75 = .ok (.aload_n 0, 1) := by decide +kernel
theorem dX4_foresee_76 : decode cX4_foresee 76 = .ok (.getfield 39, 3) := by decide +kernel
theorem dX4_foresee_79 : decode cX4_foresee 79 = .ok (.getfield 185, 3) := by decide +kernel
theorem dX4_foresee_82 : decode cX4_foresee 82 = .ok (.ireturn, 1) := by decide +kernel
theorem dX4_foresee_83 : decode cX4_foresee 83 = .ok (.aload_n 0, 1) := by decide +kernel
theorem dX4_foresee_84 : decode cX4_foresee 84 = .ok (.getfield 39, 3) := by decide +kernel
theorem dX4_foresee_87 : decode cX4_foresee 87 = .ok (.getfield 188, 3) := by decide +kernel
theorem dX4_foresee_90 : decode cX4_foresee 90 = .ok (.ireturn, 1) := by decide +kernel
theorem dX4_foresee_91 : decode cX4_foresee 91 = .ok (.new 97, 3) := by decide +kernel
theorem dX4_foresee_94 : decode cX4_foresee 94 = .ok (.dup, 1) := by decide +kernel
theorem dX4_foresee_95 : decode cX4_foresee 95 = .ok (.ldc 207, 2) := by decide +kernel
theorem dX4_foresee_97 : decode cX4_foresee 97 = .ok (.invokespecial 101, 3) := by decide +kernel
theorem dX4_foresee_100 : decode cX4_foresee 100 = .ok (.athrow, 1) := by decide +kernel
set_option maxRecDepth 20000 in
theorem ggX4_mean_X3_bloomOn : GoodIn wsX4_mean wsX3_bloomOn := goodIn_r _ [7, 8, 9, 10, 11, 12, 13, 23, 24, 25, 26, 27] (by decide +kernel) (by decide +kernel)
set_option maxRecDepth 20000 in
theorem gX4_mean_X3_bloomOn_n107 : GoodIn wsX4_mean (wsX3_bloomOn) := ggX4_mean_X3_bloomOn
theorem dX4_mean_0 : decode cX4_mean 0 = .ok (.aload_n 0, 1) := by decide +kernel
theorem dX4_mean_1 : decode cX4_mean 1 = .ok (.getfield 59, 3) := by decide +kernel
theorem dX4_mean_4 : decode cX4_mean 4 = .ok (.ifCond .gt 5, 3) := by decide +kernel
theorem dX4_mean_7 : decode cX4_mean 7 = .ok (.dconst 0, 1) := by decide +kernel
theorem dX4_mean_8 : decode cX4_mean 8 = .ok (.dreturn, 1) := by decide +kernel
theorem dX4_mean_9 : decode cX4_mean 9 = .ok (.iconst 0, 1) := by decide +kernel
theorem dX4_mean_10 : decode cX4_mean 10 = .ok (.istore_n 1, 1) := by decide +kernel
theorem dX4_mean_11 : decode cX4_mean 11 = .ok (.iconst 0, 1) := by decide +kernel
theorem dX4_mean_12 : decode cX4_mean 12 = .ok (.istore_n 2, 1) := by decide +kernel
theorem dX4_mean_13 : decode cX4_mean 13 = .ok (.iload_n 2, 1) := by decide +kernel
theorem dX4_mean_14 : decode cX4_mean 14 = .ok (.aload_n 0, 1) := by decide +kernel
theorem dX4_mean_15 : decode cX4_mean 15 = .ok (.getfield 59, 3) := by decide +kernel
theorem dX4_mean_18 : decode cX4_mean 18 = .ok (.if_icmp .ge 25, 3) := by decide +kernel
theorem dX4_mean_21 : decode cX4_mean 21 = .ok (.iload_n 1, 1) := by decide +kernel
theorem dX4_mean_22 : decode cX4_mean 22 = .ok (.aload_n 0, 1) := by decide +kernel
theorem dX4_mean_23 : decode cX4_mean 23 = .ok (.getfield 11, 3) := by decide +kernel
theorem dX4_mean_26 : decode cX4_mean 26 = .ok (.iload_n 2, 1) := by decide +kernel
theorem dX4_mean_27 : decode cX4_mean 27 = .ok (.aaload, 1) := by decide +kernel
theorem dX4_mean_28 : decode cX4_mean 28 = .ok (.aload_n 0, 1) := by decide +kernel
theorem dX4_mean_29 : decode cX4_mean 29 = .ok (.getfield 158, 3) := by decide +kernel
theorem dX4_mean_32 : decode cX4_mean 32 = .ok (.invokevirtual 107, 3) := by decide +kernel
theorem dX4_mean_35 : decode cX4_mean 35 = .ok (.iadd, 1) := by decide +kernel
theorem dX4_mean_36 : decode cX4_mean 36 = .ok (.istore_n 1, 1) := by decide +kernel
theorem dX4_mean_37 : decode cX4_mean 37 = .ok (.iinc 2 1, 3) := by decide +kernel
theorem dX4_mean_40 : decode cX4_mean 40 = .ok (.goto (-27), 3) := by decide +kernel
theorem dX4_mean_43 : decode cX4_mean 43 = .ok (.iload_n 1, 1) := by decide +kernel
theorem dX4_mean_44 : decode cX4_mean 44 = .ok (.i2d, 1) := by decide +kernel
theorem dX4_mean_45 : decode cX4_mean 45 = .ok (.aload_n 0, 1) := by decide +kernel
theorem dX4_mean_46 : decode cX4_mean 46 = .ok (.getfield 59, 3) := by decide +kernel
theorem dX4_mean_49 : decode cX4_mean 49 = .ok (.i2d, 1) := by decide +kernel
theorem dX4_mean_50 : decode cX4_mean 50 = .ok (.ddiv, 1) := by decide +kernel
theorem dX4_mean_51 : decode cX4_mean 51 = .ok (.dreturn, 1) := by decide +kernel
set_option maxRecDepth 20000 in
theorem ggX4_digest_X4_count : GoodIn wsX4_digest wsX4_count := goodIn_ca (goodIn_r _ [9, 10, 11, 12, 3, 13, 4, 14, 15, 16, 17, 8, 18, 19, 20, 21, 22, 23, 24, 25, 26, 27, 28, 29, 30, 31, 32, 33, 34, 35, 36, 37, 38, 39, 40, 41, 42, 95, 96, 97, 98, 99, 100, 101, 102, 103, 104, 105, 106, 107, 108, 109, 110, 111, 112, 113, 114, 115, 116, 117] (by decide +kernel) (by decide +kernel)) (goodIn_sub (fun _ h => List.mem_cons_of_mem _ (List.mem_append_right _ h)) (by decide +kernel))
set_option maxRecDepth 20000 in
theorem gX4_digest_X4_count : GoodIn wsX4_digest (wsV RX4 211 RX4 yX4_count wsX4_count) := goodIn_app (goodIn_of _ (by decide +kernel)) ggX4_digest_X4_count
set_option maxRecDepth 20000 in
theorem ggX4_digest_X4_mixed : GoodIn wsX4_digest wsX4_mixed := goodIn_r _ [45, 46] (by decide +kernel) (by decide +kernel)
set_option maxRecDepth 20000 in
theorem gX4_digest_X4_mixed : GoodIn wsX4_digest (va_wsS RX4 214 yX4_mixed wsX4_mixed) := goodIn_app (goodIn_of _ (by decide +kernel)) ggX4_digest_X4_mixed
set_option maxRecDepth 20000 in
theorem ggX4_digest_X4_mixedWithValley : GoodIn wsX4_digest wsX4_mixedWithValley := goodIn_ca (goodIn_r _ [50, 3, 13, 51, 52, 53, 8, 54, 10, 11, 32, 12, 55, 56, 57, 58, 33, 34, 35, 36, 37, 38, 39, 40, 41, 42, 43, 44, 45, 46, 59, 60, 61, 62, 63, 64, 65, 66, 67, 26, 27, 95, 96, 97, 98, 99, 100, 101, 102, 103, 113, 114, 115, 116, 117, 104, 105] (by decide +kernel) (by decide +kernel)) (goodIn_sub (fun _ h => List.mem_cons_of_mem _ (List.mem_append_right _ h)) (by decide +kernel))
set_option maxRecDepth 20000 in
theorem gX4_digest_X4_mixedWithValley : GoodIn wsX4_digest (wsV RX4 218 RX4 yX4_mixedWithValley wsX4_mixedWithValley) := goodIn_app (goodIn_of _ (by decide +kernel)) ggX4_digest_X4_mixedWithValley
set_option maxRecDepth 20000 in
theorem ggX4_digest_X4_mixedWithTour : GoodIn wsX4_digest wsX4_mixedWithTour := goodIn_ca (goodIn_r _ [71, 19, 72, 73, 74, 8, 75, 10, 11, 12, 76, 77, 78, 79, 4, 20, 21, 22, 23, 24, 25, 26, 27, 80, 81, 82, 83, 3, 32, 84, 85, 41, 86, 87, 88, 89, 90, 33, 34, 35, 36, 37, 38, 39, 40, 42, 91, 92, 93, 94, 43, 44, 45, 46, 95, 96, 97, 98, 99, 100, 101, 102, 103, 109, 110, 111, 112, 113, 114, 115, 116, 117] (by decide +kernel) (by decide +kernel)) (goodIn_sub (fun _ h => List.mem_cons_of_mem _ (List.mem_append_right _ h)) (by decide +kernel))
set_option maxRecDepth 20000 in
theorem gX4_digest_X4_mixedWithTour : GoodIn wsX4_digest (wsV RX4 222 RX4 yX4_mixedWithTour wsX4_mixedWithTour) := goodIn_app (goodIn_of _ (by decide +kernel)) ggX4_digest_X4_mixedWithTour
theorem dX4_digest_0 : decode cX4_digest 0 = .ok (.ldc2_w 209, 3) := by decide +kernel
theorem dX4_digest_3 : decode cX4_digest 3 = .ok (.lstore_n 1, 1) := by decide +kernel
theorem dX4_digest_4 : decode cX4_digest 4 = .ok (.iconst 0, 1) := by decide +kernel
theorem dX4_digest_5 : decode cX4_digest 5 = .ok (.istore_n 3, 1) := by decide +kernel
theorem dX4_digest_6 : decode cX4_digest 6 = .ok (.iload_n 3, 1) := by decide +kernel
theorem dX4_digest_7 : decode cX4_digest 7 = .ok (.bipush 9, 2) := by decide +kernel
theorem dX4_digest_9 : decode cX4_digest 9 = .ok (.if_icmp .ge 20, 3) := by decide +kernel
theorem dX4_digest_12 : decode cX4_digest 12 = .ok (.lload_n 1, 1) := by decide +kernel
theorem dX4_digest_13 : decode cX4_digest 13 = .ok (.aload_n 0, 1) := by decide +kernel
theorem dX4_digest_14 : decode cX4_digest 14 = .ok (.iload_n 3, 1) := by decide +kernel
theorem dX4_digest_15 : decode cX4_digest 15 = .ok (.invokevirtual 211, 3) := by decide +kernel
theorem dX4_digest_18 : decode cX4_digest 18 = .ok (.i2l, 1) := by decide +kernel
theorem dX4_digest_19 : decode cX4_digest 19 = .ok (.invokestatic 214, 3) := by decide +kernel
theorem dX4_digest_22 : decode cX4_digest 22 = .ok (.lstore_n 1, 1) := by decide +kernel
theorem dX4_digest_23 : decode cX4_digest 23 = .ok (.iinc 3 1, 3) := by decide +kernel
theorem dX4_digest_26 : decode cX4_digest 26 = .ok (.goto (-20), 3) := by decide +kernel
theorem dX4_digest_29 : decode cX4_digest 29 = .ok (.iconst 0, 1) := by decide +kernel
theorem dX4_digest_30 : decode cX4_digest 30 = .ok (.istore_n 3, 1) := by decide +kernel
theorem dX4_digest_31 : decode cX4_digest 31 = .ok (.iload_n 3, 1) := by decide +kernel
theorem dX4_digest_32 : decode cX4_digest 32 = .ok (.aload_n 0, 1) := by decide +kernel
theorem dX4_digest_33 : decode cX4_digest 33 = .ok (.getfield 21, 3) := by decide +kernel
theorem dX4_digest_36 : decode cX4_digest 36 = .ok (.arraylength, 1) := by decide +kernel
theorem dX4_digest_37 : decode cX4_digest 37 = .ok (.if_icmp .ge 21, 3) := by decide +kernel
theorem dX4_digest_40 : decode cX4_digest 40 = .ok (.lload_n 1, 1) := by decide +kernel
theorem dX4_digest_41 : decode cX4_digest 41 = .ok (.aload_n 0, 1) := by decide +kernel
theorem dX4_digest_42 : decode cX4_digest 42 = .ok (.getfield 21, 3) := by decide +kernel
theorem dX4_digest_45 : decode cX4_digest 45 = .ok (.iload_n 3, 1) := by decide +kernel
theorem dX4_digest_46 : decode cX4_digest 46 = .ok (.iaload, 1) := by decide +kernel
theorem dX4_digest_47 : decode cX4_digest 47 = .ok (.i2l, 1) := by decide +kernel
theorem dX4_digest_48 : decode cX4_digest 48 = .ok (.invokestatic 214, 3) := by decide +kernel
theorem dX4_digest_51 : decode cX4_digest 51 = .ok (.lstore_n 1, 1) := by decide +kernel
theorem dX4_digest_52 : decode cX4_digest 52 = .ok (.iinc 3 1, 3) := by decide +kernel
theorem dX4_digest_55 : decode cX4_digest 55 = .ok (.goto (-24), 3) := by decide +kernel
theorem dX4_digest_58 : decode cX4_digest 58 = .ok (.iconst 0, 1) := by decide +kernel
theorem dX4_digest_59 : decode cX4_digest 59 = .ok (.istore_n 3, 1) := by decide +kernel
theorem dX4_digest_60 : decode cX4_digest 60 = .ok (.iload_n 3, 1) := by decide +kernel
theorem dX4_digest_61 : decode cX4_digest 61 = .ok (.aload_n 0, 1) := by decide +kernel
theorem dX4_digest_62 : decode cX4_digest 62 = .ok (.getfield 59, 3) := by decide +kernel
theorem dX4_digest_65 : decode cX4_digest 65 = .ok (.if_icmp .ge 16, 3) := by decide +kernel
theorem dX4_digest_68 : decode cX4_digest 68 = .ok (.aload_n 0, 1) := by decide +kernel
theorem dX4_digest_69 : decode cX4_digest 69 = .ok (.lload_n 1, 1) := by decide +kernel
theorem dX4_digest_70 : decode cX4_digest 70 = .ok (.iload_n 3, 1) := by decide +kernel
theorem dX4_digest_71 : decode cX4_digest 71 = .ok (.invokevirtual 218, 3) := by decide +kernel
theorem dX4_digest_74 : decode cX4_digest 74 = .ok (.lstore_n 1, 1) := by decide +kernel
theorem dX4_digest_75 : decode cX4_digest 75 = .ok (.iinc 3 1, 3) := by decide +kernel
theorem dX4_digest_78 : decode cX4_digest 78 = .ok (.goto (-18), 3) := by decide +kernel
theorem dX4_digest_81 : decode cX4_digest 81 = .ok (.iconst 0, 1) := by decide +kernel
theorem dX4_digest_82 : decode cX4_digest 82 = .ok (.istore_n 3, 1) := by decide +kernel
theorem dX4_digest_83 : decode cX4_digest 83 = .ok (.iload_n 3, 1) := by decide +kernel
theorem dX4_digest_84 : decode cX4_digest 84 = .ok (.aload_n 0, 1) := by decide +kernel
theorem dX4_digest_85 : decode cX4_digest 85 = .ok (.getfield 117, 3) := by decide +kernel
theorem dX4_digest_88 : decode cX4_digest 88 = .ok (.if_icmp .ge 16, 3) := by decide +kernel
theorem dX4_digest_91 : decode cX4_digest 91 = .ok (.aload_n 0, 1) := by decide +kernel
theorem dX4_digest_92 : decode cX4_digest 92 = .ok (.lload_n 1, 1) := by decide +kernel
theorem dX4_digest_93 : decode cX4_digest 93 = .ok (.iload_n 3, 1) := by decide +kernel
theorem dX4_digest_94 : decode cX4_digest 94 = .ok (.invokevirtual 222, 3) := by decide +kernel
theorem dX4_digest_97 : decode cX4_digest 97 = .ok (.lstore_n 1, 1) := by decide +kernel
theorem dX4_digest_98 : decode cX4_digest 98 = .ok (.iinc 3 1, 3) := by decide +kernel
theorem dX4_digest_101 : decode cX4_digest 101 = .ok (.goto (-18), 3) := by decide +kernel
theorem dX4_digest_104 : decode cX4_digest 104 = .ok (.lload_n 1, 1) := by decide +kernel
theorem dX4_digest_105 : decode cX4_digest 105 = .ok (.lreturn, 1) := by decide +kernel
set_option maxRecDepth 20000 in
theorem ggX4_mixedWithValley_X4_about : GoodIn wsX4_mixedWithValley wsX4_about := goodIn_ca (goodIn_r _ [7, 8, 9, 10, 11, 12, 13, 14, 6, 15, 1, 16, 17, 18, 19, 20, 21, 22, 23, 24, 25, 41, 42, 43, 44, 45, 46, 47, 48, 49, 50, 51, 52, 53, 54] (by decide +kernel) (by decide +kernel)) (goodIn_sub (fun _ h => List.mem_cons_of_mem _ (List.mem_append_right _ h)) (by decide +kernel))
set_option maxRecDepth 20000 in
theorem gX4_mixedWithValley_X4_about : GoodIn wsX4_mixedWithValley (wsV RX4 225 RX4 yX4_about wsX4_about) := goodIn_app (goodIn_of _ (by decide +kernel)) ggX4_mixedWithValley_X4_about
set_option maxRecDepth 20000 in
theorem ggX4_mixedWithValley_X4_mixed : GoodIn wsX4_mixedWithValley wsX4_mixed := goodIn_r _ [28, 29] (by decide +kernel) (by decide +kernel)
set_option maxRecDepth 20000 in
theorem gX4_mixedWithValley_X4_mixed : GoodIn wsX4_mixedWithValley (va_wsS RX4 214 yX4_mixed wsX4_mixed) := goodIn_app (goodIn_of _ (by decide +kernel)) ggX4_mixedWithValley_X4_mixed
set_option maxRecDepth 20000 in
theorem ggX4_mixedWithValley_X1_minutesBetween : GoodIn wsX4_mixedWithValley wsX1_minutesBetween := goodIn_r _ [33, 34, 35, 36, 37, 31, 38, 39, 6, 40, 55, 56] (by decide +kernel) (by decide +kernel)
set_option maxRecDepth 20000 in
theorem gX4_mixedWithValley_X1_minutesBetween_n111 : GoodIn wsX4_mixedWithValley (wsX1_minutesBetween) := ggX4_mixedWithValley_X1_minutesBetween
theorem dX4_mixedWithValley_0 : decode cX4_mixedWithValley 0 = .ok (.lload_n 1, 1) := by decide +kernel
theorem dX4_mixedWithValley_1 : decode cX4_mixedWithValley 1 = .ok (.lstore 4, 2) := by decide +kernel
theorem dX4_mixedWithValley_3 : decode cX4_mixedWithValley 3 = .ok (.iconst 0, 1) := by decide +kernel
theorem dX4_mixedWithValley_4 : decode cX4_mixedWithValley 4 = .ok (.istore 6, 2) := by decide +kernel
theorem dX4_mixedWithValley_6 : decode cX4_mixedWithValley 6 = .ok (.iload 6, 2) := by decide +kernel
theorem dX4_mixedWithValley_8 : decode cX4_mixedWithValley 8 = .ok (.bipush 6, 2) := by decide +kernel
theorem dX4_mixedWithValley_10 : decode cX4_mixedWithValley 10 = .ok (.if_icmp .ge 24, 3) := by decide +kernel
theorem dX4_mixedWithValley_13 : decode cX4_mixedWithValley 13 = .ok (.lload 4, 2) := by decide +kernel
theorem dX4_mixedWithValley_15 : decode cX4_mixedWithValley 15 = .ok (.aload_n 0, 1) := by decide +kernel
theorem dX4_mixedWithValley_16 : decode cX4_mixedWithValley 16 = .ok (.iload_n 3, 1) := by decide +kernel
theorem dX4_mixedWithValley_17 : decode cX4_mixedWithValley 17 = .ok (.iload 6, 2) := by decide +kernel
theorem dX4_mixedWithValley_19 : decode cX4_mixedWithValley 19 = .ok (.invokevirtual 225, 3) := by decide +kernel
theorem dX4_mixedWithValley_22 : decode cX4_mixedWithValley 22 = .ok (.i2l, 1) := by decide +kernel
theorem dX4_mixedWithValley_23 : decode cX4_mixedWithValley 23 = .ok (.invokestatic 214, 3) := by decide +kernel
theorem dX4_mixedWithValley_26 : decode cX4_mixedWithValley 26 = .ok (.lstore 4, 2) := by decide +kernel
theorem dX4_mixedWithValley_28 : decode cX4_mixedWithValley 28 = .ok (.iinc 6 1, 3) := by decide +kernel
theorem dX4_mixedWithValley_31 : decode cX4_mixedWithValley 31 = .ok (.goto (-25), 3) := by decide +kernel
theorem dX4_mixedWithValley_34 : decode cX4_mixedWithValley 34 = .ok (.iconst 0, 1) := by decide +kernel
theorem dX4_mixedWithValley_35 : decode cX4_mixedWithValley 35 = .ok (.istore 6, 2) := by decide +kernel
theorem dX4_mixedWithValley_37 : decode cX4_mixedWithValley 37 = .ok (.iload 6, 2) := by decide +kernel
theorem dX4_mixedWithValley_39 : decode cX4_mixedWithValley 39 = .ok (.aload_n 0, 1) := by decide +kernel
theorem dX4_mixedWithValley_40 : decode cX4_mixedWithValley 40 = .ok (.getfield 59, 3) := by decide +kernel
theorem dX4_mixedWithValley_43 : decode cX4_mixedWithValley 43 = .ok (.if_icmp .ge 27, 3) := by decide +kernel
theorem dX4_mixedWithValley_46 : decode cX4_mixedWithValley 46 = .ok (.lload 4, 2) := by decide +kernel
theorem dX4_mixedWithValley_48 : decode cX4_mixedWithValley 48 = .ok (.aload_n 0, 1) := by decide +kernel
theorem dX4_mixedWithValley_49 : decode cX4_mixedWithValley 49 = .ok (.getfield 28, 3) := by decide +kernel
theorem dX4_mixedWithValley_52 : decode cX4_mixedWithValley 52 = .ok (.iload_n 3, 1) := by decide +kernel
theorem dX4_mixedWithValley_53 : decode cX4_mixedWithValley 53 = .ok (.iload 6, 2) := by decide +kernel
theorem dX4_mixedWithValley_55 : decode cX4_mixedWithValley 55 = .ok (.invokevirtual 111, 3) := by decide +kernel
theorem dX4_mixedWithValley_58 : decode cX4_mixedWithValley 58 = .ok (.i2l, 1) := by decide +kernel
theorem dX4_mixedWithValley_59 : decode cX4_mixedWithValley 59 = .ok (.invokestatic 214, 3) := by decide +kernel
theorem dX4_mixedWithValley_62 : decode cX4_mixedWithValley 62 = .ok (.lstore 4, 2) := by decide +kernel
theorem dX4_mixedWithValley_64 : decode cX4_mixedWithValley 64 = .ok (.iinc 6 1, 3) := by decide +kernel
theorem dX4_mixedWithValley_67 : decode cX4_mixedWithValley 67 = .ok (.goto (-30), 3) := by decide +kernel
theorem dX4_mixedWithValley_70 : decode cX4_mixedWithValley 70 = .ok (.lload 4, 2) := by decide +kernel
theorem dX4_mixedWithValley_72 : decode cX4_mixedWithValley 72 = .ok (.lreturn, 1) := by decide +kernel
set_option maxRecDepth 20000 in
theorem ggX4_mixedWithTour_X4_told : GoodIn wsX4_mixedWithTour wsX4_told := goodIn_ca (goodIn_r _ [6, 7, 8, 1, 9, 10, 11, 12, 5, 13, 14, 15, 16, 17, 18, 19, 20, 21, 22, 23, 24, 25, 26, 27, 28, 29, 30, 31, 32, 33, 34, 35, 36, 37, 38, 39, 40, 41, 42, 43, 44, 45, 46, 47, 48, 49, 54, 55, 56, 57, 58, 59, 60, 61, 62, 63, 64, 65, 66, 67, 68, 69, 70, 71] (by decide +kernel) (by decide +kernel)) (goodIn_sub (fun _ h => List.mem_cons_of_mem _ (List.mem_append_right _ h)) (by decide +kernel))
set_option maxRecDepth 20000 in
theorem gX4_mixedWithTour_X4_told : GoodIn wsX4_mixedWithTour (wsV RX4 228 RX4 yX4_told wsX4_told) := goodIn_app (goodIn_of _ (by decide +kernel)) ggX4_mixedWithTour_X4_told
set_option maxRecDepth 20000 in
theorem ggX4_mixedWithTour_X4_mixed : GoodIn wsX4_mixedWithTour wsX4_mixed := goodIn_r _ [52, 53] (by decide +kernel) (by decide +kernel)
set_option maxRecDepth 20000 in
theorem gX4_mixedWithTour_X4_mixed : GoodIn wsX4_mixedWithTour (va_wsS RX4 214 yX4_mixed wsX4_mixed) := goodIn_app (goodIn_of _ (by decide +kernel)) ggX4_mixedWithTour_X4_mixed
theorem dX4_mixedWithTour_0 : decode cX4_mixedWithTour 0 = .ok (.lload_n 1, 1) := by decide +kernel
theorem dX4_mixedWithTour_1 : decode cX4_mixedWithTour 1 = .ok (.lstore 4, 2) := by decide +kernel
theorem dX4_mixedWithTour_3 : decode cX4_mixedWithTour 3 = .ok (.iconst 0, 1) := by decide +kernel
theorem dX4_mixedWithTour_4 : decode cX4_mixedWithTour 4 = .ok (.istore 6, 2) := by decide +kernel
theorem dX4_mixedWithTour_6 : decode cX4_mixedWithTour 6 = .ok (.iload 6, 2) := by decide +kernel
theorem dX4_mixedWithTour_8 : decode cX4_mixedWithTour 8 = .ok (.bipush 6, 2) := by decide +kernel
theorem dX4_mixedWithTour_10 : decode cX4_mixedWithTour 10 = .ok (.if_icmp .ge 24, 3) := by decide +kernel
theorem dX4_mixedWithTour_13 : decode cX4_mixedWithTour 13 = .ok (.lload 4, 2) := by decide +kernel
theorem dX4_mixedWithTour_15 : decode cX4_mixedWithTour 15 = .ok (.aload_n 0, 1) := by decide +kernel
theorem dX4_mixedWithTour_16 : decode cX4_mixedWithTour 16 = .ok (.iload_n 3, 1) := by decide +kernel
theorem dX4_mixedWithTour_17 : decode cX4_mixedWithTour 17 = .ok (.iload 6, 2) := by decide +kernel
theorem dX4_mixedWithTour_19 : decode cX4_mixedWithTour 19 = .ok (.invokevirtual 228, 3) := by decide +kernel
theorem dX4_mixedWithTour_22 : decode cX4_mixedWithTour 22 = .ok (.i2l, 1) := by decide +kernel
theorem dX4_mixedWithTour_23 : decode cX4_mixedWithTour 23 = .ok (.invokestatic 214, 3) := by decide +kernel
theorem dX4_mixedWithTour_26 : decode cX4_mixedWithTour 26 = .ok (.lstore 4, 2) := by decide +kernel
theorem dX4_mixedWithTour_28 : decode cX4_mixedWithTour 28 = .ok (.iinc 6 1, 3) := by decide +kernel
theorem dX4_mixedWithTour_31 : decode cX4_mixedWithTour 31 = .ok (.goto (-25), 3) := by decide +kernel
theorem dX4_mixedWithTour_34 : decode cX4_mixedWithTour 34 = .ok (.iconst 0, 1) := by decide +kernel
theorem dX4_mixedWithTour_35 : decode cX4_mixedWithTour 35 = .ok (.istore 6, 2) := by decide +kernel
theorem dX4_mixedWithTour_37 : decode cX4_mixedWithTour 37 = .ok (.iload 6, 2) := by decide +kernel
theorem dX4_mixedWithTour_39 : decode cX4_mixedWithTour 39 = .ok (.aload_n 0, 1) := by decide +kernel
theorem dX4_mixedWithTour_40 : decode cX4_mixedWithTour 40 = .ok (.getfield 17, 3) := by decide +kernel
theorem dX4_mixedWithTour_43 : decode cX4_mixedWithTour 43 = .ok (.iload_n 3, 1) := by decide +kernel
theorem dX4_mixedWithTour_44 : decode cX4_mixedWithTour 44 = .ok (.aaload, 1) := by decide +kernel
theorem dX4_mixedWithTour_45 : decode cX4_mixedWithTour 45 = .ok (.getfield 143, 3) := by decide +kernel
theorem dX4_mixedWithTour_48 : decode cX4_mixedWithTour 48 = .ok (.if_icmp .ge 29, 3) := by decide +kernel
theorem dX4_mixedWithTour_51 : decode cX4_mixedWithTour 51 = .ok (.lload 4, 2) := by decide +kernel
theorem dX4_mixedWithTour_53 : decode cX4_mixedWithTour 53 = .ok (.aload_n 0, 1) := by decide +kernel
theorem dX4_mixedWithTour_54 : decode cX4_mixedWithTour 54 = .ok (.getfield 17, 3) := by decide +kernel
theorem dX4_mixedWithTour_57 : decode cX4_mixedWithTour 57 = .ok (.iload_n 3, 1) := by decide +kernel
theorem dX4_mixedWithTour_58 : decode cX4_mixedWithTour 58 = .ok (.aaload, 1) := by decide +kernel
theorem dX4_mixedWithTour_59 : decode cX4_mixedWithTour 59 = .ok (.getfield 231, 3) := by decide +kernel
theorem dX4_mixedWithTour_62 : decode cX4_mixedWithTour 62 = .ok (.iload 6, 2) := by decide +kernel
theorem dX4_mixedWithTour_64 : decode cX4_mixedWithTour 64 = .ok (.iaload, 1) := by decide +kernel
theorem dX4_mixedWithTour_65 : decode cX4_mixedWithTour 65 = .ok (.i2l, 1) := by decide +kernel
theorem dX4_mixedWithTour_66 : decode cX4_mixedWithTour 66 = .ok (.invokestatic 214, 3) := by decide +kernel
theorem dX4_mixedWithTour_69 : decode cX4_mixedWithTour 69 = .ok (.lstore 4, 2) := by decide +kernel
theorem dX4_mixedWithTour_71 : decode cX4_mixedWithTour 71 = .ok (.iinc 6 1, 3) := by decide +kernel
theorem dX4_mixedWithTour_74 : decode cX4_mixedWithTour 74 = .ok (.goto (-37), 3) := by decide +kernel
theorem dX4_mixedWithTour_77 : decode cX4_mixedWithTour 77 = .ok (.lload 4, 2) := by decide +kernel
theorem dX4_mixedWithTour_79 : decode cX4_mixedWithTour 79 = .ok (.lreturn, 1) := by decide +kernel
theorem dX4_mixed_0 : decode cX4_mixed 0 = .ok (.lload_n 0, 1) := by decide +kernel
theorem dX4_mixed_1 : decode cX4_mixed 1 = .ok (.ldc2_w 234, 3) := by decide +kernel
theorem dX4_mixed_4 : decode cX4_mixed 4 = .ok (.lmul, 1) := by decide +kernel
theorem dX4_mixed_5 : decode cX4_mixed 5 = .ok (.lload_n 2, 1) := by decide +kernel
theorem dX4_mixed_6 : decode cX4_mixed 6 = .ok (.ladd, 1) := by decide +kernel
theorem dX4_mixed_7 : decode cX4_mixed 7 = .ok (.lreturn, 1) := by decide +kernel
theorem dX4_isWithin_0 : decode cX4_isWithin 0 = .ok (.iload_n 0, 1) := by decide +kernel
theorem dX4_isWithin_1 : decode cX4_isWithin 1 = .ok (.iload_n 1, 1) := by decide +kernel
theorem dX4_isWithin_2 : decode cX4_isWithin 2 = .ok (.if_icmp .lt 12, 3) := by decide +kernel
theorem dX4_isWithin_5 : decode cX4_isWithin 5 = .ok (.iload_n 0, 1) := by decide +kernel
theorem dX4_isWithin_6 : decode cX4_isWithin 6 = .ok (.iload_n 2, 1) := by decide +kernel
theorem dX4_isWithin_7 : decode cX4_isWithin 7 = .ok (.if_icmp .gt 7, 3) := by decide +kernel
theorem dX4_isWithin_10 : decode cX4_isWithin 10 = .ok (.iconst 1, 1) := by decide +kernel
theorem dX4_isWithin_11 : decode cX4_isWithin 11 = .ok (.goto 4, 3) := by decide +kernel
theorem dX4_isWithin_14 : decode cX4_isWithin 14 = .ok (.iconst 0, 1) := by decide +kernel
theorem dX4_isWithin_15 : decode cX4_isWithin 15 = .ok (.ireturn, 1) := by decide +kernel
theorem dX4_checkValley_0 : decode cX4_checkValley 0 = .ok (.iload_n 1, 1) := by decide +kernel
theorem dX4_checkValley_1 : decode cX4_checkValley 1 = .ok (.ifCond .lt 11, 3) := by decide +kernel
theorem dX4_checkValley_4 : decode cX4_checkValley 4 = .ok (.iload_n 1, 1) := by decide +kernel
theorem dX4_checkValley_5 : decode cX4_checkValley 5 = .ok (.aload_n 0, 1) := by decide +kernel
theorem dX4_checkValley_6 : decode cX4_checkValley 6 = .ok (.getfield 59, 3) := by decide +kernel
theorem dX4_checkValley_9 : decode cX4_checkValley 9 = .ok (.if_icmp .lt 13, 3) := by decide +kernel
theorem dX4_checkValley_12 : decode cX4_checkValley 12 = .ok (.new 97, 3) := by decide +kernel
theorem dX4_checkValley_15 : decode cX4_checkValley 15 = .ok (.dup, 1) := by decide +kernel
theorem dX4_checkValley_16 : decode cX4_checkValley 16 = .ok (.ldc 236, 2) := by decide +kernel
theorem dX4_checkValley_18 : decode cX4_checkValley 18 = .ok (.invokespecial 101, 3) := by decide +kernel
theorem dX4_checkValley_21 : decode cX4_checkValley 21 = .ok (.athrow, 1) := by decide +kernel
theorem dX4_checkValley_22 : decode cX4_checkValley 22 = .ok (.return_, 1) := by decide +kernel
theorem dX4_checkTour_0 : decode cX4_checkTour 0 = .ok (.iload_n 1, 1) := by decide +kernel
theorem dX4_checkTour_1 : decode cX4_checkTour 1 = .ok (.ifCond .lt 11, 3) := by decide +kernel
theorem dX4_checkTour_4 : decode cX4_checkTour 4 = .ok (.iload_n 1, 1) := by decide +kernel
theorem dX4_checkTour_5 : decode cX4_checkTour 5 = .ok (.aload_n 0, 1) := by decide +kernel
theorem dX4_checkTour_6 : decode cX4_checkTour 6 = .ok (.getfield 117, 3) := by decide +kernel
theorem dX4_checkTour_9 : decode cX4_checkTour 9 = .ok (.if_icmp .lt 13, 3) := by decide +kernel
theorem dX4_checkTour_12 : decode cX4_checkTour 12 = .ok (.new 97, 3) := by decide +kernel
theorem dX4_checkTour_15 : decode cX4_checkTour 15 = .ok (.dup, 1) := by decide +kernel
theorem dX4_checkTour_16 : decode cX4_checkTour 16 = .ok (.ldc 238, 2) := by decide +kernel
theorem dX4_checkTour_18 : decode cX4_checkTour 18 = .ok (.invokespecial 101, 3) := by decide +kernel
theorem dX4_checkTour_21 : decode cX4_checkTour 21 = .ok (.athrow, 1) := by decide +kernel
theorem dX4_checkTour_22 : decode cX4_checkTour 22 = .ok (.return_, 1) := by decide +kernel
theorem dX4_checkDay_0 : decode cX4_checkDay 0 = .ok (.iload_n 0, 1) := by decide +kernel
theorem dX4_checkDay_1 : decode cX4_checkDay 1 = .ok (.ifCond .ge 13, 3) := by decide +kernel
theorem dX4_checkDay_4 : decode cX4_checkDay 4 = .ok (.new 48, 3) := by decide +kernel
theorem dX4_checkDay_7 : decode cX4_checkDay 7 = .ok (.dup, 1) := by decide +kernel
theorem dX4_checkDay_8 : decode cX4_checkDay 8 = .ok (.ldc 240, 2) := by decide +kernel
theorem dX4_checkDay_10 : decode cX4_checkDay 10 = .ok (.invokespecial 52, 3) := by decide +kernel
theorem dX4_checkDay_13 : decode cX4_checkDay 13 = .ok (.athrow, 1) := by decide +kernel
theorem dX4_checkDay_14 : decode cX4_checkDay 14 = .ok (.return_, 1) := by decide +kernel
set_option maxRecDepth 20000 in
theorem ggX4_checkSpan_X4_isWithin : GoodIn wsX4_checkSpan wsX4_isWithin := goodIn_r _ [6] (by decide +kernel) (by decide +kernel)
set_option maxRecDepth 20000 in
theorem gX4_checkSpan_X4_isWithin : GoodIn wsX4_checkSpan (va_wsS RX4 44 yX4_isWithin wsX4_isWithin) := goodIn_app (goodIn_of _ (by decide +kernel)) ggX4_checkSpan_X4_isWithin
theorem dX4_checkSpan_0 : decode cX4_checkSpan 0 = .ok (.iload_n 0, 1) := by decide +kernel
theorem dX4_checkSpan_1 : decode cX4_checkSpan 1 = .ok (.iconst 1, 1) := by decide +kernel
theorem dX4_checkSpan_2 : decode cX4_checkSpan 2 = .ok (.bipush 60, 2) := by decide +kernel
theorem dX4_checkSpan_4 : decode cX4_checkSpan 4 = .ok (.invokestatic 44, 3) := by decide +kernel
theorem dX4_checkSpan_7 : decode cX4_checkSpan 7 = .ok (.ifCond .ne 13, 3) := by decide +kernel
theorem dX4_checkSpan_10 : decode cX4_checkSpan 10 = .ok (.new 48, 3) := by decide +kernel
theorem dX4_checkSpan_13 : decode cX4_checkSpan 13 = .ok (.dup, 1) := by decide +kernel
theorem dX4_checkSpan_14 : decode cX4_checkSpan 14 = .ok (.ldc 242, 2) := by decide +kernel
theorem dX4_checkSpan_16 : decode cX4_checkSpan 16 = .ok (.invokespecial 52, 3) := by decide +kernel
theorem dX4_checkSpan_19 : decode cX4_checkSpan 19 = .ok (.athrow, 1) := by decide +kernel
theorem dX4_checkSpan_20 : decode cX4_checkSpan 20 = .ok (.return_, 1) := by decide +kernel
set_option maxRecDepth 20000 in
theorem ggX4_reckonCrowds_X2_measure : GoodIn wsX4_reckonCrowds wsX2_measure := goodIn_r _ [9, 10, 11, 12, 13, 14, 15, 16, 17, 18, 19, 20, 21, 22, 23, 24, 49, 50, 51, 52, 53, 54] (by decide +kernel) (by decide +kernel)
set_option maxRecDepth 20000 in
theorem gX4_reckonCrowds_X2_measure_n244 : GoodIn wsX4_reckonCrowds (wsX2_measure) := ggX4_reckonCrowds_X2_measure
set_option maxRecDepth 20000 in
theorem ggX4_reckonCrowds_X2_canGo : GoodIn wsX4_reckonCrowds wsX2_canGo := goodIn_r _ [27, 10, 12, 22, 23, 24, 49, 50, 51, 52] (by decide +kernel) (by decide +kernel)
set_option maxRecDepth 20000 in
theorem gX4_reckonCrowds_X2_canGo_n155 : GoodIn wsX4_reckonCrowds (wsX2_canGo) := ggX4_reckonCrowds_X2_canGo
set_option maxRecDepth 20000 in
theorem ggX4_reckonCrowds_X4_joinCrowds : GoodIn wsX4_reckonCrowds wsX4_joinCrowds := goodIn_r _ [31, 1, 2, 32, 7, 33, 34, 10, 11, 35, 36, 37, 38, 39, 40, 41, 42, 43, 44, 45, 46, 47, 48, 49, 50, 51, 52] (by decide +kernel) (by decide +kernel)
set_option maxRecDepth 20000 in
theorem gX4_reckonCrowds_X4_joinCrowds : GoodIn wsX4_reckonCrowds (wsV RX4 248 RX4 yX4_joinCrowds wsX4_joinCrowds) := goodIn_app (goodIn_of _ (by decide +kernel)) ggX4_reckonCrowds_X4_joinCrowds
theorem dX4_reckonCrowds_0 : decode cX4_reckonCrowds 0 = .ok (.iconst 0, 1) := by decide +kernel
theorem dX4_reckonCrowds_1 : decode cX4_reckonCrowds 1 = .ok (.istore_n 1, 1) := by decide +kernel
theorem dX4_reckonCrowds_2 : decode cX4_reckonCrowds 2 = .ok (.iload_n 1, 1) := by decide +kernel
theorem dX4_reckonCrowds_3 : decode cX4_reckonCrowds 3 = .ok (.aload_n 0, 1) := by decide +kernel
theorem dX4_reckonCrowds_4 : decode cX4_reckonCrowds 4 = .ok (.getfield 59, 3) := by decide +kernel
theorem dX4_reckonCrowds_7 : decode cX4_reckonCrowds 7 = .ok (.if_icmp .ge 29, 3) := by decide +kernel
theorem dX4_reckonCrowds_10 : decode cX4_reckonCrowds 10 = .ok (.aload_n 0, 1) := by decide +kernel
theorem dX4_reckonCrowds_11 : decode cX4_reckonCrowds 11 = .ok (.getfield 11, 3) := by decide +kernel
theorem dX4_reckonCrowds_14 : decode cX4_reckonCrowds 14 = .ok (.iload_n 1, 1) := by decide +kernel
theorem dX4_reckonCrowds_15 : decode cX4_reckonCrowds 15 = .ok (.aaload, 1) := by decide +kernel
theorem dX4_reckonCrowds_16 : decode cX4_reckonCrowds 16 = .ok (.iconst 0, 1) := by decide +kernel
theorem dX4_reckonCrowds_17 : decode cX4_reckonCrowds 17 = .ok (.putfield 170, 3) := by decide +kernel
theorem dX4_reckonCrowds_20 : decode cX4_reckonCrowds 20 = .ok (.aload_n 0, 1) := by decide +kernel
theorem dX4_reckonCrowds_21 : decode cX4_reckonCrowds 21 = .ok (.getfield 11, 3) := by decide +kernel
theorem dX4_reckonCrowds_24 : decode cX4_reckonCrowds 24 = .ok (.iload_n 1, 1) := by decide +kernel
theorem dX4_reckonCrowds_25 : decode cX4_reckonCrowds 25 = .ok (.aaload, 1) := by decide +kernel
theorem dX4_reckonCrowds_26 : decode cX4_reckonCrowds 26 = .ok (.iconst 0, 1) := by decide +kernel
theorem dX4_reckonCrowds_27 : decode cX4_reckonCrowds 27 = .ok (.putfield 173, 3) := by decide +kernel
theorem dX4_reckonCrowds_30 : decode cX4_reckonCrowds 30 = .ok (.iinc 1 1, 3) := by decide +kernel
theorem dX4_reckonCrowds_33 : decode cX4_reckonCrowds 33 = .ok (.goto (-31), 3) := by decide +kernel
theorem dX4_reckonCrowds_36 : decode cX4_reckonCrowds 36 = .ok (.iconst 0, 1) := by decide +kernel
theorem dX4_reckonCrowds_37 : decode cX4_reckonCrowds 37 = .ok (.istore_n 1, 1) := by decide +kernel
theorem dX4_reckonCrowds_38 : decode cX4_reckonCrowds 38 = .ok (.iload_n 1, 1) := by decide +kernel
theorem dX4_reckonCrowds_39 : decode cX4_reckonCrowds 39 = .ok (.aload_n 0, 1) := by decide +kernel
theorem dX4_reckonCrowds_40 : decode cX4_reckonCrowds 40 = .ok (.getfield 117, 3) := by decide +kernel
theorem dX4_reckonCrowds_43 : decode cX4_reckonCrowds 43 = .ok (.if_icmp .ge 44, 3) := by decide +kernel
theorem dX4_reckonCrowds_46 : decode cX4_reckonCrowds 46 = .ok (.aload_n 0, 1) := by decide +kernel
theorem dX4_reckonCrowds_47 : decode cX4_reckonCrowds 47 = .ok (.getfield 17, 3) := by decide +kernel
theorem dX4_reckonCrowds_50 : decode cX4_reckonCrowds 50 = .ok (.iload_n 1, 1) := by decide +kernel
theorem dX4_reckonCrowds_51 : decode cX4_reckonCrowds 51 = .ok (.aaload, 1) := by decide +kernel
theorem dX4_reckonCrowds_52 : decode cX4_reckonCrowds 52 = .ok (.aload_n 0, 1) := by decide +kernel
theorem dX4_reckonCrowds_53 : decode cX4_reckonCrowds 53 = .ok (.getfield 28, 3) := by decide +kernel
theorem dX4_reckonCrowds_56 : decode cX4_reckonCrowds 56 = .ok (.invokevirtual 244, 3) := by decide +kernel
theorem dX4_reckonCrowds_59 : decode cX4_reckonCrowds 59 = .ok (.aload_n 0, 1) := by decide +kernel
theorem dX4_reckonCrowds_60 : decode cX4_reckonCrowds 60 = .ok (.getfield 17, 3) := by decide +kernel
theorem dX4_reckonCrowds_63 : decode cX4_reckonCrowds 63 = .ok (.iload_n 1, 1) := by decide +kernel
theorem dX4_reckonCrowds_64 : decode cX4_reckonCrowds 64 = .ok (.aaload, 1) := by decide +kernel
theorem dX4_reckonCrowds_65 : decode cX4_reckonCrowds 65 = .ok (.invokevirtual 155, 3) := by decide +kernel
theorem dX4_reckonCrowds_68 : decode cX4_reckonCrowds 68 = .ok (.ifCond .eq 13, 3) := by decide +kernel
theorem dX4_reckonCrowds_71 : decode cX4_reckonCrowds 71 = .ok (.aload_n 0, 1) := by decide +kernel
theorem dX4_reckonCrowds_72 : decode cX4_reckonCrowds 72 = .ok (.aload_n 0, 1) := by decide +kernel
theorem dX4_reckonCrowds_73 : decode cX4_reckonCrowds 73 = .ok (.getfield 17, 3) := by decide +kernel
theorem dX4_reckonCrowds_76 : decode cX4_reckonCrowds 76 = .ok (.iload_n 1, 1) := by decide +kernel
theorem dX4_reckonCrowds_77 : decode cX4_reckonCrowds 77 = .ok (.aaload, 1) := by decide +kernel
theorem dX4_reckonCrowds_78 : decode cX4_reckonCrowds 78 = .ok (.invokevirtual 248, 3) := by decide +kernel
theorem dX4_reckonCrowds_81 : decode cX4_reckonCrowds 81 = .ok (.iinc 1 1, 3) := by decide +kernel
theorem dX4_reckonCrowds_84 : decode cX4_reckonCrowds 84 = .ok (.goto (-46), 3) := by decide +kernel
theorem dX4_reckonCrowds_87 : decode cX4_reckonCrowds 87 = .ok (.return_, 1) := by decide +kernel
set_option maxRecDepth 20000 in
theorem ggX4_joinCrowds_X2_visits : GoodIn wsX4_joinCrowds wsX2_visits := goodIn_r _ [6, 7, 8, 23, 24, 25, 26] (by decide +kernel) (by decide +kernel)
set_option maxRecDepth 20000 in
theorem gX4_joinCrowds_X2_visits_n134 : GoodIn wsX4_joinCrowds (wsX2_visits) := ggX4_joinCrowds_X2_visits
theorem dX4_joinCrowds_0 : decode cX4_joinCrowds 0 = .ok (.iconst 0, 1) := by decide +kernel
theorem dX4_joinCrowds_1 : decode cX4_joinCrowds 1 = .ok (.istore_n 2, 1) := by decide +kernel
theorem dX4_joinCrowds_2 : decode cX4_joinCrowds 2 = .ok (.iload_n 2, 1) := by decide +kernel
theorem dX4_joinCrowds_3 : decode cX4_joinCrowds 3 = .ok (.aload_n 0, 1) := by decide +kernel
theorem dX4_joinCrowds_4 : decode cX4_joinCrowds 4 = .ok (.getfield 59, 3) := by decide +kernel
theorem dX4_joinCrowds_7 : decode cX4_joinCrowds 7 = .ok (.if_icmp .ge 50, 3) := by decide +kernel
theorem dX4_joinCrowds_10 : decode cX4_joinCrowds 10 = .ok (.aload_n 1, 1) := by decide +kernel
theorem dX4_joinCrowds_11 : decode cX4_joinCrowds 11 = .ok (.iload_n 2, 1) := by decide +kernel
theorem dX4_joinCrowds_12 : decode cX4_joinCrowds 12 = .ok (.invokevirtual 134, 3) := by decide +kernel
theorem dX4_joinCrowds_15 : decode cX4_joinCrowds 15 = .ok (.ifCond .eq 36, 3) := by decide +kernel
theorem dX4_joinCrowds_18 : decode cX4_joinCrowds 18 = .ok (.aload_n 0, 1) := by decide +kernel
theorem dX4_joinCrowds_19 : decode cX4_joinCrowds 19 = .ok (.getfield 11, 3) := by decide +kernel
theorem dX4_joinCrowds_22 : decode cX4_joinCrowds 22 = .ok (.iload_n 2, 1) := by decide +kernel
theorem dX4_joinCrowds_23 : decode cX4_joinCrowds 23 = .ok (.aaload, 1) := by decide +kernel
theorem dX4_joinCrowds_24 : decode cX4_joinCrowds 24 = .ok (.dup, 1) := by decide +kernel
theorem dX4_joinCrowds_25 : decode cX4_joinCrowds 25 = .ok (.getfield 170, 3) := by decide +kernel
theorem dX4_joinCrowds_28 : decode cX4_joinCrowds 28 = .ok (.aload_n 1, 1) := by decide +kernel
theorem dX4_joinCrowds_29 : decode cX4_joinCrowds 29 = .ok (.getfield 122, 3) := by decide +kernel
theorem dX4_joinCrowds_32 : decode cX4_joinCrowds 32 = .ok (.iadd, 1) := by decide +kernel
theorem dX4_joinCrowds_33 : decode cX4_joinCrowds 33 = .ok (.putfield 170, 3) := by decide +kernel
theorem dX4_joinCrowds_36 : decode cX4_joinCrowds 36 = .ok (.aload_n 0, 1) := by decide +kernel
theorem dX4_joinCrowds_37 : decode cX4_joinCrowds 37 = .ok (.getfield 11, 3) := by decide +kernel
theorem dX4_joinCrowds_40 : decode cX4_joinCrowds 40 = .ok (.iload_n 2, 1) := by decide +kernel
theorem dX4_joinCrowds_41 : decode cX4_joinCrowds 41 = .ok (.aaload, 1) := by decide +kernel
theorem dX4_joinCrowds_42 : decode cX4_joinCrowds 42 = .ok (.dup, 1) := by decide +kernel
theorem dX4_joinCrowds_43 : decode cX4_joinCrowds 43 = .ok (.getfield 173, 3) := by decide +kernel
theorem dX4_joinCrowds_46 : decode cX4_joinCrowds 46 = .ok (.iconst 1, 1) := by decide +kernel
theorem dX4_joinCrowds_47 : decode cX4_joinCrowds 47 = .ok (.iadd, 1) := by decide +kernel
theorem dX4_joinCrowds_48 : decode cX4_joinCrowds 48 = .ok (.putfield 173, 3) := by decide +kernel
theorem dX4_joinCrowds_51 : decode cX4_joinCrowds 51 = .ok (.iinc 2 1, 3) := by decide +kernel
theorem dX4_joinCrowds_54 : decode cX4_joinCrowds 54 = .ok (.goto (-52), 3) := by decide +kernel
theorem dX4_joinCrowds_57 : decode cX4_joinCrowds 57 = .ok (.return_, 1) := by decide +kernel
set_option maxRecDepth 20000 in
theorem ggX4_joyOn_X2_canGo : GoodIn wsX4_joyOn wsX2_canGo := goodIn_r _ [10, 11, 12, 13, 14, 15, 43, 44, 45, 46] (by decide +kernel) (by decide +kernel)
set_option maxRecDepth 20000 in
theorem gX4_joyOn_X2_canGo_n155 : GoodIn wsX4_joyOn (wsX2_canGo) := ggX4_joyOn_X2_canGo
set_option maxRecDepth 20000 in
theorem ggX4_joyOn_X2_visits : GoodIn wsX4_joyOn wsX2_visits := goodIn_r _ [18, 11, 19, 43, 44, 45, 46] (by decide +kernel) (by decide +kernel)
set_option maxRecDepth 20000 in
theorem gX4_joyOn_X2_visits_n134 : GoodIn wsX4_joyOn (wsX2_visits) := ggX4_joyOn_X2_visits
set_option maxRecDepth 20000 in
theorem ggX4_joyOn_X3_bloomOn : GoodIn wsX4_joyOn wsX3_bloomOn := goodIn_r _ [23, 24, 25, 26, 27, 5, 28, 38, 39, 40, 41, 42] (by decide +kernel) (by decide +kernel)
set_option maxRecDepth 20000 in
theorem gX4_joyOn_X3_bloomOn_n107 : GoodIn wsX4_joyOn (wsX3_bloomOn) := ggX4_joyOn_X3_bloomOn
theorem dX4_joyOn_0 : decode cX4_joyOn 0 = .ok (.aload_n 1, 1) := by decide +kernel
theorem dX4_joyOn_1 : decode cX4_joyOn 1 = .ok (.invokevirtual 155, 3) := by decide +kernel
theorem dX4_joyOn_4 : decode cX4_joyOn 4 = .ok (.ifCond .ne 5, 3) := by decide +kernel
theorem dX4_joyOn_7 : decode cX4_joyOn 7 = .ok (.iconst 0, 1) := by decide +kernel
theorem dX4_joyOn_8 : decode cX4_joyOn 8 = .ok (.ireturn, 1) := by decide +kernel
theorem dX4_joyOn_9 : decode cX4_joyOn 9 = .ok (.iconst 0, 1) := by decide +kernel
theorem dX4_joyOn_10 : decode cX4_joyOn 10 = .ok (.istore_n 3, 1) := by decide +kernel
theorem dX4_joyOn_11 : decode cX4_joyOn 11 = .ok (.iconst 0, 1) := by decide +kernel
theorem dX4_joyOn_12 : decode cX4_joyOn 12 = .ok (.istore 4, 2) := by decide +kernel
theorem dX4_joyOn_14 : decode cX4_joyOn 14 = .ok (.iload 4, 2) := by decide +kernel
theorem dX4_joyOn_16 : decode cX4_joyOn 16 = .ok (.aload_n 0, 1) := by decide +kernel
theorem dX4_joyOn_17 : decode cX4_joyOn 17 = .ok (.getfield 59, 3) := by decide +kernel
theorem dX4_joyOn_20 : decode cX4_joyOn 20 = .ok (.if_icmp .ge 50, 3) := by decide +kernel
theorem dX4_joyOn_23 : decode cX4_joyOn 23 = .ok (.aload_n 1, 1) := by decide +kernel
theorem dX4_joyOn_24 : decode cX4_joyOn 24 = .ok (.iload 4, 2) := by decide +kernel
theorem dX4_joyOn_26 : decode cX4_joyOn 26 = .ok (.invokevirtual 134, 3) := by decide +kernel
theorem dX4_joyOn_29 : decode cX4_joyOn 29 = .ok (.ifCond .eq 35, 3) := by decide +kernel
theorem dX4_joyOn_32 : decode cX4_joyOn 32 = .ok (.iload_n 3, 1) := by decide +kernel
theorem dX4_joyOn_33 : decode cX4_joyOn 33 = .ok (.iconst 0, 1) := by decide +kernel
theorem dX4_joyOn_34 : decode cX4_joyOn 34 = .ok (.aload_n 0, 1) := by decide +kernel
theorem dX4_joyOn_35 : decode cX4_joyOn 35 = .ok (.getfield 11, 3) := by decide +kernel
theorem dX4_joyOn_38 : decode cX4_joyOn 38 = .ok (.iload 4, 2) := by decide +kernel
theorem dX4_joyOn_40 : decode cX4_joyOn 40 = .ok (.aaload, 1) := by decide +kernel
theorem dX4_joyOn_41 : decode cX4_joyOn 41 = .ok (.iload_n 2, 1) := by decide +kernel
theorem dX4_joyOn_42 : decode cX4_joyOn 42 = .ok (.invokevirtual 107, 3) := by decide +kernel
theorem dX4_joyOn_45 : decode cX4_joyOn 45 = .ok (.aload_n 0, 1) := by decide +kernel
theorem dX4_joyOn_46 : decode cX4_joyOn 46 = .ok (.getfield 11, 3) := by decide +kernel
theorem dX4_joyOn_49 : decode cX4_joyOn 49 = .ok (.iload 4, 2) := by decide +kernel
theorem dX4_joyOn_51 : decode cX4_joyOn 51 = .ok (.aaload, 1) := by decide +kernel
theorem dX4_joyOn_52 : decode cX4_joyOn 52 = .ok (.getfield 170, 3) := by decide +kernel
theorem dX4_joyOn_55 : decode cX4_joyOn 55 = .ok (.bipush 10, 2) := by decide +kernel
theorem dX4_joyOn_57 : decode cX4_joyOn 57 = .ok (.idiv, 1) := by decide +kernel
theorem dX4_joyOn_58 : decode cX4_joyOn 58 = .ok (.isub, 1) := by decide +kernel
theorem dX4_joyOn_59 : decode cX4_joyOn 59 = .ok (.invokestatic 252, 3) := by decide +kernel
theorem dX4_joyOn_62 : decode cX4_joyOn 62 = .ok (.iadd, 1) := by decide +kernel
theorem dX4_joyOn_63 : decode cX4_joyOn 63 = .ok (.istore_n 3, 1) := by decide +kernel
theorem dX4_joyOn_64 : decode cX4_joyOn 64 = .ok (.iinc 4 1, 3) := by decide +kernel
theorem dX4_joyOn_67 : decode cX4_joyOn 67 = .ok (.goto (-53), 3) := by decide +kernel
theorem dX4_joyOn_70 : decode cX4_joyOn 70 = .ok (.iload_n 3, 1) := by decide +kernel
theorem dX4_joyOn_71 : decode cX4_joyOn 71 = .ok (.ireturn, 1) := by decide +kernel
set_option maxRecDepth 20000 in
theorem ggX4_stingsOn_X2_canGo : GoodIn wsX4_stingsOn wsX2_canGo := goodIn_r _ [6, 7, 8, 9, 10, 11, 35, 36, 37, 38] (by decide +kernel) (by decide +kernel)
set_option maxRecDepth 20000 in
theorem gX4_stingsOn_X2_canGo_n155 : GoodIn wsX4_stingsOn (wsX2_canGo) := ggX4_stingsOn_X2_canGo
set_option maxRecDepth 20000 in
theorem ggX4_stingsOn_X2_visits : GoodIn wsX4_stingsOn wsX2_visits := goodIn_r _ [14, 7, 15, 35, 36, 37, 38] (by decide +kernel) (by decide +kernel)
set_option maxRecDepth 20000 in
theorem gX4_stingsOn_X2_visits_n134 : GoodIn wsX4_stingsOn (wsX2_visits) := ggX4_stingsOn_X2_visits
set_option maxRecDepth 20000 in
theorem ggX4_stingsOn_X3_bloomOn : GoodIn wsX4_stingsOn wsX3_bloomOn := goodIn_r _ [19, 20, 21, 22, 23, 24, 25, 39, 40, 41, 42, 43] (by decide +kernel) (by decide +kernel)
set_option maxRecDepth 20000 in
theorem gX4_stingsOn_X3_bloomOn_n107 : GoodIn wsX4_stingsOn (wsX3_bloomOn) := ggX4_stingsOn_X3_bloomOn
theorem dX4_stingsOn_0 : decode cX4_stingsOn 0 = .ok (.aload_n 1, 1) := by decide +kernel
theorem dX4_stingsOn_1 : decode cX4_stingsOn 1 = .ok (.invokevirtual 155, 3) := by decide +kernel
theorem dX4_stingsOn_4 : decode cX4_stingsOn 4 = .ok (.ifCond .ne 5, 3) := by decide +kernel
theorem dX4_stingsOn_7 : decode cX4_stingsOn 7 = .ok (.iconst 0, 1) := by decide +kernel
theorem dX4_stingsOn_8 : decode cX4_stingsOn 8 = .ok (.ireturn, 1) := by decide +kernel
theorem dX4_stingsOn_9 : decode cX4_stingsOn 9 = .ok (.iconst 0, 1) := by decide +kernel
theorem dX4_stingsOn_10 : decode cX4_stingsOn 10 = .ok (.istore_n 3, 1) := by decide +kernel
theorem dX4_stingsOn_11 : decode cX4_stingsOn 11 = .ok (.iconst 0, 1) := by decide +kernel
theorem dX4_stingsOn_12 : decode cX4_stingsOn 12 = .ok (.istore 4, 2) := by decide +kernel
theorem dX4_stingsOn_14 : decode cX4_stingsOn 14 = .ok (.iload 4, 2) := by decide +kernel
theorem dX4_stingsOn_16 : decode cX4_stingsOn 16 = .ok (.aload_n 0, 1) := by decide +kernel
theorem dX4_stingsOn_17 : decode cX4_stingsOn 17 = .ok (.getfield 59, 3) := by decide +kernel
theorem dX4_stingsOn_20 : decode cX4_stingsOn 20 = .ok (.if_icmp .ge 52, 3) := by decide +kernel
theorem dX4_stingsOn_23 : decode cX4_stingsOn 23 = .ok (.aload_n 1, 1) := by decide +kernel
theorem dX4_stingsOn_24 : decode cX4_stingsOn 24 = .ok (.iload 4, 2) := by decide +kernel
theorem dX4_stingsOn_26 : decode cX4_stingsOn 26 = .ok (.invokevirtual 134, 3) := by decide +kernel
theorem dX4_stingsOn_29 : decode cX4_stingsOn 29 = .ok (.ifCond .eq 37, 3) := by decide +kernel
theorem dX4_stingsOn_32 : decode cX4_stingsOn 32 = .ok (.iload_n 3, 1) := by decide +kernel
theorem dX4_stingsOn_33 : decode cX4_stingsOn 33 = .ok (.aload_n 1, 1) := by decide +kernel
theorem dX4_stingsOn_34 : decode cX4_stingsOn 34 = .ok (.getfield 122, 3) := by decide +kernel
theorem dX4_stingsOn_37 : decode cX4_stingsOn 37 = .ok (.aload_n 0, 1) := by decide +kernel
theorem dX4_stingsOn_38 : decode cX4_stingsOn 38 = .ok (.getfield 11, 3) := by decide +kernel
theorem dX4_stingsOn_41 : decode cX4_stingsOn 41 = .ok (.iload 4, 2) := by decide +kernel
theorem dX4_stingsOn_43 : decode cX4_stingsOn 43 = .ok (.aaload, 1) := by decide +kernel
theorem dX4_stingsOn_44 : decode cX4_stingsOn 44 = .ok (.getfield 74, 3) := by decide +kernel
theorem dX4_stingsOn_47 : decode cX4_stingsOn 47 = .ok (.imul, 1) := by decide +kernel
theorem dX4_stingsOn_48 : decode cX4_stingsOn 48 = .ok (.aload_n 0, 1) := by decide +kernel
theorem dX4_stingsOn_49 : decode cX4_stingsOn 49 = .ok (.getfield 11, 3) := by decide +kernel
theorem dX4_stingsOn_52 : decode cX4_stingsOn 52 = .ok (.iload 4, 2) := by decide +kernel
theorem dX4_stingsOn_54 : decode cX4_stingsOn 54 = .ok (.aaload, 1) := by decide +kernel
theorem dX4_stingsOn_55 : decode cX4_stingsOn 55 = .ok (.iload_n 2, 1) := by decide +kernel
theorem dX4_stingsOn_56 : decode cX4_stingsOn 56 = .ok (.invokevirtual 107, 3) := by decide +kernel
theorem dX4_stingsOn_59 : decode cX4_stingsOn 59 = .ok (.imul, 1) := by decide +kernel
theorem dX4_stingsOn_60 : decode cX4_stingsOn 60 = .ok (.sipush 5000, 3) := by decide +kernel
theorem dX4_stingsOn_63 : decode cX4_stingsOn 63 = .ok (.idiv, 1) := by decide +kernel
theorem dX4_stingsOn_64 : decode cX4_stingsOn 64 = .ok (.iadd, 1) := by decide +kernel
theorem dX4_stingsOn_65 : decode cX4_stingsOn 65 = .ok (.istore_n 3, 1) := by decide +kernel
theorem dX4_stingsOn_66 : decode cX4_stingsOn 66 = .ok (.iinc 4 1, 3) := by decide +kernel
theorem dX4_stingsOn_69 : decode cX4_stingsOn 69 = .ok (.goto (-55), 3) := by decide +kernel
theorem dX4_stingsOn_72 : decode cX4_stingsOn 72 = .ok (.iload_n 3, 1) := by decide +kernel
theorem dX4_stingsOn_73 : decode cX4_stingsOn 73 = .ok (.ireturn, 1) := by decide +kernel
set_option maxRecDepth 20000 in
theorem ggX4_joyWithStopAdded_X2_append : GoodIn wsX4_joyWithStopAdded wsX2_append := goodIn_r _ [5, 6, 7, 8, 9, 10, 3, 11, 76, 77, 78, 79] (by decide +kernel) (by decide +kernel)
set_option maxRecDepth 20000 in
theorem gX4_joyWithStopAdded_X2_append_n140 : GoodIn wsX4_joyWithStopAdded (wsX2_append) := ggX4_joyWithStopAdded_X2_append
set_option maxRecDepth 20000 in
theorem ggX4_joyWithStopAdded_X4_reckonCrowds : GoodIn wsX4_joyWithStopAdded wsX4_reckonCrowds := goodIn_r _ [16, 17, 18, 19, 20, 21, 22, 3, 23, 24, 7, 6, 25, 26, 27, 28, 29, 30, 31, 32, 33, 34, 35, 15, 36, 37, 38, 39, 40, 41, 42, 43, 44, 45, 46, 67, 68, 69, 70, 71, 72, 73, 74, 75, 80, 81, 82, 83, 84, 76, 77, 78, 79, 85, 86] (by decide +kernel) (by decide +kernel)
set_option maxRecDepth 20000 in
theorem gX4_joyWithStopAdded_X4_reckonCrowds : GoodIn wsX4_joyWithStopAdded (wsV RX4 94 RX4 yX4_reckonCrowds wsX4_reckonCrowds) := goodIn_app (goodIn_of _ (by decide +kernel)) ggX4_joyWithStopAdded_X4_reckonCrowds
set_option maxRecDepth 20000 in
theorem ggX4_joyWithStopAdded_X4_joyOn : GoodIn wsX4_joyWithStopAdded wsX4_joyOn := goodIn_r _ [50, 17, 18, 51, 52, 53, 54, 37, 3, 38, 39, 7, 25, 35, 15, 36, 44, 45, 46, 6, 55, 56, 57, 58, 59, 60, 61, 62, 63, 67, 68, 69, 70, 71, 72, 73, 74, 75, 80, 81, 82, 83, 84, 76, 77, 78, 79] (by decide +kernel) (by decide +kernel)
set_option maxRecDepth 20000 in
theorem gX4_joyWithStopAdded_X4_joyOn : GoodIn wsX4_joyWithStopAdded (wsV RX4 161 RX4 yX4_joyOn wsX4_joyOn) := goodIn_app (goodIn_of _ (by decide +kernel)) ggX4_joyWithStopAdded_X4_joyOn
set_option maxRecDepth 20000 in
theorem ggX4_joyWithStopAdded_X2_takeLast : GoodIn wsX4_joyWithStopAdded wsX2_takeLast := goodIn_r _ [66, 7, 6, 76, 77, 78, 79] (by decide +kernel) (by decide +kernel)
set_option maxRecDepth 20000 in
theorem gX4_joyWithStopAdded_X2_takeLast_n148 : GoodIn wsX4_joyWithStopAdded (wsX2_takeLast) := ggX4_joyWithStopAdded_X2_takeLast
theorem dX4_joyWithStopAdded_0 : decode cX4_joyWithStopAdded 0 = .ok (.aload_n 1, 1) := by decide +kernel
theorem dX4_joyWithStopAdded_1 : decode cX4_joyWithStopAdded 1 = .ok (.iload_n 2, 1) := by decide +kernel
theorem dX4_joyWithStopAdded_2 : decode cX4_joyWithStopAdded 2 = .ok (.invokevirtual 140, 3) := by decide +kernel
theorem dX4_joyWithStopAdded_5 : decode cX4_joyWithStopAdded 5 = .ok (.aload_n 0, 1) := by decide +kernel
theorem dX4_joyWithStopAdded_6 : decode cX4_joyWithStopAdded 6 = .ok (.invokevirtual 94, 3) := by decide +kernel
theorem dX4_joyWithStopAdded_9 : decode cX4_joyWithStopAdded 9 = .ok (.aload_n 0, 1) := by decide +kernel
theorem dX4_joyWithStopAdded_10 : decode cX4_joyWithStopAdded 10 = .ok (.aload_n 1, 1) := by decide +kernel
theorem dX4_joyWithStopAdded_11 : decode cX4_joyWithStopAdded 11 = .ok (.aload_n 0, 1) := by decide +kernel
theorem dX4_joyWithStopAdded_12 : decode cX4_joyWithStopAdded 12 = .ok (.getfield 158, 3) := by decide +kernel
theorem dX4_joyWithStopAdded_15 : decode cX4_joyWithStopAdded 15 = .ok (.invokevirtual 161, 3) := by decide +kernel
theorem dX4_joyWithStopAdded_18 : decode cX4_joyWithStopAdded 18 = .ok (.istore_n 3, 1) := by decide +kernel
theorem dX4_joyWithStopAdded_19 : decode cX4_joyWithStopAdded 19 = .ok (.aload_n 1, 1) := by decide +kernel
theorem dX4_joyWithStopAdded_20 : decode cX4_joyWithStopAdded 20 = .ok (.invokevirtual 148, 3) := by decide +kernel
theorem dX4_joyWithStopAdded_23 : decode cX4_joyWithStopAdded 23 = .ok (.pop, 1) := by decide +kernel
theorem dX4_joyWithStopAdded_24 : decode cX4_joyWithStopAdded 24 = .ok (.aload_n 0, 1) := by decide +kernel
theorem dX4_joyWithStopAdded_25 : decode cX4_joyWithStopAdded 25 = .ok (.invokevirtual 94, 3) := by decide +kernel
theorem dX4_joyWithStopAdded_28 : decode cX4_joyWithStopAdded 28 = .ok (.iload_n 3, 1) := by decide +kernel
theorem dX4_joyWithStopAdded_29 : decode cX4_joyWithStopAdded 29 = .ok (.ireturn, 1) := by decide +kernel
set_option maxRecDepth 20000 in
theorem ggX4_enterDays_X4_enterDay : GoodIn wsX4_enterDays wsX4_enterDay := goodIn_r _ [6, 7, 8, 9, 10, 11, 12, 13, 14, 15, 16, 17, 18, 19, 20, 5, 21, 22, 23, 24, 25, 26, 27, 28, 29, 30, 31, 32, 33, 34, 35, 36, 37, 38, 39, 40, 41, 42, 43, 44, 45, 46, 47, 48, 49, 50, 51, 52, 53, 54, 55, 56, 57, 58, 59, 60, 61, 62, 63, 64, 65, 66, 67, 68, 69] (by decide +kernel) (by decide +kernel)
set_option maxRecDepth 20000 in
theorem gX4_enterDays_X4_enterDay : GoodIn wsX4_enterDays (wsV RX4 257 RX4 yX4_enterDay wsX4_enterDay) := goodIn_app (goodIn_of _ (by decide +kernel)) ggX4_enterDays_X4_enterDay
theorem dX4_enterDays_0 : decode cX4_enterDays 0 = .ok (.iconst 0, 1) := by decide +kernel
theorem dX4_enterDays_1 : decode cX4_enterDays 1 = .ok (.istore_n 3, 1) := by decide +kernel
theorem dX4_enterDays_2 : decode cX4_enterDays 2 = .ok (.iload_n 3, 1) := by decide +kernel
theorem dX4_enterDays_3 : decode cX4_enterDays 3 = .ok (.iload_n 2, 1) := by decide +kernel
theorem dX4_enterDays_4 : decode cX4_enterDays 4 = .ok (.if_icmp .ge 20, 3) := by decide +kernel
theorem dX4_enterDays_7 : decode cX4_enterDays 7 = .ok (.aload_n 0, 1) := by decide +kernel
theorem dX4_enterDays_8 : decode cX4_enterDays 8 = .ok (.aload_n 1, 1) := by decide +kernel
theorem dX4_enterDays_9 : decode cX4_enterDays 9 = .ok (.aload_n 0, 1) := by decide +kernel
theorem dX4_enterDays_10 : decode cX4_enterDays 10 = .ok (.getfield 158, 3) := by decide +kernel
theorem dX4_enterDays_13 : decode cX4_enterDays 13 = .ok (.iload_n 3, 1) := by decide +kernel
theorem dX4_enterDays_14 : decode cX4_enterDays 14 = .ok (.iadd, 1) := by decide +kernel
theorem dX4_enterDays_15 : decode cX4_enterDays 15 = .ok (.invokevirtual 257, 3) := by decide +kernel
theorem dX4_enterDays_18 : decode cX4_enterDays 18 = .ok (.iinc 3 1, 3) := by decide +kernel
theorem dX4_enterDays_21 : decode cX4_enterDays 21 = .ok (.goto (-19), 3) := by decide +kernel
theorem dX4_enterDays_24 : decode cX4_enterDays 24 = .ok (.return_, 1) := by decide +kernel
set_option maxRecDepth 20000 in
theorem ggX4_enterDay_J9_floorMod_7cf53 : GoodIn wsX4_enterDay wsJ9_floorMod_7cf53 := goodIn_r _ [7] (by decide +kernel) (by decide +kernel)
set_option maxRecDepth 20000 in
theorem gX4_enterDay_J9_floorMod_7cf53 : GoodIn wsX4_enterDay (va_wsS RX4 260 yJ9_floorMod_7cf53 wsJ9_floorMod_7cf53) := goodIn_app (goodIn_of _ (by decide +kernel)) ggX4_enterDay_J9_floorMod_7cf53
set_option maxRecDepth 20000 in
theorem ggX4_enterDay_X2_canGo : GoodIn wsX4_enterDay wsX2_canGo := goodIn_r _ [11, 12, 13, 14, 15, 16, 56, 57, 58, 59] (by decide +kernel) (by decide +kernel)
set_option maxRecDepth 20000 in
theorem gX4_enterDay_X2_canGo_n155 : GoodIn wsX4_enterDay (wsX2_canGo) := ggX4_enterDay_X2_canGo
set_option maxRecDepth 20000 in
theorem ggX4_enterDay_X4_joyOn : GoodIn wsX4_enterDay wsX4_joyOn := goodIn_r _ [20, 21, 22, 23, 24, 25, 26, 8, 9, 10, 11, 12, 13, 14, 15, 16, 27, 28, 29, 30, 31, 32, 33, 34, 35, 36, 37, 38, 39, 44, 45, 46, 47, 48, 49, 50, 51, 52, 60, 61, 62, 63, 64, 56, 57, 58, 59] (by decide +kernel) (by decide +kernel)
set_option maxRecDepth 20000 in
theorem gX4_enterDay_X4_joyOn : GoodIn wsX4_enterDay (wsV RX4 161 RX4 yX4_joyOn wsX4_joyOn) := goodIn_app (goodIn_of _ (by decide +kernel)) ggX4_enterDay_X4_joyOn
set_option maxRecDepth 20000 in
theorem ggX4_enterDay_X4_stingsOn : GoodIn wsX4_enterDay wsX4_stingsOn := goodIn_r _ [43, 21, 22, 8, 9, 10, 11, 12, 13, 14, 15, 16, 27, 28, 29, 30, 31, 32, 33, 34, 35, 36, 37, 38, 25, 39, 44, 45, 46, 47, 48, 49, 50, 51, 52, 56, 57, 58, 59, 60, 61, 62, 63, 64] (by decide +kernel) (by decide +kernel)
set_option maxRecDepth 20000 in
theorem gX4_enterDay_X4_stingsOn : GoodIn wsX4_enterDay (wsV RX4 165 RX4 yX4_stingsOn wsX4_stingsOn) := goodIn_app (goodIn_of _ (by decide +kernel)) ggX4_enterDay_X4_stingsOn
theorem dX4_enterDay_0 : decode cX4_enterDay 0 = .ok (.aload_n 0, 1) := by decide +kernel
theorem dX4_enterDay_1 : decode cX4_enterDay 1 = .ok (.getfield 21, 3) := by decide +kernel
theorem dX4_enterDay_4 : decode cX4_enterDay 4 = .ok (.iload_n 2, 1) := by decide +kernel
theorem dX4_enterDay_5 : decode cX4_enterDay 5 = .ok (.bipush 10, 2) := by decide +kernel
theorem dX4_enterDay_7 : decode cX4_enterDay 7 = .ok (.invokestatic 260, 3) := by decide +kernel
theorem dX4_enterDay_10 : decode cX4_enterDay 10 = .ok (.iaload, 1) := by decide +kernel
theorem dX4_enterDay_11 : decode cX4_enterDay 11 = .ok (.istore_n 3, 1) := by decide +kernel
theorem dX4_enterDay_12 : decode cX4_enterDay 12 = .ok (.iconst 0, 1) := by decide +kernel
theorem dX4_enterDay_13 : decode cX4_enterDay 13 = .ok (.istore 4, 2) := by decide +kernel
theorem dX4_enterDay_15 : decode cX4_enterDay 15 = .ok (.iload 4, 2) := by decide +kernel
theorem dX4_enterDay_17 : decode cX4_enterDay 17 = .ok (.aload_n 0, 1) := by decide +kernel
theorem dX4_enterDay_18 : decode cX4_enterDay 18 = .ok (.getfield 117, 3) := by decide +kernel
theorem dX4_enterDay_21 : decode cX4_enterDay 21 = .ok (.if_icmp .ge 93, 3) := by decide +kernel
theorem dX4_enterDay_24 : decode cX4_enterDay 24 = .ok (.aload_n 0, 1) := by decide +kernel
theorem dX4_enterDay_25 : decode cX4_enterDay 25 = .ok (.getfield 17, 3) := by decide +kernel
theorem dX4_enterDay_28 : decode cX4_enterDay 28 = .ok (.iload 4, 2) := by decide +kernel
theorem dX4_enterDay_30 : decode cX4_enterDay 30 = .ok (.aaload, 1) := by decide +kernel
theorem dX4_enterDay_31 : decode cX4_enterDay 31 = .ok (.astore 5, 2) := by decide +kernel
theorem dX4_enterDay_33 : decode cX4_enterDay 33 = .ok (.aload 5, 2) := by decide +kernel
theorem dX4_enterDay_35 : decode cX4_enterDay 35 = .ok (.invokevirtual 155, 3) := by decide +kernel
theorem dX4_enterDay_38 : decode cX4_enterDay 38 = .ok (.ifCond .eq 70, 3) := by decide +kernel
theorem dX4_enterDay_41 : decode cX4_enterDay 41 = .ok (.aload_n 0, 1) := by decide +kernel
theorem dX4_enterDay_42 : decode cX4_enterDay 42 = .ok (.aload 5, 2) := by decide +kernel
theorem dX4_enterDay_44 : decode cX4_enterDay 44 = .ok (.iload_n 2, 1) := by decide +kernel
theorem dX4_enterDay_45 : decode cX4_enterDay 45 = .ok (.invokevirtual 161, 3) := by decide +kernel
theorem dX4_enterDay_48 : decode cX4_enterDay 48 = .ok (.istore 6, 2) := by decide +kernel
theorem dX4_enterDay_50 : decode cX4_enterDay 50 = .ok (.aload_n 1, 1) := by decide +kernel
theorem dX4_enterDay_51 : decode cX4_enterDay 51 = .ok (.dup, 1) := by decide +kernel
theorem dX4_enterDay_52 : decode cX4_enterDay 52 = .ok (.getfield 182, 3) := by decide +kernel
theorem dX4_enterDay_55 : decode cX4_enterDay 55 = .ok (.iload 6, 2) := by decide +kernel
theorem dX4_enterDay_57 : decode cX4_enterDay 57 = .ok (.aload 5, 2) := by decide +kernel
theorem dX4_enterDay_59 : decode cX4_enterDay 59 = .ok (.getfield 122, 3) := by decide +kernel
theorem dX4_enterDay_62 : decode cX4_enterDay 62 = .ok (.imul, 1) := by decide +kernel
theorem dX4_enterDay_63 : decode cX4_enterDay 63 = .ok (.bipush 100, 2) := by decide +kernel
theorem dX4_enterDay_65 : decode cX4_enterDay 65 = .ok (.idiv, 1) := by decide +kernel
theorem dX4_enterDay_66 : decode cX4_enterDay 66 = .ok (.aload 5, 2) := by decide +kernel
theorem dX4_enterDay_68 : decode cX4_enterDay 68 = .ok (.getfield 122, 3) := by decide +kernel
theorem dX4_enterDay_71 : decode cX4_enterDay 71 = .ok (.iload_n 3, 1) := by decide +kernel
theorem dX4_enterDay_72 : decode cX4_enterDay 72 = .ok (.imul, 1) := by decide +kernel
theorem dX4_enterDay_73 : decode cX4_enterDay 73 = .ok (.bipush 40, 2) := by decide +kernel
theorem dX4_enterDay_75 : decode cX4_enterDay 75 = .ok (.idiv, 1) := by decide +kernel
theorem dX4_enterDay_76 : decode cX4_enterDay 76 = .ok (.iadd, 1) := by decide +kernel
theorem dX4_enterDay_77 : decode cX4_enterDay 77 = .ok (.iadd, 1) := by decide +kernel
theorem dX4_enterDay_78 : decode cX4_enterDay 78 = .ok (.putfield 182, 3) := by decide +kernel
theorem dX4_enterDay_81 : decode cX4_enterDay 81 = .ok (.aload_n 1, 1) := by decide +kernel
theorem dX4_enterDay_82 : decode cX4_enterDay 82 = .ok (.dup, 1) := by decide +kernel
theorem dX4_enterDay_83 : decode cX4_enterDay 83 = .ok (.getfield 185, 3) := by decide +kernel
theorem dX4_enterDay_86 : decode cX4_enterDay 86 = .ok (.iload 6, 2) := by decide +kernel
theorem dX4_enterDay_88 : decode cX4_enterDay 88 = .ok (.iadd, 1) := by decide +kernel
theorem dX4_enterDay_89 : decode cX4_enterDay 89 = .ok (.putfield 185, 3) := by decide +kernel
theorem dX4_enterDay_92 : decode cX4_enterDay 92 = .ok (.aload_n 1, 1) := by decide +kernel
theorem dX4_enterDay_93 : decode cX4_enterDay 93 = .ok (.dup, 1) := by decide +kernel
theorem dX4_enterDay_94 : decode cX4_enterDay 94 = .ok (.getfield 188, 3) := by decide +kernel
theorem dX4_enterDay_97 : decode cX4_enterDay 97 = .ok (.aload_n 0, 1) := by decide +kernel
theorem dX4_enterDay_98 : decode cX4_enterDay 98 = .ok (.aload 5, 2) := by decide +kernel
theorem dX4_enterDay_100 : decode cX4_enterDay 100 = .ok (.iload_n 2, 1) := by decide +kernel
theorem dX4_enterDay_101 : decode cX4_enterDay 101 = .ok (.invokevirtual 165, 3) := by decide +kernel
theorem dX4_enterDay_104 : decode cX4_enterDay 104 = .ok (.iadd, 1) := by decide +kernel
theorem dX4_enterDay_105 : decode cX4_enterDay 105 = .ok (.putfield 188, 3) := by decide +kernel
theorem dX4_enterDay_108 : decode cX4_enterDay 108 = .ok (.iinc 4 1, 3) := by decide +kernel
theorem dX4_enterDay_111 : decode cX4_enterDay 111 = .ok (.goto (-96), 3) := by decide +kernel
theorem dX4_enterDay_114 : decode cX4_enterDay 114 = .ok (.return_, 1) := by decide +kernel
set_option maxRecDepth 20000 in
theorem ggX4_toursThatCanGo_X2_canGo : GoodIn wsX4_toursThatCanGo wsX2_canGo := goodIn_r _ [6, 7, 8, 9, 10, 11, 21, 22, 23, 24] (by decide +kernel) (by decide +kernel)
set_option maxRecDepth 20000 in
theorem gX4_toursThatCanGo_X2_canGo_n155 : GoodIn wsX4_toursThatCanGo (wsX2_canGo) := ggX4_toursThatCanGo_X2_canGo
theorem dX4_toursThatCanGo_0 : decode cX4_toursThatCanGo 0 = .ok (.iconst 0, 1) := by decide +kernel
theorem dX4_toursThatCanGo_1 : decode cX4_toursThatCanGo 1 = .ok (.istore_n 1, 1) := by decide +kernel
theorem dX4_toursThatCanGo_2 : decode cX4_toursThatCanGo 2 = .ok (.iconst 0, 1) := by decide +kernel
theorem dX4_toursThatCanGo_3 : decode cX4_toursThatCanGo 3 = .ok (.istore_n 2, 1) := by decide +kernel
theorem dX4_toursThatCanGo_4 : decode cX4_toursThatCanGo 4 = .ok (.iload_n 2, 1) := by decide +kernel
theorem dX4_toursThatCanGo_5 : decode cX4_toursThatCanGo 5 = .ok (.aload_n 0, 1) := by decide +kernel
theorem dX4_toursThatCanGo_6 : decode cX4_toursThatCanGo 6 = .ok (.getfield 117, 3) := by decide +kernel
theorem dX4_toursThatCanGo_9 : decode cX4_toursThatCanGo 9 = .ok (.if_icmp .ge 24, 3) := by decide +kernel
theorem dX4_toursThatCanGo_12 : decode cX4_toursThatCanGo 12 = .ok (.aload_n 0, 1) := by decide +kernel
theorem dX4_toursThatCanGo_13 : decode cX4_toursThatCanGo 13 = .ok (.getfield 17, 3) := by decide +kernel
theorem dX4_toursThatCanGo_16 : decode cX4_toursThatCanGo 16 = .ok (.iload_n 2, 1) := by decide +kernel
theorem dX4_toursThatCanGo_17 : decode cX4_toursThatCanGo 17 = .ok (.aaload, 1) := by decide +kernel
theorem dX4_toursThatCanGo_18 : decode cX4_toursThatCanGo 18 = .ok (.invokevirtual 155, 3) := by decide +kernel
theorem dX4_toursThatCanGo_21 : decode cX4_toursThatCanGo 21 = .ok (.ifCond .eq 6, 3) := by decide +kernel
theorem dX4_toursThatCanGo_24 : decode cX4_toursThatCanGo 24 = .ok (.iinc 1 1, 3) := by decide +kernel
theorem dX4_toursThatCanGo_27 : decode cX4_toursThatCanGo 27 = .ok (.iinc 2 1, 3) := by decide +kernel
theorem dX4_toursThatCanGo_30 : decode cX4_toursThatCanGo 30 = .ok (.goto (-26), 3) := by decide +kernel
theorem dX4_toursThatCanGo_33 : decode cX4_toursThatCanGo 33 = .ok (.iload_n 1, 1) := by decide +kernel
theorem dX4_toursThatCanGo_34 : decode cX4_toursThatCanGo 34 = .ok (.ireturn, 1) := by decide +kernel
set_option maxRecDepth 20000 in
theorem ggX4_valleysInBloomOn_X3_bloomOn : GoodIn wsX4_valleysInBloomOn wsX3_bloomOn := goodIn_r _ [6, 7, 8, 9, 10, 11, 12, 22, 23, 24, 25, 26] (by decide +kernel) (by decide +kernel)
set_option maxRecDepth 20000 in
theorem gX4_valleysInBloomOn_X3_bloomOn_n107 : GoodIn wsX4_valleysInBloomOn (wsX3_bloomOn) := ggX4_valleysInBloomOn_X3_bloomOn
theorem dX4_valleysInBloomOn_0 : decode cX4_valleysInBloomOn 0 = .ok (.iconst 0, 1) := by decide +kernel
theorem dX4_valleysInBloomOn_1 : decode cX4_valleysInBloomOn 1 = .ok (.istore_n 2, 1) := by decide +kernel
theorem dX4_valleysInBloomOn_2 : decode cX4_valleysInBloomOn 2 = .ok (.iconst 0, 1) := by decide +kernel
theorem dX4_valleysInBloomOn_3 : decode cX4_valleysInBloomOn 3 = .ok (.istore_n 3, 1) := by decide +kernel
theorem dX4_valleysInBloomOn_4 : decode cX4_valleysInBloomOn 4 = .ok (.iload_n 3, 1) := by decide +kernel
theorem dX4_valleysInBloomOn_5 : decode cX4_valleysInBloomOn 5 = .ok (.aload_n 0, 1) := by decide +kernel
theorem dX4_valleysInBloomOn_6 : decode cX4_valleysInBloomOn 6 = .ok (.getfield 59, 3) := by decide +kernel
theorem dX4_valleysInBloomOn_9 : decode cX4_valleysInBloomOn 9 = .ok (.if_icmp .ge 25, 3) := by decide +kernel
theorem dX4_valleysInBloomOn_12 : decode cX4_valleysInBloomOn 12 = .ok (.aload_n 0, 1) := by decide +kernel
theorem dX4_valleysInBloomOn_13 : decode cX4_valleysInBloomOn 13 = .ok (.getfield 11, 3) := by decide +kernel
theorem dX4_valleysInBloomOn_16 : decode cX4_valleysInBloomOn 16 = .ok (.iload_n 3, 1) := by decide +kernel
theorem dX4_valleysInBloomOn_17 : decode cX4_valleysInBloomOn 17 = .ok (.aaload, 1) := by decide +kernel
theorem dX4_valleysInBloomOn_18 : decode cX4_valleysInBloomOn 18 = .ok (.iload_n 1, 1) := by decide +kernel
theorem dX4_valleysInBloomOn_19 : decode cX4_valleysInBloomOn 19 = .ok (.invokevirtual 107, 3) := by decide +kernel
theorem dX4_valleysInBloomOn_22 : decode cX4_valleysInBloomOn 22 = .ok (.ifCond .le 6, 3) := by decide +kernel
theorem dX4_valleysInBloomOn_25 : decode cX4_valleysInBloomOn 25 = .ok (.iinc 2 1, 3) := by decide +kernel
theorem dX4_valleysInBloomOn_28 : decode cX4_valleysInBloomOn 28 = .ok (.iinc 3 1, 3) := by decide +kernel
theorem dX4_valleysInBloomOn_31 : decode cX4_valleysInBloomOn 31 = .ok (.goto (-27), 3) := by decide +kernel
theorem dX4_valleysInBloomOn_34 : decode cX4_valleysInBloomOn 34 = .ok (.iload_n 2, 1) := by decide +kernel
theorem dX4_valleysInBloomOn_35 : decode cX4_valleysInBloomOn 35 = .ok (.ireturn, 1) := by decide +kernel
theorem dX5_init_0 : decode cX5_init 0 = .ok (.aload_n 0, 1) := by decide +kernel
theorem dX5_init_1 : decode cX5_init 1 = .ok (.invokespecial 1, 3) := by decide +kernel
theorem dX5_init_4 : decode cX5_init 4 = .ok (.aload_n 0, 1) := by decide +kernel
theorem dX5_init_5 : decode cX5_init 5 = .ok (.bipush 8, 2) := by decide +kernel
theorem dX5_init_7 : decode cX5_init 7 = .ok (.newarray .int, 2) := by decide +kernel
theorem dX5_init_9 : decode cX5_init 9 = .ok (.putfield 9, 3) := by decide +kernel
theorem dX5_init_12 : decode cX5_init 12 = .ok (.aload_n 0, 1) := by decide +kernel
theorem dX5_init_13 : decode cX5_init 13 = .ok (.bipush 8, 2) := by decide +kernel
theorem dX5_init_15 : decode cX5_init 15 = .ok (.newarray .int, 2) := by decide +kernel
theorem dX5_init_17 : decode cX5_init 17 = .ok (.putfield 13, 3) := by decide +kernel
theorem dX5_init_20 : decode cX5_init 20 = .ok (.aload_n 0, 1) := by decide +kernel
theorem dX5_init_21 : decode cX5_init 21 = .ok (.bipush 8, 2) := by decide +kernel
theorem dX5_init_23 : decode cX5_init 23 = .ok (.newarray .int, 2) := by decide +kernel
theorem dX5_init_25 : decode cX5_init 25 = .ok (.putfield 16, 3) := by decide +kernel
theorem dX5_init_28 : decode cX5_init 28 = .ok (.aload_n 0, 1) := by decide +kernel
theorem dX5_init_29 : decode cX5_init 29 = .ok (.bipush 64, 2) := by decide +kernel
theorem dX5_init_31 : decode cX5_init 31 = .ok (.newarray .int, 2) := by decide +kernel
theorem dX5_init_33 : decode cX5_init 33 = .ok (.putfield 19, 3) := by decide +kernel
theorem dX5_init_36 : decode cX5_init 36 = .ok (.aload_n 0, 1) := by decide +kernel
theorem dX5_init_37 : decode cX5_init 37 = .ok (.bipush 10, 2) := by decide +kernel
theorem dX5_init_39 : decode cX5_init 39 = .ok (.newarray .int, 2) := by decide +kernel
theorem dX5_init_41 : decode cX5_init 41 = .ok (.dup, 1) := by decide +kernel
theorem dX5_init_42 : decode cX5_init 42 = .ok (.iconst 0, 1) := by decide +kernel
theorem dX5_init_43 : decode cX5_init 43 = .ok (.bipush 20, 2) := by decide +kernel
theorem dX5_init_45 : decode cX5_init 45 = .ok (.iastore, 1) := by decide +kernel
theorem dX5_init_46 : decode cX5_init 46 = .ok (.dup, 1) := by decide +kernel
theorem dX5_init_47 : decode cX5_init 47 = .ok (.iconst 1, 1) := by decide +kernel
theorem dX5_init_48 : decode cX5_init 48 = .ok (.bipush 20, 2) := by decide +kernel
theorem dX5_init_50 : decode cX5_init 50 = .ok (.iastore, 1) := by decide +kernel
theorem dX5_init_51 : decode cX5_init 51 = .ok (.dup, 1) := by decide +kernel
theorem dX5_init_52 : decode cX5_init 52 = .ok (.iconst 2, 1) := by decide +kernel
theorem dX5_init_53 : decode cX5_init 53 = .ok (.bipush 20, 2) := by decide +kernel
theorem dX5_init_55 : decode cX5_init 55 = .ok (.iastore, 1) := by decide +kernel
theorem dX5_init_56 : decode cX5_init 56 = .ok (.dup, 1) := by decide +kernel
theorem dX5_init_57 : decode cX5_init 57 = .ok (.iconst 3, 1) := by decide +kernel
theorem dX5_init_58 : decode cX5_init 58 = .ok (.bipush 20, 2) := by decide +kernel
theorem dX5_init_60 : decode cX5_init 60 = .ok (.iastore, 1) := by decide +kernel
theorem dX5_init_61 : decode cX5_init 61 = .ok (.dup, 1) := by decide +kernel
theorem dX5_init_62 : decode cX5_init 62 = .ok (.iconst 4, 1) := by decide +kernel
theorem dX5_init_63 : decode cX5_init 63 = .ok (.bipush 20, 2) := by decide +kernel
theorem dX5_init_65 : decode cX5_init 65 = .ok (.iastore, 1) := by decide +kernel
theorem dX5_init_66 : decode cX5_init 66 = .ok (.dup, 1) := by decide +kernel
theorem dX5_init_67 : decode cX5_init 67 = .ok (.iconst 5, 1) := by decide +kernel
theorem dX5_init_68 : decode cX5_init 68 = .ok (.bipush 20, 2) := by decide +kernel
theorem dX5_init_70 : decode cX5_init 70 = .ok (.iastore, 1) := by decide +kernel
theorem dX5_init_71 : decode cX5_init 71 = .ok (.dup, 1) := by decide +kernel
theorem dX5_init_72 : decode cX5_init 72 = .ok (.bipush 6, 2) := by decide +kernel
theorem dX5_init_74 : decode cX5_init 74 = .ok (.bipush 20, 2) := by decide +kernel
theorem dX5_init_76 : decode cX5_init 76 = .ok (.iastore, 1) := by decide +kernel
theorem dX5_init_77 : decode cX5_init 77 = .ok (.dup, 1) := by decide +kernel
theorem dX5_init_78 : decode cX5_init 78 = .ok (.bipush 7, 2) := by decide +kernel
theorem dX5_init_80 : decode cX5_init 80 = .ok (.bipush 20, 2) := by decide +kernel
theorem dX5_init_82 : decode cX5_init 82 = .ok (.iastore, 1) := by decide +kernel
theorem dX5_init_83 : decode cX5_init 83 = .ok (.dup, 1) := by decide +kernel
theorem dX5_init_84 : decode cX5_init 84 = .ok (.bipush 8, 2) := by decide +kernel
theorem dX5_init_86 : decode cX5_init 86 = .ok (.bipush 20, 2) := by decide +kernel
theorem dX5_init_88 : decode cX5_init 88 = .ok (.iastore, 1) := by decide +kernel
theorem dX5_init_89 : decode cX5_init 89 = .ok (.dup, 1) := by decide +kernel
theorem dX5_init_90 : decode cX5_init 90 = .ok (.bipush 9, 2) := by decide +kernel
theorem dX5_init_92 : decode cX5_init 92 = .ok (.bipush 20, 2) := by decide +kernel
theorem dX5_init_94 : decode cX5_init 94 = .ok (.iastore, 1) := by decide +kernel
theorem dX5_init_95 : decode cX5_init 95 = .ok (.putfield 22, 3) := by decide +kernel
theorem dX5_init_98 : decode cX5_init 98 = .ok (.aload_n 0, 1) := by decide +kernel
theorem dX5_init_99 : decode cX5_init 99 = .ok (.bipush 6, 2) := by decide +kernel
theorem dX5_init_101 : decode cX5_init 101 = .ok (.newarray .int, 2) := by decide +kernel
theorem dX5_init_103 : decode cX5_init 103 = .ok (.putfield 25, 3) := by decide +kernel
theorem dX5_init_106 : decode cX5_init 106 = .ok (.aload_n 0, 1) := by decide +kernel
theorem dX5_init_107 : decode cX5_init 107 = .ok (.bipush 6, 2) := by decide +kernel
theorem dX5_init_109 : decode cX5_init 109 = .ok (.newarray .int, 2) := by decide +kernel
theorem dX5_init_111 : decode cX5_init 111 = .ok (.putfield 28, 3) := by decide +kernel
theorem dX5_init_114 : decode cX5_init 114 = .ok (.aload_n 0, 1) := by decide +kernel
theorem dX5_init_115 : decode cX5_init 115 = .ok (.bipush 30, 2) := by decide +kernel
theorem dX5_init_117 : decode cX5_init 117 = .ok (.newarray .int, 2) := by decide +kernel
theorem dX5_init_119 : decode cX5_init 119 = .ok (.putfield 31, 3) := by decide +kernel
theorem dX5_init_122 : decode cX5_init 122 = .ok (.aload_n 0, 1) := by decide +kernel
theorem dX5_init_123 : decode cX5_init 123 = .ok (.iconst 4, 1) := by decide +kernel
theorem dX5_init_124 : decode cX5_init 124 = .ok (.newarray .int, 2) := by decide +kernel
theorem dX5_init_126 : decode cX5_init 126 = .ok (.putfield 34, 3) := by decide +kernel
theorem dX5_init_129 : decode cX5_init 129 = .ok (.iconst 0, 1) := by decide +kernel
theorem dX5_init_130 : decode cX5_init 130 = .ok (.istore_n 1, 1) := by decide +kernel
theorem dX5_init_131 : decode cX5_init 131 = .ok (.iload_n 1, 1) := by decide +kernel
theorem dX5_init_132 : decode cX5_init 132 = .ok (.aload_n 0, 1) := by decide +kernel
theorem dX5_init_133 : decode cX5_init 133 = .ok (.getfield 19, 3) := by decide +kernel
theorem dX5_init_136 : decode cX5_init 136 = .ok (.arraylength, 1) := by decide +kernel
theorem dX5_init_137 : decode cX5_init 137 = .ok (.if_icmp .ge 27, 3) := by decide +kernel
theorem dX5_init_140 : decode cX5_init 140 = .ok (.aload_n 0, 1) := by decide +kernel
theorem dX5_init_141 : decode cX5_init 141 = .ok (.getfield 19, 3) := by decide +kernel
theorem dX5_init_144 : decode cX5_init 144 = .ok (.iload_n 1, 1) := by decide +kernel
theorem dX5_init_145 : decode cX5_init 145 = .ok (.iload_n 1, 1) := by decide +kernel
theorem dX5_init_146 : decode cX5_init 146 = .ok (.bipush 9, 2) := by decide +kernel
theorem dX5_init_148 : decode cX5_init 148 = .ok (.irem, 1) := by decide +kernel
theorem dX5_init_149 : decode cX5_init 149 = .ok (.ifCond .ne 7, 3) := by decide +kernel
theorem dX5_init_152 : decode cX5_init 152 = .ok (.iconst 0, 1) := by decide +kernel
theorem dX5_init_153 : decode cX5_init 153 = .ok (.goto 4, 3) := by decide +kernel
theorem dX5_init_156 : decode cX5_init 156 = .ok (.iconst (-1), 1) := by decide +kernel
theorem dX5_init_157 : decode cX5_init 157 = .ok (.iastore, 1) := by decide +kernel
theorem dX5_init_158 : decode cX5_init 158 = .ok (.iinc 1 1, 3) := by decide +kernel
theorem dX5_init_161 : decode cX5_init 161 = .ok (.goto (-30), 3) := by decide +kernel
theorem dX5_init_164 : decode cX5_init 164 = .ok (.return_, 1) := by decide +kernel
theorem dX5_thrown_0 : decode cX5_thrown 0 = .ok (.aload_n 0, 1) := by decide +kernel
theorem dX5_thrown_1 : decode cX5_thrown 1 = .ok (.getfield 37, 3) := by decide +kernel
theorem dX5_thrown_4 : decode cX5_thrown 4 = .ok (.ireturn, 1) := by decide +kernel
theorem dX5_no_0 : decode cX5_no 0 = .ok (.aload_n 0, 1) := by decide +kernel
theorem dX5_no_1 : decode cX5_no 1 = .ok (.iload_n 1, 1) := by decide +kernel
theorem dX5_no_2 : decode cX5_no 2 = .ok (.putfield 37, 3) := by decide +kernel
theorem dX5_no_5 : decode cX5_no 5 = .ok (.iconst 0, 1) := by decide +kernel
theorem dX5_no_6 : decode cX5_no 6 = .ok (.ireturn, 1) := by decide +kernel
theorem dX5_isIn_0 : decode cX5_isIn 0 = .ok (.iload_n 0, 1) := by decide +kernel
theorem dX5_isIn_1 : decode cX5_isIn 1 = .ok (.iload_n 1, 1) := by decide +kernel
theorem dX5_isIn_2 : decode cX5_isIn 2 = .ok (.if_icmp .lt 12, 3) := by decide +kernel
theorem dX5_isIn_5 : decode cX5_isIn 5 = .ok (.iload_n 0, 1) := by decide +kernel
theorem dX5_isIn_6 : decode cX5_isIn 6 = .ok (.iload_n 2, 1) := by decide +kernel
theorem dX5_isIn_7 : decode cX5_isIn 7 = .ok (.if_icmp .gt 7, 3) := by decide +kernel
theorem dX5_isIn_10 : decode cX5_isIn 10 = .ok (.iconst 1, 1) := by decide +kernel
theorem dX5_isIn_11 : decode cX5_isIn 11 = .ok (.goto 4, 3) := by decide +kernel
theorem dX5_isIn_14 : decode cX5_isIn 14 = .ok (.iconst 0, 1) := by decide +kernel
theorem dX5_isIn_15 : decode cX5_isIn 15 = .ok (.ireturn, 1) := by decide +kernel
set_option maxRecDepth 20000 in
theorem ggX5_isValley_X5_isIn : GoodIn wsX5_isValley wsX5_isIn := goodIn_r _ [5] (by decide +kernel) (by decide +kernel)
set_option maxRecDepth 20000 in
theorem gX5_isValley_X5_isIn : GoodIn wsX5_isValley (va_wsS RX5 44 yX5_isIn wsX5_isIn) := goodIn_app (goodIn_of _ (by decide +kernel)) ggX5_isValley_X5_isIn
theorem dX5_isValley_0 : decode cX5_isValley 0 = .ok (.iload_n 1, 1) := by decide +kernel
theorem dX5_isValley_1 : decode cX5_isValley 1 = .ok (.iconst 0, 1) := by decide +kernel
theorem dX5_isValley_2 : decode cX5_isValley 2 = .ok (.aload_n 0, 1) := by decide +kernel
theorem dX5_isValley_3 : decode cX5_isValley 3 = .ok (.getfield 41, 3) := by decide +kernel
theorem dX5_isValley_6 : decode cX5_isValley 6 = .ok (.iconst 1, 1) := by decide +kernel
theorem dX5_isValley_7 : decode cX5_isValley 7 = .ok (.isub, 1) := by decide +kernel
theorem dX5_isValley_8 : decode cX5_isValley 8 = .ok (.invokestatic 44, 3) := by decide +kernel
theorem dX5_isValley_11 : decode cX5_isValley 11 = .ok (.ireturn, 1) := by decide +kernel
set_option maxRecDepth 20000 in
theorem ggX5_isTour_X5_isIn : GoodIn wsX5_isTour wsX5_isIn := goodIn_r _ [5] (by decide +kernel) (by decide +kernel)
set_option maxRecDepth 20000 in
theorem gX5_isTour_X5_isIn : GoodIn wsX5_isTour (va_wsS RX5 44 yX5_isIn wsX5_isIn) := goodIn_app (goodIn_of _ (by decide +kernel)) ggX5_isTour_X5_isIn
theorem dX5_isTour_0 : decode cX5_isTour 0 = .ok (.iload_n 1, 1) := by decide +kernel
theorem dX5_isTour_1 : decode cX5_isTour 1 = .ok (.iconst 0, 1) := by decide +kernel
theorem dX5_isTour_2 : decode cX5_isTour 2 = .ok (.aload_n 0, 1) := by decide +kernel
theorem dX5_isTour_3 : decode cX5_isTour 3 = .ok (.getfield 48, 3) := by decide +kernel
theorem dX5_isTour_6 : decode cX5_isTour 6 = .ok (.iconst 1, 1) := by decide +kernel
theorem dX5_isTour_7 : decode cX5_isTour 7 = .ok (.isub, 1) := by decide +kernel
theorem dX5_isTour_8 : decode cX5_isTour 8 = .ok (.invokestatic 44, 3) := by decide +kernel
theorem dX5_isTour_11 : decode cX5_isTour 11 = .ok (.ireturn, 1) := by decide +kernel
set_option maxRecDepth 20000 in
theorem ggX5_valley_X5_isIn : GoodIn wsX5_valley wsX5_isIn := goodIn_r _ [9] (by decide +kernel) (by decide +kernel)
set_option maxRecDepth 20000 in
theorem gX5_valley_X5_isIn : GoodIn wsX5_valley (va_wsS RX5 44 yX5_isIn wsX5_isIn) := goodIn_app (goodIn_of _ (by decide +kernel)) ggX5_valley_X5_isIn
set_option maxRecDepth 20000 in
theorem ggX5_valley_X5_no : GoodIn wsX5_valley wsX5_no := goodIn_r _ [13, 1, 14, 15, 16, 17, 18, 19, 20, 21, 22, 23, 24, 25, 26] (by decide +kernel) (by decide +kernel)
set_option maxRecDepth 20000 in
theorem gX5_valley_X5_no : GoodIn wsX5_valley (wsV RX5 51 RX5 yX5_no wsX5_no) := goodIn_app (goodIn_of _ (by decide +kernel)) ggX5_valley_X5_no
theorem dX5_valley_0 : decode cX5_valley 0 = .ok (.aload_n 0, 1) := by decide +kernel
theorem dX5_valley_1 : decode cX5_valley 1 = .ok (.iconst 0, 1) := by decide +kernel
theorem dX5_valley_2 : decode cX5_valley 2 = .ok (.putfield 37, 3) := by decide +kernel
theorem dX5_valley_5 : decode cX5_valley 5 = .ok (.iload_n 1, 1) := by decide +kernel
theorem dX5_valley_6 : decode cX5_valley 6 = .ok (.iconst 0, 1) := by decide +kernel
theorem dX5_valley_7 : decode cX5_valley 7 = .ok (.bipush 90, 2) := by decide +kernel
theorem dX5_valley_9 : decode cX5_valley 9 = .ok (.invokestatic 44, 3) := by decide +kernel
theorem dX5_valley_12 : decode cX5_valley 12 = .ok (.ifCond .eq 23, 3) := by decide +kernel
theorem dX5_valley_15 : decode cX5_valley 15 = .ok (.iload_n 2, 1) := by decide +kernel
theorem dX5_valley_16 : decode cX5_valley 16 = .ok (.iconst 1, 1) := by decide +kernel
theorem dX5_valley_17 : decode cX5_valley 17 = .ok (.bipush 30, 2) := by decide +kernel
theorem dX5_valley_19 : decode cX5_valley 19 = .ok (.invokestatic 44, 3) := by decide +kernel
theorem dX5_valley_22 : decode cX5_valley 22 = .ok (.ifCond .eq 13, 3) := by decide +kernel
theorem dX5_valley_25 : decode cX5_valley 25 = .ok (.iload_n 3, 1) := by decide +kernel
theorem dX5_valley_26 : decode cX5_valley 26 = .ok (.iconst 0, 1) := by decide +kernel
theorem dX5_valley_27 : decode cX5_valley 27 = .ok (.bipush 50, 2) := by decide +kernel
theorem dX5_valley_29 : decode cX5_valley 29 = .ok (.invokestatic 44, 3) := by decide +kernel
theorem dX5_valley_32 : decode cX5_valley 32 = .ok (.ifCond .ne 9, 3) := by decide +kernel
theorem dX5_valley_35 : decode cX5_valley 35 = .ok (.aload_n 0, 1) := by decide +kernel
theorem dX5_valley_36 : decode cX5_valley 36 = .ok (.iconst 1, 1) := by decide +kernel
theorem dX5_valley_37 : decode cX5_valley 37 = .ok (.invokevirtual 51, 3) := by decide +kernel
theorem dX5_valley_40 : decode cX5_valley 40 = .ok (.ireturn, 1) := by decide +kernel
theorem dX5_valley_41 : decode cX5_valley 41 = .ok (.aload_n 0, 1) := by decide +kernel
theorem dX5_valley_42 : decode cX5_valley 42 = .ok (.getfield 41, 3) := by decide +kernel
theorem dX5_valley_45 : decode cX5_valley 45 = .ok (.bipush 8, 2) := by decide +kernel
theorem dX5_valley_47 : decode cX5_valley 47 = .ok (.if_icmp .ne 9, 3) := by decide +kernel
theorem dX5_valley_50 : decode cX5_valley 50 = .ok (.aload_n 0, 1) := by decide +kernel
theorem dX5_valley_51 : decode cX5_valley 51 = .ok (.iconst 2, 1) := by decide +kernel
theorem dX5_valley_52 : decode cX5_valley 52 = .ok (.invokevirtual 51, 3) := by decide +kernel
theorem dX5_valley_55 : decode cX5_valley 55 = .ok (.ireturn, 1) := by decide +kernel
theorem dX5_valley_56 : decode cX5_valley 56 = .ok (.aload_n 0, 1) := by decide +kernel
theorem dX5_valley_57 : decode cX5_valley 57 = .ok (.getfield 9, 3) := by decide +kernel
theorem dX5_valley_60 : decode cX5_valley 60 = .ok (.aload_n 0, 1) := by decide +kernel
theorem dX5_valley_61 : decode cX5_valley 61 = .ok (.getfield 41, 3) := by decide +kernel
theorem dX5_valley_64 : decode cX5_valley 64 = .ok (.iload_n 1, 1) := by decide +kernel
theorem dX5_valley_65 : decode cX5_valley 65 = .ok (.iastore, 1) := by decide +kernel
theorem dX5_valley_66 : decode cX5_valley 66 = .ok (.aload_n 0, 1) := by decide +kernel
theorem dX5_valley_67 : decode cX5_valley 67 = .ok (.getfield 13, 3) := by decide +kernel
theorem dX5_valley_70 : decode cX5_valley 70 = .ok (.aload_n 0, 1) := by decide +kernel
theorem dX5_valley_71 : decode cX5_valley 71 = .ok (.getfield 41, 3) := by decide +kernel
theorem dX5_valley_74 : decode cX5_valley 74 = .ok (.iload_n 2, 1) := by decide +kernel
theorem dX5_valley_75 : decode cX5_valley 75 = .ok (.iastore, 1) := by decide +kernel
theorem dX5_valley_76 : decode cX5_valley 76 = .ok (.aload_n 0, 1) := by decide +kernel
theorem dX5_valley_77 : decode cX5_valley 77 = .ok (.getfield 16, 3) := by decide +kernel
theorem dX5_valley_80 : decode cX5_valley 80 = .ok (.aload_n 0, 1) := by decide +kernel
theorem dX5_valley_81 : decode cX5_valley 81 = .ok (.getfield 41, 3) := by decide +kernel
theorem dX5_valley_84 : decode cX5_valley 84 = .ok (.iload_n 3, 1) := by decide +kernel
theorem dX5_valley_85 : decode cX5_valley 85 = .ok (.iastore, 1) := by decide +kernel
theorem dX5_valley_86 : decode cX5_valley 86 = .ok (.aload_n 0, 1) := by decide +kernel
theorem dX5_valley_87 : decode cX5_valley 87 = .ok (.dup, 1) := by decide +kernel
theorem dX5_valley_88 : decode cX5_valley 88 = .ok (.getfield 41, 3) := by decide +kernel
theorem dX5_valley_91 : decode cX5_valley 91 = .ok (.iconst 1, 1) := by decide +kernel
theorem dX5_valley_92 : decode cX5_valley 92 = .ok (.iadd, 1) := by decide +kernel
theorem dX5_valley_93 : decode cX5_valley 93 = .ok (.putfield 41, 3) := by decide +kernel
theorem dX5_valley_96 : decode cX5_valley 96 = .ok (.aload_n 0, 1) := by decide +kernel
theorem dX5_valley_97 : decode cX5_valley 97 = .ok (.getfield 41, 3) := by decide +kernel
theorem dX5_valley_100 : decode cX5_valley 100 = .ok (.iconst 1, 1) := by decide +kernel
theorem dX5_valley_101 : decode cX5_valley 101 = .ok (.isub, 1) := by decide +kernel
theorem dX5_valley_102 : decode cX5_valley 102 = .ok (.ireturn, 1) := by decide +kernel
theorem dX5_shorten_0 : decode cX5_shorten 0 = .ok (.iconst 0, 1) := by decide +kernel
theorem dX5_shorten_1 : decode cX5_shorten 1 = .ok (.istore 4, 2) := by decide +kernel
theorem dX5_shorten_3 : decode cX5_shorten 3 = .ok (.iload 4, 2) := by decide +kernel
theorem dX5_shorten_5 : decode cX5_shorten 5 = .ok (.bipush 8, 2) := by decide +kernel
theorem dX5_shorten_7 : decode cX5_shorten 7 = .ok (.if_icmp .ge 121, 3) := by decide +kernel
theorem dX5_shorten_10 : decode cX5_shorten 10 = .ok (.iconst 0, 1) := by decide +kernel
theorem dX5_shorten_11 : decode cX5_shorten 11 = .ok (.istore 5, 2) := by decide +kernel
theorem dX5_shorten_13 : decode cX5_shorten 13 = .ok (.iload 5, 2) := by decide +kernel
theorem dX5_shorten_15 : decode cX5_shorten 15 = .ok (.bipush 8, 2) := by decide +kernel
theorem dX5_shorten_17 : decode cX5_shorten 17 = .ok (.if_icmp .ge 105, 3) := by decide +kernel
theorem dX5_shorten_20 : decode cX5_shorten 20 = .ok (.aload_n 0, 1) := by decide +kernel
theorem dX5_shorten_21 : decode cX5_shorten 21 = .ok (.getfield 19, 3) := by decide +kernel
theorem dX5_shorten_24 : decode cX5_shorten 24 = .ok (.bipush 8, 2) := by decide +kernel
theorem dX5_shorten_26 : decode cX5_shorten 26 = .ok (.iload 4, 2) := by decide +kernel
theorem dX5_shorten_28 : decode cX5_shorten 28 = .ok (.imul, 1) := by decide +kernel
theorem dX5_shorten_29 : decode cX5_shorten 29 = .ok (.iload_n 1, 1) := by decide +kernel
theorem dX5_shorten_30 : decode cX5_shorten 30 = .ok (.iadd, 1) := by decide +kernel
theorem dX5_shorten_31 : decode cX5_shorten 31 = .ok (.iaload, 1) := by decide +kernel
theorem dX5_shorten_32 : decode cX5_shorten 32 = .ok (.istore 6, 2) := by decide +kernel
theorem dX5_shorten_34 : decode cX5_shorten 34 = .ok (.aload_n 0, 1) := by decide +kernel
theorem dX5_shorten_35 : decode cX5_shorten 35 = .ok (.getfield 19, 3) := by decide +kernel
theorem dX5_shorten_38 : decode cX5_shorten 38 = .ok (.bipush 8, 2) := by decide +kernel
theorem dX5_shorten_40 : decode cX5_shorten 40 = .ok (.iload_n 2, 1) := by decide +kernel
theorem dX5_shorten_41 : decode cX5_shorten 41 = .ok (.imul, 1) := by decide +kernel
theorem dX5_shorten_42 : decode cX5_shorten 42 = .ok (.iload 5, 2) := by decide +kernel
theorem dX5_shorten_44 : decode cX5_shorten 44 = .ok (.iadd, 1) := by decide +kernel
theorem dX5_shorten_45 : decode cX5_shorten 45 = .ok (.iaload, 1) := by decide +kernel
theorem dX5_shorten_46 : decode cX5_shorten 46 = .ok (.istore 7, 2) := by decide +kernel
theorem dX5_shorten_48 : decode cX5_shorten 48 = .ok (.iload 6, 2) := by decide +kernel
theorem dX5_shorten_50 : decode cX5_shorten 50 = .ok (.iconst (-1), 1) := by decide +kernel
theorem dX5_shorten_51 : decode cX5_shorten 51 = .ok (.if_icmp .eq 65, 3) := by decide +kernel
theorem dX5_shorten_54 : decode cX5_shorten 54 = .ok (.iload 7, 2) := by decide +kernel
theorem dX5_shorten_56 : decode cX5_shorten 56 = .ok (.iconst (-1), 1) := by decide +kernel
theorem dX5_shorten_57 : decode cX5_shorten 57 = .ok (.if_icmp .ne 6, 3) := by decide +kernel
theorem dX5_shorten_60 : decode cX5_shorten 60 = .ok (.goto 56, 3) := by decide +kernel
theorem dX5_shorten_63 : decode cX5_shorten 63 = .ok (.aload_n 0, 1) := by decide +kernel
theorem dX5_shorten_64 : decode cX5_shorten 64 = .ok (.getfield 19, 3) := by decide +kernel
theorem dX5_shorten_67 : decode cX5_shorten 67 = .ok (.bipush 8, 2) := by decide +kernel
theorem dX5_shorten_69 : decode cX5_shorten 69 = .ok (.iload 4, 2) := by decide +kernel
theorem dX5_shorten_71 : decode cX5_shorten 71 = .ok (.imul, 1) := by decide +kernel
theorem dX5_shorten_72 : decode cX5_shorten 72 = .ok (.iload 5, 2) := by decide +kernel
theorem dX5_shorten_74 : decode cX5_shorten 74 = .ok (.iadd, 1) := by decide +kernel
theorem dX5_shorten_75 : decode cX5_shorten 75 = .ok (.iaload, 1) := by decide +kernel
theorem dX5_shorten_76 : decode cX5_shorten 76 = .ok (.istore 8, 2) := by decide +kernel
theorem dX5_shorten_78 : decode cX5_shorten 78 = .ok (.iload 8, 2) := by decide +kernel
theorem dX5_shorten_80 : decode cX5_shorten 80 = .ok (.iconst (-1), 1) := by decide +kernel
theorem dX5_shorten_81 : decode cX5_shorten 81 = .ok (.if_icmp .eq 15, 3) := by decide +kernel
theorem dX5_shorten_84 : decode cX5_shorten 84 = .ok (.iload 6, 2) := by decide +kernel
theorem dX5_shorten_86 : decode cX5_shorten 86 = .ok (.iload_n 3, 1) := by decide +kernel
theorem dX5_shorten_87 : decode cX5_shorten 87 = .ok (.iadd, 1) := by decide +kernel
theorem dX5_shorten_88 : decode cX5_shorten 88 = .ok (.iload 7, 2) := by decide +kernel
theorem dX5_shorten_90 : decode cX5_shorten 90 = .ok (.iadd, 1) := by decide +kernel
theorem dX5_shorten_91 : decode cX5_shorten 91 = .ok (.iload 8, 2) := by decide +kernel
theorem dX5_shorten_93 : decode cX5_shorten 93 = .ok (.if_icmp .ge 23, 3) := by decide +kernel
theorem dX5_shorten_96 : decode cX5_shorten 96 = .ok (.aload_n 0, 1) := by decide +kernel
theorem dX5_shorten_97 : decode cX5_shorten 97 = .ok (.getfield 19, 3) := by decide +kernel
theorem dX5_shorten_100 : decode cX5_shorten 100 = .ok (.bipush 8, 2) := by decide +kernel
theorem dX5_shorten_102 : decode cX5_shorten 102 = .ok (.iload 4, 2) := by decide +kernel
theorem dX5_shorten_104 : decode cX5_shorten 104 = .ok (.imul, 1) := by decide +kernel
theorem dX5_shorten_105 : decode cX5_shorten 105 = .ok (.iload 5, 2) := by decide +kernel
theorem dX5_shorten_107 : decode cX5_shorten 107 = .ok (.iadd, 1) := by decide +kernel
theorem dX5_shorten_108 : decode cX5_shorten 108 = .ok (.iload 6, 2) := by decide +kernel
theorem dX5_shorten_110 : decode cX5_shorten 110 = .ok (.iload_n 3, 1) := by decide +kernel
theorem dX5_shorten_111 : decode cX5_shorten 111 = .ok (.iadd, 1) := by decide +kernel
theorem dX5_shorten_112 : decode cX5_shorten 112 = .ok (.iload 7, 2) := by decide +kernel
theorem dX5_shorten_114 : decode cX5_shorten 114 = .ok (.iadd, 1) := by decide +kernel
theorem dX5_shorten_115 : decode cX5_shorten 115 = .ok (.iastore, 1) := by decide +kernel
theorem dX5_shorten_116 : decode cX5_shorten 116 = .ok (.iinc 5 1, 3) := by decide +kernel
theorem dX5_shorten_119 : decode cX5_shorten 119 = .ok (.goto (-106), 3) := by decide +kernel
theorem dX5_shorten_122 : decode cX5_shorten 122 = .ok (.iinc 4 1, 3) := by decide +kernel
theorem dX5_shorten_125 : decode cX5_shorten 125 = .ok (.goto (-122), 3) := by decide +kernel
theorem dX5_shorten_128 : decode cX5_shorten 128 = .ok (.return_, 1) := by decide +kernel
set_option maxRecDepth 20000 in
theorem ggX5_road_X5_isValley : GoodIn wsX5_road wsX5_isValley := goodIn_r _ [7, 8, 9, 10, 6, 11, 21, 22, 23, 24, 25, 26, 27, 28, 29, 30, 31, 32, 33] (by decide +kernel) (by decide +kernel)
set_option maxRecDepth 20000 in
theorem gX5_road_X5_isValley : GoodIn wsX5_road (wsV RX5 55 RX5 yX5_isValley wsX5_isValley) := goodIn_app (goodIn_of _ (by decide +kernel)) ggX5_road_X5_isValley
set_option maxRecDepth 20000 in
theorem ggX5_road_X5_no : GoodIn wsX5_road wsX5_no := goodIn_r _ [15, 1, 21, 22, 23, 24, 25, 26, 27, 28, 29, 30, 31, 32, 33] (by decide +kernel) (by decide +kernel)
set_option maxRecDepth 20000 in
theorem gX5_road_X5_no : GoodIn wsX5_road (wsV RX5 51 RX5 yX5_no wsX5_no) := goodIn_app (goodIn_of _ (by decide +kernel)) ggX5_road_X5_no
set_option maxRecDepth 20000 in
theorem ggX5_road_X5_isIn : GoodIn wsX5_road wsX5_isIn := goodIn_r _ [11] (by decide +kernel) (by decide +kernel)
set_option maxRecDepth 20000 in
theorem gX5_road_X5_isIn : GoodIn wsX5_road (va_wsS RX5 44 yX5_isIn wsX5_isIn) := goodIn_app (goodIn_of _ (by decide +kernel)) ggX5_road_X5_isIn
set_option maxRecDepth 20000 in
theorem ggX5_road_X5_shorten : GoodIn wsX5_road wsX5_shorten := goodIn_r _ [19, 20, 21, 22, 23, 24, 25, 26, 27, 28, 29, 30, 31, 32, 33] (by decide +kernel) (by decide +kernel)
set_option maxRecDepth 20000 in
theorem gX5_road_X5_shorten : GoodIn wsX5_road (wsV RX5 62 RX5 yX5_shorten wsX5_shorten) := goodIn_app (goodIn_of _ (by decide +kernel)) ggX5_road_X5_shorten
theorem dX5_road_0 : decode cX5_road 0 = .ok (.aload_n 0, 1) := by decide +kernel
theorem dX5_road_1 : decode cX5_road 1 = .ok (.iconst 0, 1) := by decide +kernel
theorem dX5_road_2 : decode cX5_road 2 = .ok (.putfield 37, 3) := by decide +kernel
theorem dX5_road_5 : decode cX5_road 5 = .ok (.aload_n 0, 1) := by decide +kernel
theorem dX5_road_6 : decode cX5_road 6 = .ok (.iload_n 1, 1) := by decide +kernel
theorem dX5_road_7 : decode cX5_road 7 = .ok (.invokevirtual 55, 3) := by decide +kernel
theorem dX5_road_10 : decode cX5_road 10 = .ok (.ifCond .eq 11, 3) := by decide +kernel
theorem dX5_road_13 : decode cX5_road 13 = .ok (.aload_n 0, 1) := by decide +kernel
theorem dX5_road_14 : decode cX5_road 14 = .ok (.iload_n 2, 1) := by decide +kernel
theorem dX5_road_15 : decode cX5_road 15 = .ok (.invokevirtual 55, 3) := by decide +kernel
theorem dX5_road_18 : decode cX5_road 18 = .ok (.ifCond .ne 9, 3) := by decide +kernel
theorem dX5_road_21 : decode cX5_road 21 = .ok (.aload_n 0, 1) := by decide +kernel
theorem dX5_road_22 : decode cX5_road 22 = .ok (.iconst 1, 1) := by decide +kernel
theorem dX5_road_23 : decode cX5_road 23 = .ok (.invokevirtual 51, 3) := by decide +kernel
theorem dX5_road_26 : decode cX5_road 26 = .ok (.ireturn, 1) := by decide +kernel
theorem dX5_road_27 : decode cX5_road 27 = .ok (.iload_n 1, 1) := by decide +kernel
theorem dX5_road_28 : decode cX5_road 28 = .ok (.iload_n 2, 1) := by decide +kernel
theorem dX5_road_29 : decode cX5_road 29 = .ok (.if_icmp .eq 14, 3) := by decide +kernel
theorem dX5_road_32 : decode cX5_road 32 = .ok (.iload_n 3, 1) := by decide +kernel
theorem dX5_road_33 : decode cX5_road 33 = .ok (.iconst 1, 1) := by decide +kernel
theorem dX5_road_34 : decode cX5_road 34 = .ok (.sipush 240, 3) := by decide +kernel
theorem dX5_road_37 : decode cX5_road 37 = .ok (.invokestatic 44, 3) := by decide +kernel
theorem dX5_road_40 : decode cX5_road 40 = .ok (.ifCond .ne 9, 3) := by decide +kernel
theorem dX5_road_43 : decode cX5_road 43 = .ok (.aload_n 0, 1) := by decide +kernel
theorem dX5_road_44 : decode cX5_road 44 = .ok (.iconst 2, 1) := by decide +kernel
theorem dX5_road_45 : decode cX5_road 45 = .ok (.invokevirtual 51, 3) := by decide +kernel
theorem dX5_road_48 : decode cX5_road 48 = .ok (.ireturn, 1) := by decide +kernel
theorem dX5_road_49 : decode cX5_road 49 = .ok (.aload_n 0, 1) := by decide +kernel
theorem dX5_road_50 : decode cX5_road 50 = .ok (.getfield 59, 3) := by decide +kernel
theorem dX5_road_53 : decode cX5_road 53 = .ok (.bipush 20, 2) := by decide +kernel
theorem dX5_road_55 : decode cX5_road 55 = .ok (.if_icmp .ne 9, 3) := by decide +kernel
theorem dX5_road_58 : decode cX5_road 58 = .ok (.aload_n 0, 1) := by decide +kernel
theorem dX5_road_59 : decode cX5_road 59 = .ok (.iconst 3, 1) := by decide +kernel
theorem dX5_road_60 : decode cX5_road 60 = .ok (.invokevirtual 51, 3) := by decide +kernel
theorem dX5_road_63 : decode cX5_road 63 = .ok (.ireturn, 1) := by decide +kernel
theorem dX5_road_64 : decode cX5_road 64 = .ok (.aload_n 0, 1) := by decide +kernel
theorem dX5_road_65 : decode cX5_road 65 = .ok (.dup, 1) := by decide +kernel
theorem dX5_road_66 : decode cX5_road 66 = .ok (.getfield 59, 3) := by decide +kernel
theorem dX5_road_69 : decode cX5_road 69 = .ok (.iconst 1, 1) := by decide +kernel
theorem dX5_road_70 : decode cX5_road 70 = .ok (.iadd, 1) := by decide +kernel
theorem dX5_road_71 : decode cX5_road 71 = .ok (.putfield 59, 3) := by decide +kernel
theorem dX5_road_74 : decode cX5_road 74 = .ok (.aload_n 0, 1) := by decide +kernel
theorem dX5_road_75 : decode cX5_road 75 = .ok (.iload_n 1, 1) := by decide +kernel
theorem dX5_road_76 : decode cX5_road 76 = .ok (.iload_n 2, 1) := by decide +kernel
theorem dX5_road_77 : decode cX5_road 77 = .ok (.iload_n 3, 1) := by decide +kernel
theorem dX5_road_78 : decode cX5_road 78 = .ok (.invokevirtual 62, 3) := by decide +kernel
theorem dX5_road_81 : decode cX5_road 81 = .ok (.aload_n 0, 1) := by decide +kernel
theorem dX5_road_82 : decode cX5_road 82 = .ok (.iload_n 2, 1) := by decide +kernel
theorem dX5_road_83 : decode cX5_road 83 = .ok (.iload_n 1, 1) := by decide +kernel
theorem dX5_road_84 : decode cX5_road 84 = .ok (.iload_n 3, 1) := by decide +kernel
theorem dX5_road_85 : decode cX5_road 85 = .ok (.invokevirtual 62, 3) := by decide +kernel
theorem dX5_road_88 : decode cX5_road 88 = .ok (.aload_n 0, 1) := by decide +kernel
theorem dX5_road_89 : decode cX5_road 89 = .ok (.getfield 59, 3) := by decide +kernel
theorem dX5_road_92 : decode cX5_road 92 = .ok (.ireturn, 1) := by decide +kernel
set_option maxRecDepth 20000 in
theorem ggX5_setHeat_X5_isIn : GoodIn wsX5_setHeat wsX5_isIn := goodIn_r _ [6] (by decide +kernel) (by decide +kernel)
set_option maxRecDepth 20000 in
theorem gX5_setHeat_X5_isIn : GoodIn wsX5_setHeat (va_wsS RX5 44 yX5_isIn wsX5_isIn) := goodIn_app (goodIn_of _ (by decide +kernel)) ggX5_setHeat_X5_isIn
set_option maxRecDepth 20000 in
theorem ggX5_setHeat_X5_no : GoodIn wsX5_setHeat wsX5_no := goodIn_r _ [10, 1, 11, 12, 13, 14, 15, 16, 17, 18, 19, 20, 21, 22, 23] (by decide +kernel) (by decide +kernel)
set_option maxRecDepth 20000 in
theorem gX5_setHeat_X5_no : GoodIn wsX5_setHeat (wsV RX5 51 RX5 yX5_no wsX5_no) := goodIn_app (goodIn_of _ (by decide +kernel)) ggX5_setHeat_X5_no
theorem dX5_setHeat_0 : decode cX5_setHeat 0 = .ok (.aload_n 0, 1) := by decide +kernel
theorem dX5_setHeat_1 : decode cX5_setHeat 1 = .ok (.iconst 0, 1) := by decide +kernel
theorem dX5_setHeat_2 : decode cX5_setHeat 2 = .ok (.putfield 37, 3) := by decide +kernel
theorem dX5_setHeat_5 : decode cX5_setHeat 5 = .ok (.iload_n 1, 1) := by decide +kernel
theorem dX5_setHeat_6 : decode cX5_setHeat 6 = .ok (.iconst 0, 1) := by decide +kernel
theorem dX5_setHeat_7 : decode cX5_setHeat 7 = .ok (.bipush 9, 2) := by decide +kernel
theorem dX5_setHeat_9 : decode cX5_setHeat 9 = .ok (.invokestatic 44, 3) := by decide +kernel
theorem dX5_setHeat_12 : decode cX5_setHeat 12 = .ok (.ifCond .ne 9, 3) := by decide +kernel
theorem dX5_setHeat_15 : decode cX5_setHeat 15 = .ok (.aload_n 0, 1) := by decide +kernel
theorem dX5_setHeat_16 : decode cX5_setHeat 16 = .ok (.iconst 1, 1) := by decide +kernel
theorem dX5_setHeat_17 : decode cX5_setHeat 17 = .ok (.invokevirtual 51, 3) := by decide +kernel
theorem dX5_setHeat_20 : decode cX5_setHeat 20 = .ok (.ireturn, 1) := by decide +kernel
theorem dX5_setHeat_21 : decode cX5_setHeat 21 = .ok (.iload_n 2, 1) := by decide +kernel
theorem dX5_setHeat_22 : decode cX5_setHeat 22 = .ok (.iconst 0, 1) := by decide +kernel
theorem dX5_setHeat_23 : decode cX5_setHeat 23 = .ok (.bipush 40, 2) := by decide +kernel
theorem dX5_setHeat_25 : decode cX5_setHeat 25 = .ok (.invokestatic 44, 3) := by decide +kernel
theorem dX5_setHeat_28 : decode cX5_setHeat 28 = .ok (.ifCond .ne 9, 3) := by decide +kernel
theorem dX5_setHeat_31 : decode cX5_setHeat 31 = .ok (.aload_n 0, 1) := by decide +kernel
theorem dX5_setHeat_32 : decode cX5_setHeat 32 = .ok (.iconst 2, 1) := by decide +kernel
theorem dX5_setHeat_33 : decode cX5_setHeat 33 = .ok (.invokevirtual 51, 3) := by decide +kernel
theorem dX5_setHeat_36 : decode cX5_setHeat 36 = .ok (.ireturn, 1) := by decide +kernel
theorem dX5_setHeat_37 : decode cX5_setHeat 37 = .ok (.aload_n 0, 1) := by decide +kernel
theorem dX5_setHeat_38 : decode cX5_setHeat 38 = .ok (.getfield 22, 3) := by decide +kernel
theorem dX5_setHeat_41 : decode cX5_setHeat 41 = .ok (.iload_n 1, 1) := by decide +kernel
