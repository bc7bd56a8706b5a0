theorem dX5_best_69 : decode cX5_best 69 = .ok (.iinc 4 1, 3) := by decide +kernel
theorem dX5_best_72 : decode cX5_best 72 = .ok (.goto (-41), 3) := by decide +kernel
theorem dX5_best_75 : decode cX5_best 75 = .ok (.iload_n 2, 1) := by decide +kernel
theorem dX5_best_76 : decode cX5_best 76 = .ok (.ireturn, 1) := by decide +kernel
set_option maxRecDepth 20000 in
theorem ggX5_advise_X5_isTour : GoodIn wsX5_advise wsX5_isTour := goodIn_r _ [10, 11, 12, 13, 9, 14, 58, 59, 60, 61, 62, 63, 64, 65, 66, 67, 68, 69, 70] (by decide +kernel) (by decide +kernel)
set_option maxRecDepth 20000 in
theorem gX5_advise_X5_isTour : GoodIn wsX5_advise (wsV RX5 94 RX5 yX5_isTour wsX5_isTour) := goodIn_app (goodIn_of _ (by decide +kernel)) ggX5_advise_X5_isTour
set_option maxRecDepth 20000 in
theorem ggX5_advise_X5_no : GoodIn wsX5_advise wsX5_no := goodIn_r _ [18, 1, 58, 59, 60, 61, 62, 63, 64, 65, 66, 67, 68, 69, 70] (by decide +kernel) (by decide +kernel)
set_option maxRecDepth 20000 in
theorem gX5_advise_X5_no : GoodIn wsX5_advise (wsV RX5 51 RX5 yX5_no wsX5_no) := goodIn_app (goodIn_of _ (by decide +kernel)) ggX5_advise_X5_no
set_option maxRecDepth 20000 in
theorem ggX5_advise_X5_joyOf : GoodIn wsX5_advise wsX5_joyOf := goodIn_r _ [22, 2, 23, 24, 25, 26, 27, 28, 29, 9, 30, 31, 32, 33, 34, 35, 36, 37, 38, 39, 5, 12, 13, 14, 40, 41, 42, 43, 44, 45, 46, 47, 48, 49, 50, 51, 52, 11, 53, 54, 55, 56, 57, 58, 59, 60, 61, 62, 63, 64, 65, 66, 67, 68, 69, 70] (by decide +kernel) (by decide +kernel)
set_option maxRecDepth 20000 in
theorem gX5_advise_X5_joyOf : GoodIn wsX5_advise (wsV RX5 97 RX5 yX5_joyOf wsX5_joyOf) := goodIn_app (goodIn_of _ (by decide +kernel)) ggX5_advise_X5_joyOf
set_option maxRecDepth 20000 in
theorem ggX5_advise_X5_has : GoodIn wsX5_advise wsX5_has := goodIn_r _ [57, 2, 36, 37, 38, 9, 39, 5, 58, 59, 60, 61, 62, 63, 64, 65, 66, 67, 68, 69, 70] (by decide +kernel) (by decide +kernel)
set_option maxRecDepth 20000 in
theorem gX5_advise_X5_has : GoodIn wsX5_advise (wsV RX5 81 RX5 yX5_has wsX5_has) := goodIn_app (goodIn_of _ (by decide +kernel)) ggX5_advise_X5_has
theorem dX5_advise_0 : decode cX5_advise 0 = .ok (.aload_n 0, 1) := by decide +kernel
theorem dX5_advise_1 : decode cX5_advise 1 = .ok (.iconst 0, 1) := by decide +kernel
theorem dX5_advise_2 : decode cX5_advise 2 = .ok (.putfield 37, 3) := by decide +kernel
theorem dX5_advise_5 : decode cX5_advise 5 = .ok (.aload_n 0, 1) := by decide +kernel
theorem dX5_advise_6 : decode cX5_advise 6 = .ok (.iload_n 1, 1) := by decide +kernel
theorem dX5_advise_7 : decode cX5_advise 7 = .ok (.invokevirtual 94, 3) := by decide +kernel
theorem dX5_advise_10 : decode cX5_advise 10 = .ok (.ifCond .ne 9, 3) := by decide +kernel
theorem dX5_advise_13 : decode cX5_advise 13 = .ok (.aload_n 0, 1) := by decide +kernel
theorem dX5_advise_14 : decode cX5_advise 14 = .ok (.iconst 1, 1) := by decide +kernel
theorem dX5_advise_15 : decode cX5_advise 15 = .ok (.invokevirtual 51, 3) := by decide +kernel
theorem dX5_advise_18 : decode cX5_advise 18 = .ok (.ireturn, 1) := by decide +kernel
theorem dX5_advise_19 : decode cX5_advise 19 = .ok (.aload_n 0, 1) := by decide +kernel
theorem dX5_advise_20 : decode cX5_advise 20 = .ok (.getfield 28, 3) := by decide +kernel
theorem dX5_advise_23 : decode cX5_advise 23 = .ok (.iload_n 1, 1) := by decide +kernel
theorem dX5_advise_24 : decode cX5_advise 24 = .ok (.iaload, 1) := by decide +kernel
theorem dX5_advise_25 : decode cX5_advise 25 = .ok (.iconst 5, 1) := by decide +kernel
theorem dX5_advise_26 : decode cX5_advise 26 = .ok (.if_icmp .ne 5, 3) := by decide +kernel
theorem dX5_advise_29 : decode cX5_advise 29 = .ok (.iconst (-1), 1) := by decide +kernel
theorem dX5_advise_30 : decode cX5_advise 30 = .ok (.ireturn, 1) := by decide +kernel
theorem dX5_advise_31 : decode cX5_advise 31 = .ok (.iconst (-1), 1) := by decide +kernel
theorem dX5_advise_32 : decode cX5_advise 32 = .ok (.istore_n 2, 1) := by decide +kernel
theorem dX5_advise_33 : decode cX5_advise 33 = .ok (.aload_n 0, 1) := by decide +kernel
theorem dX5_advise_34 : decode cX5_advise 34 = .ok (.iload_n 1, 1) := by decide +kernel
theorem dX5_advise_35 : decode cX5_advise 35 = .ok (.aload_n 0, 1) := by decide +kernel
theorem dX5_advise_36 : decode cX5_advise 36 = .ok (.getfield 34, 3) := by decide +kernel
theorem dX5_advise_39 : decode cX5_advise 39 = .ok (.iconst 0, 1) := by decide +kernel
theorem dX5_advise_40 : decode cX5_advise 40 = .ok (.iaload, 1) := by decide +kernel
theorem dX5_advise_41 : decode cX5_advise 41 = .ok (.invokevirtual 97, 3) := by decide +kernel
theorem dX5_advise_44 : decode cX5_advise 44 = .ok (.istore_n 3, 1) := by decide +kernel
theorem dX5_advise_45 : decode cX5_advise 45 = .ok (.iconst 0, 1) := by decide +kernel
theorem dX5_advise_46 : decode cX5_advise 46 = .ok (.istore 4, 2) := by decide +kernel
theorem dX5_advise_48 : decode cX5_advise 48 = .ok (.iload 4, 2) := by decide +kernel
theorem dX5_advise_50 : decode cX5_advise 50 = .ok (.aload_n 0, 1) := by decide +kernel
theorem dX5_advise_51 : decode cX5_advise 51 = .ok (.getfield 41, 3) := by decide +kernel
theorem dX5_advise_54 : decode cX5_advise 54 = .ok (.if_icmp .ge 87, 3) := by decide +kernel
theorem dX5_advise_57 : decode cX5_advise 57 = .ok (.aload_n 0, 1) := by decide +kernel
theorem dX5_advise_58 : decode cX5_advise 58 = .ok (.iload_n 1, 1) := by decide +kernel
theorem dX5_advise_59 : decode cX5_advise 59 = .ok (.iload 4, 2) := by decide +kernel
theorem dX5_advise_61 : decode cX5_advise 61 = .ok (.invokevirtual 81, 3) := by decide +kernel
theorem dX5_advise_64 : decode cX5_advise 64 = .ok (.ifCond .eq 6, 3) := by decide +kernel
theorem dX5_advise_67 : decode cX5_advise 67 = .ok (.goto 68, 3) := by decide +kernel
theorem dX5_advise_70 : decode cX5_advise 70 = .ok (.aload_n 0, 1) := by decide +kernel
theorem dX5_advise_71 : decode cX5_advise 71 = .ok (.getfield 31, 3) := by decide +kernel
theorem dX5_advise_74 : decode cX5_advise 74 = .ok (.iconst 5, 1) := by decide +kernel
theorem dX5_advise_75 : decode cX5_advise 75 = .ok (.iload_n 1, 1) := by decide +kernel
theorem dX5_advise_76 : decode cX5_advise 76 = .ok (.imul, 1) := by decide +kernel
theorem dX5_advise_77 : decode cX5_advise 77 = .ok (.aload_n 0, 1) := by decide +kernel
theorem dX5_advise_78 : decode cX5_advise 78 = .ok (.getfield 28, 3) := by decide +kernel
theorem dX5_advise_81 : decode cX5_advise 81 = .ok (.iload_n 1, 1) := by decide +kernel
theorem dX5_advise_82 : decode cX5_advise 82 = .ok (.iaload, 1) := by decide +kernel
theorem dX5_advise_83 : decode cX5_advise 83 = .ok (.iadd, 1) := by decide +kernel
theorem dX5_advise_84 : decode cX5_advise 84 = .ok (.iload 4, 2) := by decide +kernel
theorem dX5_advise_86 : decode cX5_advise 86 = .ok (.iastore, 1) := by decide +kernel
theorem dX5_advise_87 : decode cX5_advise 87 = .ok (.aload_n 0, 1) := by decide +kernel
theorem dX5_advise_88 : decode cX5_advise 88 = .ok (.getfield 28, 3) := by decide +kernel
theorem dX5_advise_91 : decode cX5_advise 91 = .ok (.iload_n 1, 1) := by decide +kernel
theorem dX5_advise_92 : decode cX5_advise 92 = .ok (.dup2, 1) := by decide +kernel
theorem dX5_advise_93 : decode cX5_advise 93 = .ok (.iaload, 1) := by decide +kernel
theorem dX5_advise_94 : decode cX5_advise 94 = .ok (.iconst 1, 1) := by decide +kernel
theorem dX5_advise_95 : decode cX5_advise 95 = .ok (.iadd, 1) := by decide +kernel
theorem dX5_advise_96 : decode cX5_advise 96 = .ok (.iastore, 1) := by decide +kernel
theorem dX5_advise_97 : decode cX5_advise 97 = .ok (.aload_n 0, 1) := by decide +kernel
theorem dX5_advise_98 : decode cX5_advise 98 = .ok (.iload_n 1, 1) := by decide +kernel
theorem dX5_advise_99 : decode cX5_advise 99 = .ok (.aload_n 0, 1) := by decide +kernel
theorem dX5_advise_100 : decode cX5_advise 100 = .ok (.getfield 34, 3) := by decide +kernel
theorem dX5_advise_103 : decode cX5_advise 103 = .ok (.iconst 0, 1) := by decide +kernel
theorem dX5_advise_104 : decode cX5_advise 104 = .ok (.iaload, 1) := by decide +kernel
theorem dX5_advise_105 : decode cX5_advise 105 = .ok (.invokevirtual 97, 3) := by decide +kernel
theorem dX5_advise_108 : decode cX5_advise 108 = .ok (.istore 5, 2) := by decide +kernel
theorem dX5_advise_110 : decode cX5_advise 110 = .ok (.aload_n 0, 1) := by decide +kernel
theorem dX5_advise_111 : decode cX5_advise 111 = .ok (.getfield 28, 3) := by decide +kernel
theorem dX5_advise_114 : decode cX5_advise 114 = .ok (.iload_n 1, 1) := by decide +kernel
theorem dX5_advise_115 : decode cX5_advise 115 = .ok (.dup2, 1) := by decide +kernel
theorem dX5_advise_116 : decode cX5_advise 116 = .ok (.iaload, 1) := by decide +kernel
theorem dX5_advise_117 : decode cX5_advise 117 = .ok (.iconst 1, 1) := by decide +kernel
theorem dX5_advise_118 : decode cX5_advise 118 = .ok (.isub, 1) := by decide +kernel
theorem dX5_advise_119 : decode cX5_advise 119 = .ok (.iastore, 1) := by decide +kernel
theorem dX5_advise_120 : decode cX5_advise 120 = .ok (.iload 5, 2) := by decide +kernel
theorem dX5_advise_122 : decode cX5_advise 122 = .ok (.iload_n 3, 1) := by decide +kernel
theorem dX5_advise_123 : decode cX5_advise 123 = .ok (.if_icmp .gt 6, 3) := by decide +kernel
theorem dX5_advise_126 : decode cX5_advise 126 = .ok (.goto 9, 3) := by decide +kernel
theorem dX5_advise_129 : decode cX5_advise 129 = .ok (.iload 5, 2) := by decide +kernel
theorem dX5_advise_131 : decode cX5_advise 131 = .ok (.istore_n 3, 1) := by decide +kernel
theorem dX5_advise_132 : decode cX5_advise 132 = .ok (.iload 4, 2) := by decide +kernel
theorem dX5_advise_134 : decode cX5_advise 134 = .ok (.istore_n 2, 1) := by decide +kernel
theorem dX5_advise_135 : decode cX5_advise 135 = .ok (.iinc 4 1, 3) := by decide +kernel
theorem dX5_advise_138 : decode cX5_advise 138 = .ok (.goto (-90), 3) := by decide +kernel
theorem dX5_advise_141 : decode cX5_advise 141 = .ok (.iload_n 2, 1) := by decide +kernel
theorem dX5_advise_142 : decode cX5_advise 142 = .ok (.ireturn, 1) := by decide +kernel
set_option maxRecDepth 20000 in
theorem ggX5_foresee_X5_isIn : GoodIn wsX5_foresee wsX5_isIn := goodIn_r _ [12] (by decide +kernel) (by decide +kernel)
set_option maxRecDepth 20000 in
theorem gX5_foresee_X5_isIn : GoodIn wsX5_foresee (va_wsS RX5 44 yX5_isIn wsX5_isIn) := goodIn_app (goodIn_of _ (by decide +kernel)) ggX5_foresee_X5_isIn
set_option maxRecDepth 20000 in
theorem ggX5_foresee_X5_no : GoodIn wsX5_foresee wsX5_no := goodIn_r _ [16, 1, 76, 77, 78, 79, 80, 81, 82, 83, 84, 85, 86, 87, 88] (by decide +kernel) (by decide +kernel)
set_option maxRecDepth 20000 in
theorem gX5_foresee_X5_no : GoodIn wsX5_foresee (wsV RX5 51 RX5 yX5_no wsX5_no) := goodIn_app (goodIn_of _ (by decide +kernel)) ggX5_foresee_X5_no
set_option maxRecDepth 20000 in
theorem ggX5_foresee_X5_pass : GoodIn wsX5_foresee wsX5_pass := goodIn_r _ [20, 21, 22, 23, 24, 25, 26, 11, 27, 28, 29, 30, 31, 32, 33, 34, 35, 36, 37, 38, 9, 10, 12, 39, 40, 41, 42, 43, 44, 45, 46, 47, 48, 49, 50, 51, 52, 53, 54, 55, 56, 57, 58, 59, 60, 61, 62, 63, 64, 65, 66, 67, 68, 76, 77, 78, 79, 80, 81, 82, 83, 84, 85, 86, 87, 88] (by decide +kernel) (by decide +kernel)
set_option maxRecDepth 20000 in
theorem gX5_foresee_X5_pass : GoodIn wsX5_foresee (wsV RX5 113 RX5 yX5_pass wsX5_pass) := goodIn_app (goodIn_of _ (by decide +kernel)) ggX5_foresee_X5_pass
set_option maxRecDepth 20000 in
theorem ggX5_foresee_X5_counted : GoodIn wsX5_foresee wsX5_counted := goodIn_r _ [72, 73, 21, 74, 75, 47, 48, 49, 11, 50, 51, 52, 53, 54, 45, 55, 9, 10, 12, 24, 25, 26, 27, 28, 29, 30, 31, 32, 33, 34, 35, 36, 37, 38, 76, 77, 78, 79, 80, 81, 82, 83, 84, 85, 86, 87, 88] (by decide +kernel) (by decide +kernel)
set_option maxRecDepth 20000 in
theorem gX5_foresee_X5_counted : GoodIn wsX5_foresee (wsV RX5 109 RX5 yX5_counted wsX5_counted) := goodIn_app (goodIn_of _ (by decide +kernel)) ggX5_foresee_X5_counted
theorem dX5_foresee_0 : decode cX5_foresee 0 = .ok (.aload_n 0, 1) := by decide +kernel
theorem dX5_foresee_1 : decode cX5_foresee 1 = .ok (.iconst 0, 1) := by decide +kernel
theorem dX5_foresee_2 : decode cX5_foresee 2 = .ok (.putfield 37, 3) := by decide +kernel
theorem dX5_foresee_5 : decode cX5_foresee 5 = .ok (.iload_n 1, 1) := by decide +kernel
theorem dX5_foresee_6 : decode cX5_foresee 6 = .ok (.iconst 1, 1) := by decide +kernel
theorem dX5_foresee_7 : decode cX5_foresee 7 = .ok (.bipush 60, 2) := by decide +kernel
theorem dX5_foresee_9 : decode cX5_foresee 9 = .ok (.invokestatic 44, 3) := by decide +kernel
theorem dX5_foresee_12 : decode cX5_foresee 12 = .ok (.ifCond .ne 9, 3) := by decide +kernel
theorem dX5_foresee_15 : decode cX5_foresee 15 = .ok (.aload_n 0, 1) := by decide +kernel
theorem dX5_foresee_16 : decode cX5_foresee 16 = .ok (.iconst 1, 1) := by decide +kernel
theorem dX5_foresee_17 : decode cX5_foresee 17 = .ok (.invokevirtual 51, 3) := by decide +kernel
theorem dX5_foresee_20 : decode cX5_foresee 20 = .ok (.ireturn, 1) := by decide +kernel
theorem dX5_foresee_21 : decode cX5_foresee 21 = .ok (.iload_n 2, 1) := by decide +kernel
theorem dX5_foresee_22 : decode cX5_foresee 22 = .ok (.iconst 5, 1) := by decide +kernel
theorem dX5_foresee_23 : decode cX5_foresee 23 = .ok (.bipush 8, 2) := by decide +kernel
theorem dX5_foresee_25 : decode cX5_foresee 25 = .ok (.invokestatic 44, 3) := by decide +kernel
theorem dX5_foresee_28 : decode cX5_foresee 28 = .ok (.ifCond .ne 9, 3) := by decide +kernel
theorem dX5_foresee_31 : decode cX5_foresee 31 = .ok (.aload_n 0, 1) := by decide +kernel
theorem dX5_foresee_32 : decode cX5_foresee 32 = .ok (.iconst 2, 1) := by decide +kernel
theorem dX5_foresee_33 : decode cX5_foresee 33 = .ok (.invokevirtual 51, 3) := by decide +kernel
theorem dX5_foresee_36 : decode cX5_foresee 36 = .ok (.ireturn, 1) := by decide +kernel
theorem dX5_foresee_37 : decode cX5_foresee 37 = .ok (.aload_n 0, 1) := by decide +kernel
theorem dX5_foresee_38 : decode cX5_foresee 38 = .ok (.getfield 34, 3) := by decide +kernel
theorem dX5_foresee_41 : decode cX5_foresee 41 = .ok (.invokevirtual 117, 3) := by decide +kernel
theorem dX5_foresee_44 : decode cX5_foresee 44 = .ok (.checkcast 118, 3) := by decide +kernel
theorem dX5_foresee_47 : decode cX5_foresee 47 = .ok (.astore_n 3, 1) := by decide +kernel
theorem dX5_foresee_48 : decode cX5_foresee 48 = .ok (.iconst 0, 1) := by decide +kernel
theorem dX5_foresee_49 : decode cX5_foresee 49 = .ok (.istore 4, 2) := by decide +kernel
theorem dX5_foresee_51 : decode cX5_foresee 51 = .ok (.iload 4, 2) := by decide +kernel
theorem dX5_foresee_53 : decode cX5_foresee 53 = .ok (.iload_n 1, 1) := by decide +kernel
theorem dX5_foresee_54 : decode cX5_foresee 54 = .ok (.if_icmp .ge 14, 3) := by decide +kernel
theorem dX5_foresee_57 : decode cX5_foresee 57 = .ok (.aload_n 0, 1) := by decide +kernel
theorem dX5_foresee_58 : decode cX5_foresee 58 = .ok (.aload_n 3, 1) := by decide +kernel
theorem dX5_foresee_59 : decode cX5_foresee 59 = .ok (.invokevirtual 113, 3) := by decide +kernel
theorem dX5_foresee_62 : decode cX5_foresee 62 = .ok (.iinc 4 1, 3) := by decide +kernel
theorem dX5_foresee_65 : decode cX5_foresee 65 = .ok (.goto (-14), 3) := by decide +kernel
theorem dX5_foresee_68 : decode cX5_foresee 68 = .ok (.aload_n 0, 1) := by decide +kernel
theorem dX5_foresee_69 : decode cX5_foresee 69 = .ok (.aload_n 3, 1) := by decide +kernel
theorem dX5_foresee_70 : decode cX5_foresee 70 = .ok (.iload_n 2, 1) := by decide +kernel
theorem dX5_foresee_71 : decode cX5_foresee 71 = .ok (.invokevirtual 109, 3) := by decide +kernel
theorem dX5_foresee_74 : decode cX5_foresee 74 = .ok (.ireturn, 1) := by decide +kernel
set_option maxRecDepth 20000 in
theorem ggX5_mean_X5_blooms : GoodIn wsX5_mean wsX5_blooms := goodIn_r _ [8, 9, 10, 11, 12, 13, 14, 15, 16, 7, 17, 18, 19, 20, 21, 22, 23, 24, 25, 26, 27, 28, 29, 30] (by decide +kernel) (by decide +kernel)
set_option maxRecDepth 20000 in
theorem gX5_mean_X5_blooms : GoodIn wsX5_mean (wsV RX5 72 RX5 yX5_blooms wsX5_blooms) := goodIn_app (goodIn_of _ (by decide +kernel)) ggX5_mean_X5_blooms
theorem dX5_mean_0 : decode cX5_mean 0 = .ok (.aload_n 0, 1) := by decide +kernel
theorem dX5_mean_1 : decode cX5_mean 1 = .ok (.iconst 0, 1) := by decide +kernel
theorem dX5_mean_2 : decode cX5_mean 2 = .ok (.putfield 37, 3) := by decide +kernel
theorem dX5_mean_5 : decode cX5_mean 5 = .ok (.iconst 0, 1) := by decide +kernel
theorem dX5_mean_6 : decode cX5_mean 6 = .ok (.istore_n 1, 1) := by decide +kernel
theorem dX5_mean_7 : decode cX5_mean 7 = .ok (.iconst 0, 1) := by decide +kernel
theorem dX5_mean_8 : decode cX5_mean 8 = .ok (.istore_n 2, 1) := by decide +kernel
theorem dX5_mean_9 : decode cX5_mean 9 = .ok (.iload_n 2, 1) := by decide +kernel
theorem dX5_mean_10 : decode cX5_mean 10 = .ok (.aload_n 0, 1) := by decide +kernel
theorem dX5_mean_11 : decode cX5_mean 11 = .ok (.getfield 41, 3) := by decide +kernel
theorem dX5_mean_14 : decode cX5_mean 14 = .ok (.if_icmp .ge 23, 3) := by decide +kernel
theorem dX5_mean_17 : decode cX5_mean 17 = .ok (.iload_n 1, 1) := by decide +kernel
theorem dX5_mean_18 : decode cX5_mean 18 = .ok (.aload_n 0, 1) := by decide +kernel
theorem dX5_mean_19 : decode cX5_mean 19 = .ok (.iload_n 2, 1) := by decide +kernel
theorem dX5_mean_20 : decode cX5_mean 20 = .ok (.aload_n 0, 1) := by decide +kernel
theorem dX5_mean_21 : decode cX5_mean 21 = .ok (.getfield 34, 3) := by decide +kernel
theorem dX5_mean_24 : decode cX5_mean 24 = .ok (.iconst 0, 1) := by decide +kernel
theorem dX5_mean_25 : decode cX5_mean 25 = .ok (.iaload, 1) := by decide +kernel
theorem dX5_mean_26 : decode cX5_mean 26 = .ok (.invokevirtual 72, 3) := by decide +kernel
theorem dX5_mean_29 : decode cX5_mean 29 = .ok (.iadd, 1) := by decide +kernel
theorem dX5_mean_30 : decode cX5_mean 30 = .ok (.istore_n 1, 1) := by decide +kernel
theorem dX5_mean_31 : decode cX5_mean 31 = .ok (.iinc 2 1, 3) := by decide +kernel
theorem dX5_mean_34 : decode cX5_mean 34 = .ok (.goto (-25), 3) := by decide +kernel
theorem dX5_mean_37 : decode cX5_mean 37 = .ok (.aload_n 0, 1) := by decide +kernel
theorem dX5_mean_38 : decode cX5_mean 38 = .ok (.getfield 41, 3) := by decide +kernel
theorem dX5_mean_41 : decode cX5_mean 41 = .ok (.ifCond .ne 7, 3) := by decide +kernel
theorem dX5_mean_44 : decode cX5_mean 44 = .ok (.dconst 0, 1) := by decide +kernel
theorem dX5_mean_45 : decode cX5_mean 45 = .ok (.goto 11, 3) := by decide +kernel
theorem dX5_mean_48 : decode cX5_mean 48 = .ok (.iload_n 1, 1) := by decide +kernel
theorem dX5_mean_49 : decode cX5_mean 49 = .ok (.i2d, 1) := by decide +kernel
theorem dX5_mean_50 : decode cX5_mean 50 = .ok (.aload_n 0, 1) := by decide +kernel
theorem dX5_mean_51 : decode cX5_mean 51 = .ok (.getfield 41, 3) := by decide +kernel
theorem dX5_mean_54 : decode cX5_mean 54 = .ok (.i2d, 1) := by decide +kernel
theorem dX5_mean_55 : decode cX5_mean 55 = .ok (.ddiv, 1) := by decide +kernel
theorem dX5_mean_56 : decode cX5_mean 56 = .ok (.dreturn, 1) := by decide +kernel
set_option maxRecDepth 20000 in
theorem ggX5_digest_X5_counted : GoodIn wsX5_digest wsX5_counted := goodIn_r _ [14, 6, 8, 15, 16, 17, 18, 19, 13, 20, 21, 22, 23, 24, 25, 26, 27, 28, 29, 30, 31, 32, 33, 34, 35, 36, 37, 9, 7, 38, 39, 40, 41, 42, 72, 73, 74, 75, 76, 77, 78, 79, 80, 81, 82, 83, 84] (by decide +kernel) (by decide +kernel)
set_option maxRecDepth 20000 in
theorem gX5_digest_X5_counted : GoodIn wsX5_digest (wsV RX5 109 RX5 yX5_counted wsX5_counted) := goodIn_app (goodIn_of _ (by decide +kernel)) ggX5_digest_X5_counted
set_option maxRecDepth 20000 in
theorem ggX5_digest_X5_valleyTold : GoodIn wsX5_digest wsX5_valleyTold := goodIn_r _ [46, 8, 21, 22, 47, 4, 48, 49, 50, 13, 51, 9, 38, 39, 40, 41, 42, 30, 31, 32, 33, 34, 35, 36, 37, 7, 27, 28, 29, 17, 18, 19, 20, 23, 24, 25, 26, 52, 53, 54, 55, 56, 72, 73, 74, 75, 76, 77, 78, 79, 80, 81, 82, 83, 84] (by decide +kernel) (by decide +kernel)
set_option maxRecDepth 20000 in
theorem gX5_digest_X5_valleyTold : GoodIn wsX5_digest (wsV RX5 106 RX5 yX5_valleyTold wsX5_valleyTold) := goodIn_app (goodIn_of _ (by decide +kernel)) ggX5_digest_X5_valleyTold
set_option maxRecDepth 20000 in
theorem ggX5_digest_X5_tourTold : GoodIn wsX5_digest wsX5_tourTold := goodIn_r _ [60, 56, 9, 4, 34, 35, 36, 13, 37, 7, 38, 39, 40, 41, 42, 30, 31, 32, 33, 27, 28, 29, 61, 62, 63, 64, 65, 66, 25, 67, 17, 18, 19, 20, 21, 22, 23, 24, 26, 52, 53, 54, 55, 8, 48, 49, 50, 51, 68, 69, 70, 71, 47, 72, 73, 74, 75, 76, 77, 78, 79, 80, 81, 82, 83, 84] (by decide +kernel) (by decide +kernel)
set_option maxRecDepth 20000 in
theorem gX5_digest_X5_tourTold : GoodIn wsX5_digest (wsV RX5 103 RX5 yX5_tourTold wsX5_tourTold) := goodIn_app (goodIn_of _ (by decide +kernel)) ggX5_digest_X5_tourTold
set_option maxRecDepth 20000 in
theorem ggX5_digest_X5_at : GoodIn wsX5_digest wsX5_at := goodIn_r _ [41, 42, 72, 73, 74, 75, 76, 77, 78, 79, 80, 81, 82, 83, 84] (by decide +kernel) (by decide +kernel)
set_option maxRecDepth 20000 in
theorem gX5_digest_X5_at : GoodIn wsX5_digest (wsV RX5 75 RX5 yX5_at wsX5_at) := goodIn_app (goodIn_of _ (by decide +kernel)) ggX5_digest_X5_at
theorem dX5_digest_0 : decode cX5_digest 0 = .ok (.aload_n 0, 1) := by decide +kernel
theorem dX5_digest_1 : decode cX5_digest 1 = .ok (.iconst 0, 1) := by decide +kernel
theorem dX5_digest_2 : decode cX5_digest 2 = .ok (.putfield 37, 3) := by decide +kernel
theorem dX5_digest_5 : decode cX5_digest 5 = .ok (.ldc2_w 122, 3) := by decide +kernel
theorem dX5_digest_8 : decode cX5_digest 8 = .ok (.lstore_n 1, 1) := by decide +kernel
theorem dX5_digest_9 : decode cX5_digest 9 = .ok (.iconst 0, 1) := by decide +kernel
theorem dX5_digest_10 : decode cX5_digest 10 = .ok (.istore_n 3, 1) := by decide +kernel
theorem dX5_digest_11 : decode cX5_digest 11 = .ok (.iload_n 3, 1) := by decide +kernel
theorem dX5_digest_12 : decode cX5_digest 12 = .ok (.bipush 8, 2) := by decide +kernel
theorem dX5_digest_14 : decode cX5_digest 14 = .ok (.if_icmp .gt 26, 3) := by decide +kernel
theorem dX5_digest_17 : decode cX5_digest 17 = .ok (.lload_n 1, 1) := by decide +kernel
theorem dX5_digest_18 : decode cX5_digest 18 = .ok (.ldc2_w 124, 3) := by decide +kernel
theorem dX5_digest_21 : decode cX5_digest 21 = .ok (.lmul, 1) := by decide +kernel
theorem dX5_digest_22 : decode cX5_digest 22 = .ok (.aload_n 0, 1) := by decide +kernel
theorem dX5_digest_23 : decode cX5_digest 23 = .ok (.aload_n 0, 1) := by decide +kernel
theorem dX5_digest_24 : decode cX5_digest 24 = .ok (.getfield 34, 3) := by decide +kernel
theorem dX5_digest_27 : decode cX5_digest 27 = .ok (.iload_n 3, 1) := by decide +kernel
theorem dX5_digest_28 : decode cX5_digest 28 = .ok (.invokevirtual 109, 3) := by decide +kernel
theorem dX5_digest_31 : decode cX5_digest 31 = .ok (.i2l, 1) := by decide +kernel
theorem dX5_digest_32 : decode cX5_digest 32 = .ok (.ladd, 1) := by decide +kernel
theorem dX5_digest_33 : decode cX5_digest 33 = .ok (.lstore_n 1, 1) := by decide +kernel
theorem dX5_digest_34 : decode cX5_digest 34 = .ok (.iinc 3 1, 3) := by decide +kernel
theorem dX5_digest_37 : decode cX5_digest 37 = .ok (.goto (-26), 3) := by decide +kernel
theorem dX5_digest_40 : decode cX5_digest 40 = .ok (.aload_n 0, 1) := by decide +kernel
theorem dX5_digest_41 : decode cX5_digest 41 = .ok (.getfield 22, 3) := by decide +kernel
theorem dX5_digest_44 : decode cX5_digest 44 = .ok (.astore_n 3, 1) := by decide +kernel
theorem dX5_digest_45 : decode cX5_digest 45 = .ok (.aload_n 3, 1) := by decide +kernel
theorem dX5_digest_46 : decode cX5_digest 46 = .ok (.arraylength, 1) := by decide +kernel
theorem dX5_digest_47 : decode cX5_digest 47 = .ok (.istore 4, 2) := by decide +kernel
theorem dX5_digest_49 : decode cX5_digest 49 = .ok (.iconst 0, 1) := by decide +kernel
theorem dX5_digest_50 : decode cX5_digest 50 = .ok (.istore 5, 2) := by decide +kernel
theorem dX5_digest_52 : decode cX5_digest 52 = .ok (.iload 5, 2) := by decide +kernel
theorem dX5_digest_54 : decode cX5_digest 54 = .ok (.iload 4, 2) := by decide +kernel
theorem dX5_digest_56 : decode cX5_digest 56 = .ok (.if_icmp .ge 25, 3) := by decide +kernel
theorem dX5_digest_59 : decode cX5_digest 59 = .ok (.aload_n 3, 1) := by decide +kernel
theorem dX5_digest_60 : decode cX5_digest 60 = .ok (.iload 5, 2) := by decide +kernel
theorem dX5_digest_62 : decode cX5_digest 62 = .ok (.iaload, 1) := by decide +kernel
theorem dX5_digest_63 : decode cX5_digest 63 = .ok (.istore 6, 2) := by decide +kernel
theorem dX5_digest_65 : decode cX5_digest 65 = .ok (.lload_n 1, 1) := by decide +kernel
theorem dX5_digest_66 : decode cX5_digest 66 = .ok (.ldc2_w 124, 3) := by decide +kernel
theorem dX5_digest_69 : decode cX5_digest 69 = .ok (.lmul, 1) := by decide +kernel
theorem dX5_digest_70 : decode cX5_digest 70 = .ok (.iload 6, 2) := by decide +kernel
theorem dX5_digest_72 : decode cX5_digest 72 = .ok (.i2l, 1) := by decide +kernel
theorem dX5_digest_73 : decode cX5_digest 73 = .ok (.ladd, 1) := by decide +kernel
theorem dX5_digest_74 : decode cX5_digest 74 = .ok (.lstore_n 1, 1) := by decide +kernel
theorem dX5_digest_75 : decode cX5_digest 75 = .ok (.iinc 5 1, 3) := by decide +kernel
theorem dX5_digest_78 : decode cX5_digest 78 = .ok (.goto (-26), 3) := by decide +kernel
theorem dX5_digest_81 : decode cX5_digest 81 = .ok (.iconst 0, 1) := by decide +kernel
theorem dX5_digest_82 : decode cX5_digest 82 = .ok (.istore_n 3, 1) := by decide +kernel
theorem dX5_digest_83 : decode cX5_digest 83 = .ok (.iload_n 3, 1) := by decide +kernel
theorem dX5_digest_84 : decode cX5_digest 84 = .ok (.aload_n 0, 1) := by decide +kernel
theorem dX5_digest_85 : decode cX5_digest 85 = .ok (.getfield 41, 3) := by decide +kernel
theorem dX5_digest_88 : decode cX5_digest 88 = .ok (.if_icmp .ge 77, 3) := by decide +kernel
theorem dX5_digest_91 : decode cX5_digest 91 = .ok (.iconst 0, 1) := by decide +kernel
theorem dX5_digest_92 : decode cX5_digest 92 = .ok (.istore 4, 2) := by decide +kernel
theorem dX5_digest_94 : decode cX5_digest 94 = .ok (.iload 4, 2) := by decide +kernel
theorem dX5_digest_96 : decode cX5_digest 96 = .ok (.iconst 5, 1) := by decide +kernel
theorem dX5_digest_97 : decode cX5_digest 97 = .ok (.if_icmp .gt 24, 3) := by decide +kernel
theorem dX5_digest_100 : decode cX5_digest 100 = .ok (.lload_n 1, 1) := by decide +kernel
theorem dX5_digest_101 : decode cX5_digest 101 = .ok (.ldc2_w 124, 3) := by decide +kernel
theorem dX5_digest_104 : decode cX5_digest 104 = .ok (.lmul, 1) := by decide +kernel
theorem dX5_digest_105 : decode cX5_digest 105 = .ok (.aload_n 0, 1) := by decide +kernel
theorem dX5_digest_106 : decode cX5_digest 106 = .ok (.iload_n 3, 1) := by decide +kernel
theorem dX5_digest_107 : decode cX5_digest 107 = .ok (.iload 4, 2) := by decide +kernel
theorem dX5_digest_109 : decode cX5_digest 109 = .ok (.invokevirtual 106, 3) := by decide +kernel
theorem dX5_digest_112 : decode cX5_digest 112 = .ok (.i2l, 1) := by decide +kernel
theorem dX5_digest_113 : decode cX5_digest 113 = .ok (.ladd, 1) := by decide +kernel
theorem dX5_digest_114 : decode cX5_digest 114 = .ok (.lstore_n 1, 1) := by decide +kernel
theorem dX5_digest_115 : decode cX5_digest 115 = .ok (.iinc 4 1, 3) := by decide +kernel
theorem dX5_digest_118 : decode cX5_digest 118 = .ok (.goto (-24), 3) := by decide +kernel
theorem dX5_digest_121 : decode cX5_digest 121 = .ok (.iconst 0, 1) := by decide +kernel
theorem dX5_digest_122 : decode cX5_digest 122 = .ok (.istore 4, 2) := by decide +kernel
theorem dX5_digest_124 : decode cX5_digest 124 = .ok (.iload 4, 2) := by decide +kernel
theorem dX5_digest_126 : decode cX5_digest 126 = .ok (.aload_n 0, 1) := by decide +kernel
theorem dX5_digest_127 : decode cX5_digest 127 = .ok (.getfield 41, 3) := by decide +kernel
theorem dX5_digest_130 : decode cX5_digest 130 = .ok (.if_icmp .ge 29, 3) := by decide +kernel
theorem dX5_digest_133 : decode cX5_digest 133 = .ok (.lload_n 1, 1) := by decide +kernel
theorem dX5_digest_134 : decode cX5_digest 134 = .ok (.ldc2_w 124, 3) := by decide +kernel
theorem dX5_digest_137 : decode cX5_digest 137 = .ok (.lmul, 1) := by decide +kernel
theorem dX5_digest_138 : decode cX5_digest 138 = .ok (.aload_n 0, 1) := by decide +kernel
theorem dX5_digest_139 : decode cX5_digest 139 = .ok (.getfield 19, 3) := by decide +kernel
theorem dX5_digest_142 : decode cX5_digest 142 = .ok (.bipush 8, 2) := by decide +kernel
theorem dX5_digest_144 : decode cX5_digest 144 = .ok (.iload_n 3, 1) := by decide +kernel
theorem dX5_digest_145 : decode cX5_digest 145 = .ok (.imul, 1) := by decide +kernel
theorem dX5_digest_146 : decode cX5_digest 146 = .ok (.iload 4, 2) := by decide +kernel
theorem dX5_digest_148 : decode cX5_digest 148 = .ok (.iadd, 1) := by decide +kernel
theorem dX5_digest_149 : decode cX5_digest 149 = .ok (.iaload, 1) := by decide +kernel
theorem dX5_digest_150 : decode cX5_digest 150 = .ok (.i2l, 1) := by decide +kernel
theorem dX5_digest_151 : decode cX5_digest 151 = .ok (.ladd, 1) := by decide +kernel
theorem dX5_digest_152 : decode cX5_digest 152 = .ok (.lstore_n 1, 1) := by decide +kernel
theorem dX5_digest_153 : decode cX5_digest 153 = .ok (.iinc 4 1, 3) := by decide +kernel
theorem dX5_digest_156 : decode cX5_digest 156 = .ok (.goto (-32), 3) := by decide +kernel
theorem dX5_digest_159 : decode cX5_digest 159 = .ok (.iinc 3 1, 3) := by decide +kernel
theorem dX5_digest_162 : decode cX5_digest 162 = .ok (.goto (-79), 3) := by decide +kernel
theorem dX5_digest_165 : decode cX5_digest 165 = .ok (.iconst 0, 1) := by decide +kernel
theorem dX5_digest_166 : decode cX5_digest 166 = .ok (.istore_n 3, 1) := by decide +kernel
theorem dX5_digest_167 : decode cX5_digest 167 = .ok (.iload_n 3, 1) := by decide +kernel
theorem dX5_digest_168 : decode cX5_digest 168 = .ok (.aload_n 0, 1) := by decide +kernel
theorem dX5_digest_169 : decode cX5_digest 169 = .ok (.getfield 48, 3) := by decide +kernel
theorem dX5_digest_172 : decode cX5_digest 172 = .ok (.if_icmp .ge 74, 3) := by decide +kernel
theorem dX5_digest_175 : decode cX5_digest 175 = .ok (.iconst 0, 1) := by decide +kernel
theorem dX5_digest_176 : decode cX5_digest 176 = .ok (.istore 4, 2) := by decide +kernel
theorem dX5_digest_178 : decode cX5_digest 178 = .ok (.iload 4, 2) := by decide +kernel
theorem dX5_digest_180 : decode cX5_digest 180 = .ok (.iconst 5, 1) := by decide +kernel
theorem dX5_digest_181 : decode cX5_digest 181 = .ok (.if_icmp .gt 24, 3) := by decide +kernel
theorem dX5_digest_184 : decode cX5_digest 184 = .ok (.lload_n 1, 1) := by decide +kernel
theorem dX5_digest_185 : decode cX5_digest 185 = .ok (.ldc2_w 124, 3) := by decide +kernel
theorem dX5_digest_188 : decode cX5_digest 188 = .ok (.lmul, 1) := by decide +kernel
theorem dX5_digest_189 : decode cX5_digest 189 = .ok (.aload_n 0, 1) := by decide +kernel
theorem dX5_digest_190 : decode cX5_digest 190 = .ok (.iload_n 3, 1) := by decide +kernel
theorem dX5_digest_191 : decode cX5_digest 191 = .ok (.iload 4, 2) := by decide +kernel
theorem dX5_digest_193 : decode cX5_digest 193 = .ok (.invokevirtual 103, 3) := by decide +kernel
theorem dX5_digest_196 : decode cX5_digest 196 = .ok (.i2l, 1) := by decide +kernel
theorem dX5_digest_197 : decode cX5_digest 197 = .ok (.ladd, 1) := by decide +kernel
theorem dX5_digest_198 : decode cX5_digest 198 = .ok (.lstore_n 1, 1) := by decide +kernel
theorem dX5_digest_199 : decode cX5_digest 199 = .ok (.iinc 4 1, 3) := by decide +kernel
theorem dX5_digest_202 : decode cX5_digest 202 = .ok (.goto (-24), 3) := by decide +kernel
theorem dX5_digest_205 : decode cX5_digest 205 = .ok (.iconst 0, 1) := by decide +kernel
theorem dX5_digest_206 : decode cX5_digest 206 = .ok (.istore 4, 2) := by decide +kernel
theorem dX5_digest_208 : decode cX5_digest 208 = .ok (.iload 4, 2) := by decide +kernel
theorem dX5_digest_210 : decode cX5_digest 210 = .ok (.aload_n 0, 1) := by decide +kernel
theorem dX5_digest_211 : decode cX5_digest 211 = .ok (.getfield 28, 3) := by decide +kernel
theorem dX5_digest_214 : decode cX5_digest 214 = .ok (.iload_n 3, 1) := by decide +kernel
theorem dX5_digest_215 : decode cX5_digest 215 = .ok (.iaload, 1) := by decide +kernel
theorem dX5_digest_216 : decode cX5_digest 216 = .ok (.if_icmp .ge 24, 3) := by decide +kernel
theorem dX5_digest_219 : decode cX5_digest 219 = .ok (.lload_n 1, 1) := by decide +kernel
theorem dX5_digest_220 : decode cX5_digest 220 = .ok (.ldc2_w 124, 3) := by decide +kernel
theorem dX5_digest_223 : decode cX5_digest 223 = .ok (.lmul, 1) := by decide +kernel
theorem dX5_digest_224 : decode cX5_digest 224 = .ok (.aload_n 0, 1) := by decide +kernel
theorem dX5_digest_225 : decode cX5_digest 225 = .ok (.iload_n 3, 1) := by decide +kernel
theorem dX5_digest_226 : decode cX5_digest 226 = .ok (.iload 4, 2) := by decide +kernel
theorem dX5_digest_228 : decode cX5_digest 228 = .ok (.invokevirtual 75, 3) := by decide +kernel
theorem dX5_digest_231 : decode cX5_digest 231 = .ok (.i2l, 1) := by decide +kernel
theorem dX5_digest_232 : decode cX5_digest 232 = .ok (.ladd, 1) := by decide +kernel
theorem dX5_digest_233 : decode cX5_digest 233 = .ok (.lstore_n 1, 1) := by decide +kernel
theorem dX5_digest_234 : decode cX5_digest 234 = .ok (.iinc 4 1, 3) := by decide +kernel
theorem dX5_digest_237 : decode cX5_digest 237 = .ok (.goto (-29), 3) := by decide +kernel
theorem dX5_digest_240 : decode cX5_digest 240 = .ok (.iinc 3 1, 3) := by decide +kernel
theorem dX5_digest_243 : decode cX5_digest 243 = .ok (.goto (-76), 3) := by decide +kernel
theorem dX5_digest_246 : decode cX5_digest 246 = .ok (.lload_n 1, 1) := by decide +kernel
theorem dX5_digest_247 : decode cX5_digest 247 = .ok (.lreturn, 1) := by decide +kernel
theorem dJ9_floorMod_7cf53_0 : decode cJ9_floorMod_7cf53 0 = .ok (.iload_n 0, 1) := by decide +kernel
theorem dJ9_floorMod_7cf53_1 : decode cJ9_floorMod_7cf53 1 = .ok (.iload_n 1, 1) := by decide +kernel
theorem dJ9_floorMod_7cf53_2 : decode cJ9_floorMod_7cf53 2 = .ok (.irem, 1) := by decide +kernel
theorem dJ9_floorMod_7cf53_3 : decode cJ9_floorMod_7cf53 3 = .ok (.istore_n 2, 1) := by decide +kernel
theorem dJ9_floorMod_7cf53_4 : decode cJ9_floorMod_7cf53 4 = .ok (.iload_n 0, 1) := by decide +kernel
theorem dJ9_floorMod_7cf53_5 : decode cJ9_floorMod_7cf53 5 = .ok (.iload_n 1, 1) := by decide +kernel
theorem dJ9_floorMod_7cf53_6 : decode cJ9_floorMod_7cf53 6 = .ok (.ixor, 1) := by decide +kernel
theorem dJ9_floorMod_7cf53_7 : decode cJ9_floorMod_7cf53 7 = .ok (.ifCond .ge 11, 3) := by decide +kernel
theorem dJ9_floorMod_7cf53_10 : decode cJ9_floorMod_7cf53 10 = .ok (.iload_n 2, 1) := by decide +kernel
theorem dJ9_floorMod_7cf53_11 : decode cJ9_floorMod_7cf53 11 = .ok (.ifCond .eq 7, 3) := by decide +kernel
theorem dJ9_floorMod_7cf53_14 : decode cJ9_floorMod_7cf53 14 = .ok (.iload_n 2, 1) := by decide +kernel
theorem dJ9_floorMod_7cf53_15 : decode cJ9_floorMod_7cf53 15 = .ok (.iload_n 1, 1) := by decide +kernel
theorem dJ9_floorMod_7cf53_16 : decode cJ9_floorMod_7cf53 16 = .ok (.iadd, 1) := by decide +kernel
theorem dJ9_floorMod_7cf53_17 : decode cJ9_floorMod_7cf53 17 = .ok (.ireturn, 1) := by decide +kernel
theorem dJ9_floorMod_7cf53_18 : decode cJ9_floorMod_7cf53 18 = .ok (.iload_n 2, 1) := by decide +kernel
theorem dJ9_floorMod_7cf53_19 : decode cJ9_floorMod_7cf53 19 = .ok (.ireturn, 1) := by decide +kernel
theorem dJ9_max_7cf53_0 : decode cJ9_max_7cf53 0 = .ok (.iload_n 0, 1) := by decide +kernel
theorem dJ9_max_7cf53_1 : decode cJ9_max_7cf53 1 = .ok (.iload_n 1, 1) := by decide +kernel
theorem dJ9_max_7cf53_2 : decode cJ9_max_7cf53 2 = .ok (.if_icmp .lt 7, 3) := by decide +kernel
theorem dJ9_max_7cf53_5 : decode cJ9_max_7cf53 5 = .ok (.iload_n 0, 1) := by decide +kernel
theorem dJ9_max_7cf53_6 : decode cJ9_max_7cf53 6 = .ok (.goto 4, 3) := by decide +kernel
theorem dJ9_max_7cf53_9 : decode cJ9_max_7cf53 9 = .ok (.iload_n 1, 1) := by decide +kernel
theorem dJ9_max_7cf53_10 : decode cJ9_max_7cf53 10 = .ok (.ireturn, 1) := by decide +kernel
theorem dJ9_min_7cf53_0 : decode cJ9_min_7cf53 0 = .ok (.iload_n 0, 1) := by decide +kernel
theorem dJ9_min_7cf53_1 : decode cJ9_min_7cf53 1 = .ok (.iload_n 1, 1) := by decide +kernel
theorem dJ9_min_7cf53_2 : decode cJ9_min_7cf53 2 = .ok (.if_icmp .gt 7, 3) := by decide +kernel
theorem dJ9_min_7cf53_5 : decode cJ9_min_7cf53 5 = .ok (.iload_n 0, 1) := by decide +kernel
theorem dJ9_min_7cf53_6 : decode cJ9_min_7cf53 6 = .ok (.goto 4, 3) := by decide +kernel
theorem dJ9_min_7cf53_9 : decode cJ9_min_7cf53 9 = .ok (.iload_n 1, 1) := by decide +kernel
theorem dJ9_min_7cf53_10 : decode cJ9_min_7cf53 10 = .ok (.ireturn, 1) := by decide +kernel
set_option maxRecDepth 20000 in
theorem ggL_valley_X4_valley : GoodIn wsL_valley wsX4_valley := goodIn_ca (goodIn_ca (goodIn_r _ [7, 8, 9, 10, 11, 12, 13, 14, 15, 6, 16, 17, 18, 19, 20, 21, 22, 23, 24, 25, 26, 27, 28, 29, 30] (by decide +kernel) (by decide +kernel)) (goodIn_sub (fun _ h => List.mem_cons_of_mem _ (List.mem_append_left _ (List.mem_append_right _ h))) (by decide +kernel))) (goodIn_sub (fun _ h => List.mem_cons_of_mem _ (List.mem_append_right _ h)) (by decide +kernel))
set_option maxRecDepth 20000 in
theorem gL_valley_X4_valley : GoodIn wsL_valley (wsV RL 7 RX4 yX4_valley wsX4_valley) := goodIn_app (goodIn_of _ (by decide +kernel)) ggL_valley_X4_valley
theorem dL_valley_0 : decode cL_valley 0 = .ok (.aload 4, 2) := by decide +kernel
theorem dL_valley_2 : decode cL_valley 2 = .ok (.iconst 0, 1) := by decide +kernel
theorem dL_valley_3 : decode cL_valley 3 = .ok (.aload_n 0, 1) := by decide +kernel
theorem dL_valley_4 : decode cL_valley 4 = .ok (.iload_n 1, 1) := by decide +kernel
theorem dL_valley_5 : decode cL_valley 5 = .ok (.iload_n 2, 1) := by decide +kernel
theorem dL_valley_6 : decode cL_valley 6 = .ok (.iload_n 3, 1) := by decide +kernel
theorem dL_valley_7 : decode cL_valley 7 = .ok (.invokevirtual 7, 3) := by decide +kernel
theorem dL_valley_10 : decode cL_valley 10 = .ok (.i2l, 1) := by decide +kernel
theorem dL_valley_11 : decode cL_valley 11 = .ok (.lastore, 1) := by decide +kernel
theorem dL_valley_12 : decode cL_valley 12 = .ok (.goto 11, 3) := by decide +kernel
theorem dL_valley_15 : decode cL_valley 15 = .ok (.astore 5, 2) := by decide +kernel
theorem dL_valley_17 : decode cL_valley 17 = .ok (.iconst 1, 1) := by decide +kernel
theorem dL_valley_18 : decode cL_valley 18 = .ok (.ireturn, 1) := by decide +kernel
theorem dL_valley_19 : decode cL_valley 19 = .ok (.astore 5, 2) := by decide +kernel
theorem dL_valley_21 : decode cL_valley 21 = .ok (.iconst 2, 1) := by decide +kernel
theorem dL_valley_22 : decode cL_valley 22 = .ok (.ireturn, 1) := by decide +kernel
theorem dL_valley_23 : decode cL_valley 23 = .ok (.iconst 0, 1) := by decide +kernel
theorem dL_valley_24 : decode cL_valley 24 = .ok (.ireturn, 1) := by decide +kernel
set_option maxRecDepth 20000 in
theorem ggL_road_X4_road : GoodIn wsL_road wsX4_road := goodIn_ca (goodIn_ca (goodIn_ca (goodIn_r _ [8, 9, 10, 11, 12, 13, 14, 15, 16, 7, 17, 18, 19, 20, 21, 22, 23, 24, 25, 26, 27, 28, 29, 30, 31, 32, 33, 34, 35, 36, 37, 38, 39, 40, 41, 42, 43, 44, 45, 46, 47, 48, 49, 50, 51, 52, 53, 54, 55, 56, 57, 58, 59, 60, 61, 62, 63, 64, 65, 66, 67, 68, 69, 70, 71, 72, 73, 74, 75, 76, 77, 78, 79, 80, 81, 82, 83, 84] (by decide +kernel) (by decide +kernel)) (goodIn_sub (fun _ h => List.mem_cons_of_mem _ (List.mem_append_left _ (List.mem_append_left _ (List.mem_append_right _ h)))) (by decide +kernel))) (goodIn_sub (fun _ h => List.mem_cons_of_mem _ (List.mem_append_left _ (List.mem_append_right _ h))) (by decide +kernel))) (goodIn_sub (fun _ h => List.mem_cons_of_mem _ (List.mem_append_right _ h)) (by decide +kernel))
set_option maxRecDepth 20000 in
theorem gL_road_X4_road : GoodIn wsL_road (wsV RL 17 RX4 yX4_road wsX4_road) := goodIn_app (goodIn_of _ (by decide +kernel)) ggL_road_X4_road
theorem dL_road_0 : decode cL_road 0 = .ok (.aload 4, 2) := by decide +kernel
theorem dL_road_2 : decode cL_road 2 = .ok (.iconst 0, 1) := by decide +kernel
theorem dL_road_3 : decode cL_road 3 = .ok (.aload_n 0, 1) := by decide +kernel
theorem dL_road_4 : decode cL_road 4 = .ok (.iload_n 1, 1) := by decide +kernel
theorem dL_road_5 : decode cL_road 5 = .ok (.iload_n 2, 1) := by decide +kernel
theorem dL_road_6 : decode cL_road 6 = .ok (.iload_n 3, 1) := by decide +kernel
theorem dL_road_7 : decode cL_road 7 = .ok (.invokevirtual 17, 3) := by decide +kernel
theorem dL_road_10 : decode cL_road 10 = .ok (.i2l, 1) := by decide +kernel
theorem dL_road_11 : decode cL_road 11 = .ok (.lastore, 1) := by decide +kernel
theorem dL_road_12 : decode cL_road 12 = .ok (.goto 15, 3) := by decide +kernel
theorem dL_road_15 : decode cL_road 15 = .ok (.astore 5, 2) := by decide +kernel
theorem dL_road_17 : decode cL_road 17 = .ok (.iconst 1, 1) := by decide +kernel
theorem dL_road_18 : decode cL_road 18 = .ok (.ireturn, 1) := by decide +kernel
theorem dL_road_19 : decode cL_road 19 = .ok (.astore 5, 2) := by decide +kernel
theorem dL_road_21 : decode cL_road 21 = .ok (.iconst 2, 1) := by decide +kernel
theorem dL_road_22 : decode cL_road 22 = .ok (.ireturn, 1) := by decide +kernel
theorem dL_road_23 : decode cL_road 23 = .ok (.astore 5, 2) := by decide +kernel
theorem dL_road_25 : decode cL_road 25 = .ok (.iconst 3, 1) := by decide +kernel
theorem dL_road_26 : decode cL_road 26 = .ok (.ireturn, 1) := by decide +kernel
theorem dL_road_27 : decode cL_road 27 = .ok (.iconst 0, 1) := by decide +kernel
theorem dL_road_28 : decode cL_road 28 = .ok (.ireturn, 1) := by decide +kernel
set_option maxRecDepth 20000 in
theorem ggL_setHeat_X4_setHeat : GoodIn wsL_setHeat wsX4_setHeat := goodIn_ca (goodIn_ca (goodIn_r _ [7, 8, 9, 10, 11, 12, 13, 14, 6, 15, 16, 17, 18, 19, 20, 21, 22, 23, 24] (by decide +kernel) (by decide +kernel)) (goodIn_sub (fun _ h => List.mem_cons_of_mem _ (List.mem_append_left _ (List.mem_append_right _ h))) (by decide +kernel))) (goodIn_sub (fun _ h => List.mem_cons_of_mem _ (List.mem_append_right _ h)) (by decide +kernel))
set_option maxRecDepth 20000 in
theorem gL_setHeat_X4_setHeat : GoodIn wsL_setHeat (wsV RL 22 RX4 yX4_setHeat wsX4_setHeat) := goodIn_app (goodIn_of _ (by decide +kernel)) ggL_setHeat_X4_setHeat
theorem dL_setHeat_0 : decode cL_setHeat 0 = .ok (.aload_n 3, 1) := by decide +kernel
theorem dL_setHeat_1 : decode cL_setHeat 1 = .ok (.iconst 0, 1) := by decide +kernel
theorem dL_setHeat_2 : decode cL_setHeat 2 = .ok (.aload_n 0, 1) := by decide +kernel
theorem dL_setHeat_3 : decode cL_setHeat 3 = .ok (.iload_n 1, 1) := by decide +kernel
theorem dL_setHeat_4 : decode cL_setHeat 4 = .ok (.iload_n 2, 1) := by decide +kernel
theorem dL_setHeat_5 : decode cL_setHeat 5 = .ok (.invokevirtual 22, 3) := by decide +kernel
theorem dL_setHeat_8 : decode cL_setHeat 8 = .ok (.i2l, 1) := by decide +kernel
theorem dL_setHeat_9 : decode cL_setHeat 9 = .ok (.lastore, 1) := by decide +kernel
theorem dL_setHeat_10 : decode cL_setHeat 10 = .ok (.goto 11, 3) := by decide +kernel
theorem dL_setHeat_13 : decode cL_setHeat 13 = .ok (.astore 4, 2) := by decide +kernel
theorem dL_setHeat_15 : decode cL_setHeat 15 = .ok (.iconst 1, 1) := by decide +kernel
theorem dL_setHeat_16 : decode cL_setHeat 16 = .ok (.ireturn, 1) := by decide +kernel
theorem dL_setHeat_17 : decode cL_setHeat 17 = .ok (.astore 4, 2) := by decide +kernel
theorem dL_setHeat_19 : decode cL_setHeat 19 = .ok (.iconst 2, 1) := by decide +kernel
theorem dL_setHeat_20 : decode cL_setHeat 20 = .ok (.ireturn, 1) := by decide +kernel
theorem dL_setHeat_21 : decode cL_setHeat 21 = .ok (.iconst 0, 1) := by decide +kernel
theorem dL_setHeat_22 : decode cL_setHeat 22 = .ok (.ireturn, 1) := by decide +kernel
set_option maxRecDepth 20000 in
theorem ggL_bloom_X4_bloom : GoodIn wsL_bloom wsX4_bloom := goodIn_ca (goodIn_ca (goodIn_r _ [7, 8, 9, 10, 11, 6, 12, 13, 14, 15, 16, 17, 18, 19, 20, 21, 22, 23, 24, 25, 26, 27, 28, 29, 30, 31, 32, 33, 34, 35, 36, 37, 38, 39, 40, 41, 42, 43, 44] (by decide +kernel) (by decide +kernel)) (goodIn_sub (fun _ h => List.mem_cons_of_mem _ (List.mem_append_left _ (List.mem_append_right _ h))) (by decide +kernel))) (goodIn_sub (fun _ h => List.mem_cons_of_mem _ (List.mem_append_right _ h)) (by decide +kernel))
set_option maxRecDepth 20000 in
theorem gL_bloom_X4_bloom : GoodIn wsL_bloom (wsV RL 26 RX4 yX4_bloom wsX4_bloom) := goodIn_app (goodIn_of _ (by decide +kernel)) ggL_bloom_X4_bloom
theorem dL_bloom_0 : decode cL_bloom 0 = .ok (.aload_n 3, 1) := by decide +kernel
theorem dL_bloom_1 : decode cL_bloom 1 = .ok (.iconst 0, 1) := by decide +kernel
theorem dL_bloom_2 : decode cL_bloom 2 = .ok (.aload_n 0, 1) := by decide +kernel
theorem dL_bloom_3 : decode cL_bloom 3 = .ok (.iload_n 1, 1) := by decide +kernel
theorem dL_bloom_4 : decode cL_bloom 4 = .ok (.iload_n 2, 1) := by decide +kernel
theorem dL_bloom_5 : decode cL_bloom 5 = .ok (.invokevirtual 26, 3) := by decide +kernel
theorem dL_bloom_8 : decode cL_bloom 8 = .ok (.i2l, 1) := by decide +kernel
theorem dL_bloom_9 : decode cL_bloom 9 = .ok (.lastore, 1) := by decide +kernel
theorem dL_bloom_10 : decode cL_bloom 10 = .ok (.goto 11, 3) := by decide +kernel
theorem dL_bloom_13 : decode cL_bloom 13 = .ok (.astore 4, 2) := by decide +kernel
theorem dL_bloom_15 : decode cL_bloom 15 = .ok (.iconst 1, 1) := by decide +kernel
theorem dL_bloom_16 : decode cL_bloom 16 = .ok (.ireturn, 1) := by decide +kernel
theorem dL_bloom_17 : decode cL_bloom 17 = .ok (.astore 4, 2) := by decide +kernel
theorem dL_bloom_19 : decode cL_bloom 19 = .ok (.iconst 2, 1) := by decide +kernel
theorem dL_bloom_20 : decode cL_bloom 20 = .ok (.ireturn, 1) := by decide +kernel
theorem dL_bloom_21 : decode cL_bloom 21 = .ok (.iconst 0, 1) := by decide +kernel
theorem dL_bloom_22 : decode cL_bloom 22 = .ok (.ireturn, 1) := by decide +kernel
set_option maxRecDepth 20000 in
theorem ggL_way_X4_way : GoodIn wsL_way wsX4_way := goodIn_ca (goodIn_r _ [6, 7, 8, 9, 10, 5, 11, 12, 13, 14, 15, 16, 17, 18, 19, 20, 21, 22, 23, 24, 25, 26, 27, 28, 29, 30, 31, 32, 33, 34, 35, 36] (by decide +kernel) (by decide +kernel)) (goodIn_sub (fun _ h => List.mem_cons_of_mem _ (List.mem_append_right _ h)) (by decide +kernel))
set_option maxRecDepth 20000 in
theorem gL_way_X4_way : GoodIn wsL_way (wsV RL 29 RX4 yX4_way wsX4_way) := goodIn_app (goodIn_of _ (by decide +kernel)) ggL_way_X4_way
theorem dL_way_0 : decode cL_way 0 = .ok (.aload_n 3, 1) := by decide +kernel
theorem dL_way_1 : decode cL_way 1 = .ok (.iconst 0, 1) := by decide +kernel
theorem dL_way_2 : decode cL_way 2 = .ok (.aload_n 0, 1) := by decide +kernel
theorem dL_way_3 : decode cL_way 3 = .ok (.iload_n 1, 1) := by decide +kernel
theorem dL_way_4 : decode cL_way 4 = .ok (.iload_n 2, 1) := by decide +kernel
theorem dL_way_5 : decode cL_way 5 = .ok (.invokevirtual 29, 3) := by decide +kernel
theorem dL_way_8 : decode cL_way 8 = .ok (.i2l, 1) := by decide +kernel
theorem dL_way_9 : decode cL_way 9 = .ok (.lastore, 1) := by decide +kernel
theorem dL_way_10 : decode cL_way 10 = .ok (.goto 7, 3) := by decide +kernel
theorem dL_way_13 : decode cL_way 13 = .ok (.astore 4, 2) := by decide +kernel
theorem dL_way_15 : decode cL_way 15 = .ok (.iconst 1, 1) := by decide +kernel
theorem dL_way_16 : decode cL_way 16 = .ok (.ireturn, 1) := by decide +kernel
theorem dL_way_17 : decode cL_way 17 = .ok (.iconst 0, 1) := by decide +kernel
theorem dL_way_18 : decode cL_way 18 = .ok (.ireturn, 1) := by decide +kernel
set_option maxRecDepth 20000 in
theorem ggL_tour_X4_tour : GoodIn wsL_tour wsX4_tour := goodIn_ca (goodIn_ca (goodIn_r _ [7, 8, 9, 10, 11, 12, 13, 14, 15, 6, 16, 17, 18, 19, 20, 21, 22, 23, 24, 25, 26, 27, 28, 29] (by decide +kernel) (by decide +kernel)) (goodIn_sub (fun _ h => List.mem_cons_of_mem _ (List.mem_append_left _ (List.mem_append_right _ h))) (by decide +kernel))) (goodIn_sub (fun _ h => List.mem_cons_of_mem _ (List.mem_append_right _ h)) (by decide +kernel))
set_option maxRecDepth 20000 in
theorem gL_tour_X4_tour : GoodIn wsL_tour (wsV RL 32 RX4 yX4_tour wsX4_tour) := goodIn_app (goodIn_of _ (by decide +kernel)) ggL_tour_X4_tour
theorem dL_tour_0 : decode cL_tour 0 = .ok (.aload_n 2, 1) := by decide +kernel
theorem dL_tour_1 : decode cL_tour 1 = .ok (.iconst 0, 1) := by decide +kernel
theorem dL_tour_2 : decode cL_tour 2 = .ok (.aload_n 0, 1) := by decide +kernel
theorem dL_tour_3 : decode cL_tour 3 = .ok (.iload_n 1, 1) := by decide +kernel
theorem dL_tour_4 : decode cL_tour 4 = .ok (.invokevirtual 32, 3) := by decide +kernel
theorem dL_tour_7 : decode cL_tour 7 = .ok (.i2l, 1) := by decide +kernel
theorem dL_tour_8 : decode cL_tour 8 = .ok (.lastore, 1) := by decide +kernel
theorem dL_tour_9 : decode cL_tour 9 = .ok (.goto 9, 3) := by decide +kernel
theorem dL_tour_12 : decode cL_tour 12 = .ok (.astore_n 3, 1) := by decide +kernel
theorem dL_tour_13 : decode cL_tour 13 = .ok (.iconst 1, 1) := by decide +kernel
theorem dL_tour_14 : decode cL_tour 14 = .ok (.ireturn, 1) := by decide +kernel
theorem dL_tour_15 : decode cL_tour 15 = .ok (.astore_n 3, 1) := by decide +kernel
theorem dL_tour_16 : decode cL_tour 16 = .ok (.iconst 2, 1) := by decide +kernel
theorem dL_tour_17 : decode cL_tour 17 = .ok (.ireturn, 1) := by decide +kernel
theorem dL_tour_18 : decode cL_tour 18 = .ok (.iconst 0, 1) := by decide +kernel
theorem dL_tour_19 : decode cL_tour 19 = .ok (.ireturn, 1) := by decide +kernel
set_option maxRecDepth 20000 in
theorem ggL_add_X4_add : GoodIn wsL_add wsX4_add := goodIn_ca (goodIn_ca (goodIn_r _ [7, 8, 9, 10, 11, 12, 13, 6, 14, 15, 16, 17, 18, 19, 20, 21, 22, 23, 24, 25, 26, 27, 28, 29, 30, 31, 32, 33, 34, 35, 36, 37, 38, 39, 40, 41, 42, 43, 44, 45, 46, 47, 48, 49, 50, 51, 52, 53, 54, 55, 56, 57, 58, 59, 60, 61, 62, 63, 64, 65, 66, 67, 68, 69, 70, 71, 72, 73, 74, 75, 76, 77, 78, 79, 80, 81, 82, 83] (by decide +kernel) (by decide +kernel)) (goodIn_sub (fun _ h => List.mem_cons_of_mem _ (List.mem_append_left _ (List.mem_append_right _ h))) (by decide +kernel))) (goodIn_sub (fun _ h => List.mem_cons_of_mem _ (List.mem_append_right _ h)) (by decide +kernel))
set_option maxRecDepth 20000 in
theorem gL_add_X4_add : GoodIn wsL_add (wsV RL 36 RX4 yX4_add wsX4_add) := goodIn_app (goodIn_of _ (by decide +kernel)) ggL_add_X4_add
theorem dL_add_0 : decode cL_add 0 = .ok (.aload_n 3, 1) := by decide +kernel
theorem dL_add_1 : decode cL_add 1 = .ok (.iconst 0, 1) := by decide +kernel
theorem dL_add_2 : decode cL_add 2 = .ok (.aload_n 0, 1) := by decide +kernel
theorem dL_add_3 : decode cL_add 3 = .ok (.iload_n 1, 1) := by decide +kernel
theorem dL_add_4 : decode cL_add 4 = .ok (.iload_n 2, 1) := by decide +kernel
theorem dL_add_5 : decode cL_add 5 = .ok (.invokevirtual 36, 3) := by decide +kernel
theorem dL_add_8 : decode cL_add 8 = .ok (.i2l, 1) := by decide +kernel
theorem dL_add_9 : decode cL_add 9 = .ok (.lastore, 1) := by decide +kernel
theorem dL_add_10 : decode cL_add 10 = .ok (.goto 11, 3) := by decide +kernel
theorem dL_add_13 : decode cL_add 13 = .ok (.astore 4, 2) := by decide +kernel
theorem dL_add_15 : decode cL_add 15 = .ok (.iconst 1, 1) := by decide +kernel
theorem dL_add_16 : decode cL_add 16 = .ok (.ireturn, 1) := by decide +kernel
theorem dL_add_17 : decode cL_add 17 = .ok (.astore 4, 2) := by decide +kernel
theorem dL_add_19 : decode cL_add 19 = .ok (.iconst 2, 1) := by decide +kernel
theorem dL_add_20 : decode cL_add 20 = .ok (.ireturn, 1) := by decide +kernel
theorem dL_add_21 : decode cL_add 21 = .ok (.iconst 0, 1) := by decide +kernel
theorem dL_add_22 : decode cL_add 22 = .ok (.ireturn, 1) := by decide +kernel
set_option maxRecDepth 20000 in
theorem ggL_cut_X4_cut : GoodIn wsL_cut wsX4_cut := goodIn_ca (goodIn_ca (goodIn_r _ [7, 8, 9, 10, 11, 12, 13, 6, 14, 15, 16, 17, 18, 19, 20, 21, 22, 23, 24, 25, 26, 27, 28, 29, 30, 31, 32, 33, 34, 35, 36, 37, 38, 39, 40, 41, 42, 43, 44, 45, 46, 47, 48, 49, 50, 51, 52, 53, 54, 55, 56, 57, 58, 59, 60, 61, 62, 63, 64, 65, 66, 67, 68, 69, 70, 71, 72, 73, 74, 75] (by decide +kernel) (by decide +kernel)) (goodIn_sub (fun _ h => List.mem_cons_of_mem _ (List.mem_append_left _ (List.mem_append_right _ h))) (by decide +kernel))) (goodIn_sub (fun _ h => List.mem_cons_of_mem _ (List.mem_append_right _ h)) (by decide +kernel))
set_option maxRecDepth 20000 in
theorem gL_cut_X4_cut : GoodIn wsL_cut (wsV RL 39 RX4 yX4_cut wsX4_cut) := goodIn_app (goodIn_of _ (by decide +kernel)) ggL_cut_X4_cut
theorem dL_cut_0 : decode cL_cut 0 = .ok (.aload_n 2, 1) := by decide +kernel
theorem dL_cut_1 : decode cL_cut 1 = .ok (.iconst 0, 1) := by decide +kernel
theorem dL_cut_2 : decode cL_cut 2 = .ok (.aload_n 0, 1) := by decide +kernel
theorem dL_cut_3 : decode cL_cut 3 = .ok (.iload_n 1, 1) := by decide +kernel
theorem dL_cut_4 : decode cL_cut 4 = .ok (.invokevirtual 39, 3) := by decide +kernel
theorem dL_cut_7 : decode cL_cut 7 = .ok (.i2l, 1) := by decide +kernel
theorem dL_cut_8 : decode cL_cut 8 = .ok (.lastore, 1) := by decide +kernel
theorem dL_cut_9 : decode cL_cut 9 = .ok (.goto 9, 3) := by decide +kernel
theorem dL_cut_12 : decode cL_cut 12 = .ok (.astore_n 3, 1) := by decide +kernel
theorem dL_cut_13 : decode cL_cut 13 = .ok (.iconst 1, 1) := by decide +kernel
theorem dL_cut_14 : decode cL_cut 14 = .ok (.ireturn, 1) := by decide +kernel
theorem dL_cut_15 : decode cL_cut 15 = .ok (.astore_n 3, 1) := by decide +kernel
theorem dL_cut_16 : decode cL_cut 16 = .ok (.iconst 2, 1) := by decide +kernel
theorem dL_cut_17 : decode cL_cut 17 = .ok (.ireturn, 1) := by decide +kernel
theorem dL_cut_18 : decode cL_cut 18 = .ok (.iconst 0, 1) := by decide +kernel
theorem dL_cut_19 : decode cL_cut 19 = .ok (.ireturn, 1) := by decide +kernel
set_option maxRecDepth 20000 in
theorem ggL_told_X4_told : GoodIn wsL_told wsX4_told := goodIn_ca (goodIn_r _ [6, 7, 8, 9, 10, 11, 12, 13, 5, 14, 15, 16, 17, 18, 19, 20, 21, 22, 23, 24, 25, 26, 27, 28, 29, 30, 31, 32, 33, 34, 35, 36, 37, 38, 39, 40, 41, 42, 43, 44, 45, 46, 47, 48, 49, 50, 51, 52, 53, 54, 55, 56, 57, 58, 59, 60, 61, 62, 63, 64, 65, 66, 67, 68] (by decide +kernel) (by decide +kernel)) (goodIn_sub (fun _ h => List.mem_cons_of_mem _ (List.mem_append_right _ h)) (by decide +kernel))
set_option maxRecDepth 20000 in
theorem gL_told_X4_told : GoodIn wsL_told (wsV RL 42 RX4 yX4_told wsX4_told) := goodIn_app (goodIn_of _ (by decide +kernel)) ggL_told_X4_told
theorem dL_told_0 : decode cL_told 0 = .ok (.aload_n 3, 1) := by decide +kernel
theorem dL_told_1 : decode cL_told 1 = .ok (.iconst 0, 1) := by decide +kernel
theorem dL_told_2 : decode cL_told 2 = .ok (.aload_n 0, 1) := by decide +kernel
theorem dL_told_3 : decode cL_told 3 = .ok (.iload_n 1, 1) := by decide +kernel
theorem dL_told_4 : decode cL_told 4 = .ok (.iload_n 2, 1) := by decide +kernel
theorem dL_told_5 : decode cL_told 5 = .ok (.invokevirtual 42, 3) := by decide +kernel
theorem dL_told_8 : decode cL_told 8 = .ok (.i2l, 1) := by decide +kernel
theorem dL_told_9 : decode cL_told 9 = .ok (.lastore, 1) := by decide +kernel
theorem dL_told_10 : decode cL_told 10 = .ok (.goto 7, 3) := by decide +kernel
theorem dL_told_13 : decode cL_told 13 = .ok (.astore 4, 2) := by decide +kernel
theorem dL_told_15 : decode cL_told 15 = .ok (.iconst 1, 1) := by decide +kernel
theorem dL_told_16 : decode cL_told 16 = .ok (.ireturn, 1) := by decide +kernel
theorem dL_told_17 : decode cL_told 17 = .ok (.iconst 0, 1) := by decide +kernel
theorem dL_told_18 : decode cL_told 18 = .ok (.ireturn, 1) := by decide +kernel
set_option maxRecDepth 20000 in
theorem ggL_about_X4_about : GoodIn wsL_about wsX4_about := goodIn_ca (goodIn_r _ [6, 7, 8, 9, 10, 11, 12, 13, 5, 14, 15, 16, 17, 18, 19, 20, 21, 22, 23, 24, 25, 26, 27, 28, 29, 30, 31, 32, 33, 34, 35, 36, 37, 38, 39] (by decide +kernel) (by decide +kernel)) (goodIn_sub (fun _ h => List.mem_cons_of_mem _ (List.mem_append_right _ h)) (by decide +kernel))
set_option maxRecDepth 20000 in
theorem gL_about_X4_about : GoodIn wsL_about (wsV RL 45 RX4 yX4_about wsX4_about) := goodIn_app (goodIn_of _ (by decide +kernel)) ggL_about_X4_about
theorem dL_about_0 : decode cL_about 0 = .ok (.aload_n 3, 1) := by decide +kernel
theorem dL_about_1 : decode cL_about 1 = .ok (.iconst 0, 1) := by decide +kernel
theorem dL_about_2 : decode cL_about 2 = .ok (.aload_n 0, 1) := by decide +kernel
theorem dL_about_3 : decode cL_about 3 = .ok (.iload_n 1, 1) := by decide +kernel
theorem dL_about_4 : decode cL_about 4 = .ok (.iload_n 2, 1) := by decide +kernel
theorem dL_about_5 : decode cL_about 5 = .ok (.invokevirtual 45, 3) := by decide +kernel
theorem dL_about_8 : decode cL_about 8 = .ok (.i2l, 1) := by decide +kernel
theorem dL_about_9 : decode cL_about 9 = .ok (.lastore, 1) := by decide +kernel
theorem dL_about_10 : decode cL_about 10 = .ok (.goto 7, 3) := by decide +kernel
theorem dL_about_13 : decode cL_about 13 = .ok (.astore 4, 2) := by decide +kernel
theorem dL_about_15 : decode cL_about 15 = .ok (.iconst 1, 1) := by decide +kernel
theorem dL_about_16 : decode cL_about 16 = .ok (.ireturn, 1) := by decide +kernel
theorem dL_about_17 : decode cL_about 17 = .ok (.iconst 0, 1) := by decide +kernel
theorem dL_about_18 : decode cL_about 18 = .ok (.ireturn, 1) := by decide +kernel
set_option maxRecDepth 20000 in
theorem ggL_count_X4_count : GoodIn wsL_count wsX4_count := goodIn_ca (goodIn_r _ [6, 7, 8, 9, 10, 11, 12, 13, 14, 15, 16, 5, 17, 18, 19, 20, 21, 22, 23, 24, 25, 26, 27, 28, 29, 30, 31, 32, 33, 34, 35, 36, 37, 38, 39, 40, 41, 42, 43, 44, 45, 46, 47, 48, 49, 50, 51, 52, 53, 54, 55, 56, 57, 58, 59, 60, 61, 62, 63, 64] (by decide +kernel) (by decide +kernel)) (goodIn_sub (fun _ h => List.mem_cons_of_mem _ (List.mem_append_right _ h)) (by decide +kernel))
set_option maxRecDepth 20000 in
theorem gL_count_X4_count : GoodIn wsL_count (wsV RL 48 RX4 yX4_count wsX4_count) := goodIn_app (goodIn_of _ (by decide +kernel)) ggL_count_X4_count
theorem dL_count_0 : decode cL_count 0 = .ok (.aload_n 2, 1) := by decide +kernel
theorem dL_count_1 : decode cL_count 1 = .ok (.iconst 0, 1) := by decide +kernel
theorem dL_count_2 : decode cL_count 2 = .ok (.aload_n 0, 1) := by decide +kernel
theorem dL_count_3 : decode cL_count 3 = .ok (.iload_n 1, 1) := by decide +kernel
theorem dL_count_4 : decode cL_count 4 = .ok (.invokevirtual 48, 3) := by decide +kernel
theorem dL_count_7 : decode cL_count 7 = .ok (.i2l, 1) := by decide +kernel
theorem dL_count_8 : decode cL_count 8 = .ok (.lastore, 1) := by decide +kernel
theorem dL_count_9 : decode cL_count 9 = .ok (.goto 6, 3) := by decide +kernel
theorem dL_count_12 : decode cL_count 12 = .ok (.astore_n 3, 1) := by decide +kernel
theorem dL_count_13 : decode cL_count 13 = .ok (.iconst 1, 1) := by decide +kernel
theorem dL_count_14 : decode cL_count 14 = .ok (.ireturn, 1) := by decide +kernel
theorem dL_count_15 : decode cL_count 15 = .ok (.iconst 0, 1) := by decide +kernel
theorem dL_count_16 : decode cL_count 16 = .ok (.ireturn, 1) := by decide +kernel
set_option maxRecDepth 20000 in
theorem ggL_pass_X4_pass : GoodIn wsL_pass wsX4_pass := goodIn_ca (goodIn_r _ [6, 7, 8, 9, 10, 5, 11, 12, 13, 14, 15, 16, 17, 18, 19, 20, 21, 22, 23, 24, 25, 26, 27, 28, 29, 30, 31, 32, 33, 34, 35, 36, 37, 38, 39, 40, 41, 42, 43, 44, 45, 46, 47, 48, 49, 50, 51, 52, 53, 54, 55, 56, 57, 58, 59, 60, 61, 62, 63, 64, 65, 66, 67, 68, 69, 70, 71, 72, 73, 74, 75, 76, 77, 78, 79, 80, 81, 82, 83, 84, 85] (by decide +kernel) (by decide +kernel)) (goodIn_sub (fun _ h => List.mem_cons_of_mem _ (List.mem_append_right _ h)) (by decide +kernel))
set_option maxRecDepth 20000 in
theorem gL_pass_X4_pass : GoodIn wsL_pass (wsV RL 51 RX4 yX4_pass wsX4_pass) := goodIn_app (goodIn_of _ (by decide +kernel)) ggL_pass_X4_pass
theorem dL_pass_0 : decode cL_pass 0 = .ok (.aload_n 2, 1) := by decide +kernel
theorem dL_pass_1 : decode cL_pass 1 = .ok (.iconst 0, 1) := by decide +kernel
theorem dL_pass_2 : decode cL_pass 2 = .ok (.aload_n 0, 1) := by decide +kernel
theorem dL_pass_3 : decode cL_pass 3 = .ok (.iload_n 1, 1) := by decide +kernel
theorem dL_pass_4 : decode cL_pass 4 = .ok (.invokevirtual 51, 3) := by decide +kernel
theorem dL_pass_7 : decode cL_pass 7 = .ok (.i2l, 1) := by decide +kernel
theorem dL_pass_8 : decode cL_pass 8 = .ok (.lastore, 1) := by decide +kernel
theorem dL_pass_9 : decode cL_pass 9 = .ok (.goto 6, 3) := by decide +kernel
theorem dL_pass_12 : decode cL_pass 12 = .ok (.astore_n 3, 1) := by decide +kernel
theorem dL_pass_13 : decode cL_pass 13 = .ok (.iconst 1, 1) := by decide +kernel
theorem dL_pass_14 : decode cL_pass 14 = .ok (.ireturn, 1) := by decide +kernel
theorem dL_pass_15 : decode cL_pass 15 = .ok (.iconst 0, 1) := by decide +kernel
theorem dL_pass_16 : decode cL_pass 16 = .ok (.ireturn, 1) := by decide +kernel
set_option maxRecDepth 20000 in
theorem ggL_joy_X4_joy : GoodIn wsL_joy wsX4_joy := goodIn_ca (goodIn_ca (goodIn_r _ [7, 8, 9, 10, 11, 6, 12, 13, 14, 15, 16, 17, 18, 19, 20, 21, 22, 23, 24, 25, 26, 27, 28, 29, 30, 31, 32, 33, 34, 35, 36, 37, 38, 39, 40, 41, 42, 43, 44, 45, 46, 47, 48, 49, 50, 51, 52, 53, 54, 55, 56, 57, 58, 59, 60, 61, 62, 63, 64, 65, 66, 67, 68, 69] (by decide +kernel) (by decide +kernel)) (goodIn_sub (fun _ h => List.mem_cons_of_mem _ (List.mem_append_left _ (List.mem_append_right _ h))) (by decide +kernel))) (goodIn_sub (fun _ h => List.mem_cons_of_mem _ (List.mem_append_right _ h)) (by decide +kernel))
set_option maxRecDepth 20000 in
theorem gL_joy_X4_joy : GoodIn wsL_joy (wsV RL 54 RX4 yX4_joy wsX4_joy) := goodIn_app (goodIn_of _ (by decide +kernel)) ggL_joy_X4_joy
theorem dL_joy_0 : decode cL_joy 0 = .ok (.aload_n 3, 1) := by decide +kernel
theorem dL_joy_1 : decode cL_joy 1 = .ok (.iconst 0, 1) := by decide +kernel
theorem dL_joy_2 : decode cL_joy 2 = .ok (.aload_n 0, 1) := by decide +kernel
theorem dL_joy_3 : decode cL_joy 3 = .ok (.iload_n 1, 1) := by decide +kernel
theorem dL_joy_4 : decode cL_joy 4 = .ok (.iload_n 2, 1) := by decide +kernel
theorem dL_joy_5 : decode cL_joy 5 = .ok (.invokevirtual 54, 3) := by decide +kernel
theorem dL_joy_8 : decode cL_joy 8 = .ok (.i2l, 1) := by decide +kernel
theorem dL_joy_9 : decode cL_joy 9 = .ok (.lastore, 1) := by decide +kernel
theorem dL_joy_10 : decode cL_joy 10 = .ok (.goto 11, 3) := by decide +kernel
theorem dL_joy_13 : decode cL_joy 13 = .ok (.astore 4, 2) := by decide +kernel
theorem dL_joy_15 : decode cL_joy 15 = .ok (.iconst 1, 1) := by decide +kernel
theorem dL_joy_16 : decode cL_joy 16 = .ok (.ireturn, 1) := by decide +kernel
theorem dL_joy_17 : decode cL_joy 17 = .ok (.astore 4, 2) := by decide +kernel
theorem dL_joy_19 : decode cL_joy 19 = .ok (.iconst 2, 1) := by decide +kernel
theorem dL_joy_20 : decode cL_joy 20 = .ok (.ireturn, 1) := by decide +kernel
theorem dL_joy_21 : decode cL_joy 21 = .ok (.iconst 0, 1) := by decide +kernel
theorem dL_joy_22 : decode cL_joy 22 = .ok (.ireturn, 1) := by decide +kernel
set_option maxRecDepth 20000 in
theorem ggL_best_X4_best : GoodIn wsL_best wsX4_best := goodIn_ca (goodIn_r _ [6, 7, 8, 9, 10, 11, 5, 12, 13, 14, 15, 16, 17, 18, 19, 20, 21, 22, 23, 24, 25, 26, 27, 28, 29, 30, 31, 32, 33, 34, 35, 36, 37, 38, 39, 40, 41, 42, 43, 44, 45, 46, 47, 48, 49, 50, 51, 52, 53, 54, 55, 56, 57, 58, 59, 60, 61, 62, 63, 64] (by decide +kernel) (by decide +kernel)) (goodIn_sub (fun _ h => List.mem_cons_of_mem _ (List.mem_append_right _ h)) (by decide +kernel))
set_option maxRecDepth 20000 in
theorem gL_best_X4_best : GoodIn wsL_best (wsV RL 57 RX4 yX4_best wsX4_best) := goodIn_app (goodIn_of _ (by decide +kernel)) ggL_best_X4_best
theorem dL_best_0 : decode cL_best 0 = .ok (.aload_n 2, 1) := by decide +kernel
theorem dL_best_1 : decode cL_best 1 = .ok (.iconst 0, 1) := by decide +kernel
theorem dL_best_2 : decode cL_best 2 = .ok (.aload_n 0, 1) := by decide +kernel
theorem dL_best_3 : decode cL_best 3 = .ok (.iload_n 1, 1) := by decide +kernel
theorem dL_best_4 : decode cL_best 4 = .ok (.invokevirtual 57, 3) := by decide +kernel
theorem dL_best_7 : decode cL_best 7 = .ok (.i2l, 1) := by decide +kernel
theorem dL_best_8 : decode cL_best 8 = .ok (.lastore, 1) := by decide +kernel
theorem dL_best_9 : decode cL_best 9 = .ok (.goto 6, 3) := by decide +kernel
theorem dL_best_12 : decode cL_best 12 = .ok (.astore_n 3, 1) := by decide +kernel
theorem dL_best_13 : decode cL_best 13 = .ok (.iconst 1, 1) := by decide +kernel
theorem dL_best_14 : decode cL_best 14 = .ok (.ireturn, 1) := by decide +kernel
theorem dL_best_15 : decode cL_best 15 = .ok (.iconst 0, 1) := by decide +kernel
theorem dL_best_16 : decode cL_best 16 = .ok (.ireturn, 1) := by decide +kernel
set_option maxRecDepth 20000 in
theorem ggL_advise_X4_advise : GoodIn wsL_advise wsX4_advise := goodIn_ca (goodIn_r _ [6, 7, 8, 9, 10, 11, 12, 5, 13, 14, 15, 16, 17, 18, 19, 20, 21, 22, 23, 24, 25, 26, 27, 28, 29, 30, 31, 32, 33, 34, 35, 36, 37, 38, 39, 40, 41, 42, 43, 44, 45, 46, 47, 48, 49, 50, 51, 52, 53, 54, 55, 56, 57, 58, 59, 60, 61, 62, 63, 64, 65, 66, 67, 68, 69, 70, 71, 72, 73, 74, 75, 76, 77, 78, 79, 80, 81, 82, 83, 84, 85, 86, 87, 88, 89, 90, 91, 92, 93, 94, 95, 96, 97, 98, 99, 100, 101] (by decide +kernel) (by decide +kernel)) (goodIn_sub (fun _ h => List.mem_cons_of_mem _ (List.mem_append_right _ h)) (by decide +kernel))
set_option maxRecDepth 20000 in
theorem gL_advise_X4_advise : GoodIn wsL_advise (wsV RL 60 RX4 yX4_advise wsX4_advise) := goodIn_app (goodIn_of _ (by decide +kernel)) ggL_advise_X4_advise
theorem dL_advise_0 : decode cL_advise 0 = .ok (.aload_n 2, 1) := by decide +kernel
theorem dL_advise_1 : decode cL_advise 1 = .ok (.iconst 0, 1) := by decide +kernel
theorem dL_advise_2 : decode cL_advise 2 = .ok (.aload_n 0, 1) := by decide +kernel
theorem dL_advise_3 : decode cL_advise 3 = .ok (.iload_n 1, 1) := by decide +kernel
theorem dL_advise_4 : decode cL_advise 4 = .ok (.invokevirtual 60, 3) := by decide +kernel
theorem dL_advise_7 : decode cL_advise 7 = .ok (.i2l, 1) := by decide +kernel
theorem dL_advise_8 : decode cL_advise 8 = .ok (.lastore, 1) := by decide +kernel
theorem dL_advise_9 : decode cL_advise 9 = .ok (.goto 6, 3) := by decide +kernel
theorem dL_advise_12 : decode cL_advise 12 = .ok (.astore_n 3, 1) := by decide +kernel
theorem dL_advise_13 : decode cL_advise 13 = .ok (.iconst 1, 1) := by decide +kernel
theorem dL_advise_14 : decode cL_advise 14 = .ok (.ireturn, 1) := by decide +kernel
theorem dL_advise_15 : decode cL_advise 15 = .ok (.iconst 0, 1) := by decide +kernel
theorem dL_advise_16 : decode cL_advise 16 = .ok (.ireturn, 1) := by decide +kernel
set_option maxRecDepth 20000 in
theorem ggL_foresee_X4_foresee : GoodIn wsL_foresee wsX4_foresee := goodIn_ca (goodIn_ca (goodIn_r _ [7, 8, 9, 10, 11, 12, 13, 14, 6, 15, 16, 17, 18, 19, 20, 21, 22, 23, 24, 25, 26, 27, 28, 29, 30, 31, 32, 33, 34, 35, 36, 37, 38, 39, 40, 41, 42, 43, 44, 45, 46, 47, 48, 49, 50, 51, 52, 53, 54, 55, 56, 57, 58, 59, 60, 61, 62, 63, 64, 65, 66, 67, 68, 69, 70, 71, 72, 73, 74, 75, 76, 77, 78, 79, 80, 81, 82, 83, 84, 85, 86, 87, 88, 89, 90, 91, 92, 93, 94, 95, 96, 97, 98, 99, 100] (by decide +kernel) (by decide +kernel)) (goodIn_sub (fun _ h => List.mem_cons_of_mem _ (List.mem_append_left _ (List.mem_append_right _ h))) (by decide +kernel))) (goodIn_sub (fun _ h => List.mem_cons_of_mem _ (List.mem_append_right _ h)) (by decide +kernel))
set_option maxRecDepth 20000 in
theorem gL_foresee_X4_foresee : GoodIn wsL_foresee (wsV RL 63 RX4 yX4_foresee wsX4_foresee) := goodIn_app (goodIn_of _ (by decide +kernel)) ggL_foresee_X4_foresee
theorem dL_foresee_0 : decode cL_foresee 0 = .ok (.aload_n 3, 1) := by decide +kernel
theorem dL_foresee_1 : decode cL_foresee 1 = .ok (.iconst 0, 1) := by decide +kernel
theorem dL_foresee_2 : decode cL_foresee 2 = .ok (.aload_n 0, 1) := by decide +kernel
theorem dL_foresee_3 : decode cL_foresee 3 = .ok (.iload_n 1, 1) := by decide +kernel
theorem dL_foresee_4 : decode cL_foresee 4 = .ok (.iload_n 2, 1) := by decide +kernel
theorem dL_foresee_5 : decode cL_foresee 5 = .ok (.invokevirtual 63, 3) := by decide +kernel
theorem dL_foresee_8 : decode cL_foresee 8 = .ok (.i2l, 1) := by decide +kernel
theorem dL_foresee_9 : decode cL_foresee 9 = .ok (.lastore, 1) := by decide +kernel
theorem dL_foresee_10 : decode cL_foresee 10 = .ok (.goto 11, 3) := by decide +kernel
theorem dL_foresee_13 : decode cL_foresee 13 = .ok (.astore 4, 2) := by decide +kernel
theorem dL_foresee_15 : decode cL_foresee 15 = .ok (.iconst 1, 1) := by decide +kernel
theorem dL_foresee_16 : decode cL_foresee 16 = .ok (.ireturn, 1) := by decide +kernel
theorem dL_foresee_17 : decode cL_foresee 17 = .ok (.astore 4, 2) := by decide +kernel
theorem dL_foresee_19 : decode cL_foresee 19 = .ok (.iconst 2, 1) := by decide +kernel
theorem dL_foresee_20 : decode cL_foresee 20 = .ok (.ireturn, 1) := by decide +kernel
theorem dL_foresee_21 : decode cL_foresee 21 = .ok (.iconst 0, 1) := by decide +kernel
theorem dL_foresee_22 : decode cL_foresee 22 = .ok (.ireturn, 1) := by decide +kernel
set_option maxRecDepth 20000 in
theorem ggL_law_X4_init : GoodIn wsL_law wsX4_init := goodIn_r _ [9, 10, 11, 12, 13, 14, 15, 16, 17, 18, 19, 20, 21, 22, 23, 24, 25, 26, 27, 28, 29, 30, 31, 32, 33, 34, 35, 36, 37, 38, 39, 40, 41, 42, 43, 44, 45, 46, 47, 474, 475, 476, 477, 478, 479, 480, 481, 482, 496, 497, 498, 499, 500, 501, 502, 503, 504, 505, 506, 507, 508, 509] (by decide +kernel) (by decide +kernel)
set_option maxRecDepth 20000 in
theorem gL_law_X4_init : GoodIn wsL_law (wsX4_init) := ggL_law_X4_init
set_option maxRecDepth 20000 in
theorem ggL_law_X5_init : GoodIn wsL_law wsX5_init := goodIn_r _ [50, 51, 11, 12, 17, 52, 53, 54, 55, 56, 57, 58, 59, 60, 483, 484, 485, 486, 487, 488, 489, 490, 491, 492, 493, 494, 495] (by decide +kernel) (by decide +kernel)
set_option maxRecDepth 20000 in
theorem gL_law_X5_init : GoodIn wsL_law (wsX5_init) := ggL_law_X5_init
set_option maxRecDepth 20000 in
theorem ggL_law_L_valley : GoodIn wsL_law wsL_valley := goodIn_ca (goodIn_ca (goodIn_r _ [64, 65, 66, 67, 68, 69, 2, 70, 71, 72, 73, 74, 75, 14, 76, 77, 78, 474, 475, 476, 477, 478, 479, 480, 481, 482, 501, 502, 503, 504, 505] (by decide +kernel) (by decide +kernel)) (goodIn_sub (fun _ h => List.mem_append_left _ (List.mem_append_left _ (List.mem_append_right _ h))) (by decide +kernel))) (goodIn_sub (fun _ h => List.mem_append_left _ (List.mem_append_right _ h)) (by decide +kernel))
set_option maxRecDepth 20000 in
theorem gL_law_L_valley : GoodIn wsL_law (va_wsS RL 70 yL_valley wsL_valley) := goodIn_app (goodIn_of _ (by decide +kernel)) ggL_law_L_valley
set_option maxRecDepth 20000 in
theorem ggL_law_X5_valley : GoodIn wsL_law wsX5_valley := goodIn_r _ [82, 83, 84, 52, 53, 54, 85, 86, 5, 87, 88, 89, 90, 91, 483, 484, 485, 486, 487, 488, 489, 490, 491, 492, 493, 494, 495] (by decide +kernel) (by decide +kernel)
set_option maxRecDepth 20000 in
theorem gL_law_X5_valley : GoodIn wsL_law (wsV RL 75 RX5 yX5_valley wsX5_valley) := goodIn_app (goodIn_of _ (by decide +kernel)) ggL_law_X5_valley
set_option maxRecDepth 20000 in
theorem ggL_law_X5_thrown : GoodIn wsL_law wsX5_thrown := goodIn_r _ [95, 83, 483, 484, 485, 486, 487, 488, 489, 490, 491, 492, 493, 494, 495] (by decide +kernel) (by decide +kernel)
set_option maxRecDepth 20000 in
theorem gL_law_X5_thrown : GoodIn wsL_law (wsV RL 76 RX5 yX5_thrown wsX5_thrown) := goodIn_app (goodIn_of _ (by decide +kernel)) ggL_law_X5_thrown
set_option maxRecDepth 20000 in
theorem ggL_law_L_road : GoodIn wsL_law wsL_road := goodIn_ca (goodIn_ca (goodIn_ca (goodIn_r _ [98, 99, 65, 66, 100, 101, 102, 2, 103, 71, 72, 73, 74, 22, 104, 105, 106, 107, 108, 109, 75, 76, 77, 78, 110, 21, 111, 112, 36, 113, 114, 115, 116, 117, 118, 119, 120, 121, 122, 123, 124, 14, 125, 16, 126, 31, 127, 128, 129, 47, 130, 131, 132, 133, 37, 134, 135, 136, 137, 138, 139, 140, 141, 142, 143, 474, 475, 476, 477, 478, 479, 480, 481, 482, 496, 497, 501, 502, 503, 504, 505, 506, 507, 508, 509] (by decide +kernel) (by decide +kernel)) (goodIn_sub (fun _ h => List.mem_append_left _ (List.mem_append_left _ (List.mem_append_right _ h))) (by decide +kernel))) (goodIn_sub (fun _ h => List.mem_append_left _ (List.mem_append_right _ h)) (by decide +kernel))) (goodIn_sub (fun _ h => List.mem_append_right _ h) (by decide +kernel))
set_option maxRecDepth 20000 in
theorem gL_law_L_road : GoodIn wsL_law (va_wsS RL 80 yL_road wsL_road) := goodIn_app (goodIn_of _ (by decide +kernel)) ggL_law_L_road
set_option maxRecDepth 20000 in
theorem ggL_law_X5_road : GoodIn wsL_law wsX5_road := goodIn_r _ [147, 83, 148, 149, 150, 151, 5, 152, 84, 85, 86, 87, 88, 89, 90, 91, 153, 154, 155, 156, 55, 483, 484, 485, 486, 487, 488, 489, 490, 491, 492, 493, 494, 495] (by decide +kernel) (by decide +kernel)
set_option maxRecDepth 20000 in
theorem gL_law_X5_road : GoodIn wsL_law (wsV RL 82 RX5 yX5_road wsX5_road) := goodIn_app (goodIn_of _ (by decide +kernel)) ggL_law_X5_road
set_option maxRecDepth 20000 in
theorem ggL_law_L_setHeat : GoodIn wsL_law wsL_setHeat := goodIn_ca (goodIn_ca (goodIn_r _ [159, 99, 65, 160, 161, 162, 2, 163, 108, 109, 71, 72, 18, 76, 77, 78, 474, 475, 476, 477, 478, 479, 480, 481, 482] (by decide +kernel) (by decide +kernel)) (goodIn_sub (fun _ h => List.mem_append_right _ h) (by decide +kernel))) (goodIn_sub (fun _ h => List.mem_append_left _ (List.mem_append_left _ (List.mem_append_right _ h))) (by decide +kernel))
set_option maxRecDepth 20000 in
theorem gL_law_L_setHeat : GoodIn wsL_law (va_wsS RL 83 yL_setHeat wsL_setHeat) := goodIn_app (goodIn_of _ (by decide +kernel)) ggL_law_L_setHeat
set_option maxRecDepth 20000 in
theorem ggL_law_X5_setHeat : GoodIn wsL_law wsX5_setHeat := goodIn_r _ [167, 83, 56, 85, 86, 5, 87, 88, 89, 90, 91, 483, 484, 485, 486, 487, 488, 489, 490, 491, 492, 493, 494, 495] (by decide +kernel) (by decide +kernel)
set_option maxRecDepth 20000 in
theorem gL_law_X5_setHeat : GoodIn wsL_law (wsV RL 86 RX5 yX5_setHeat wsX5_setHeat) := goodIn_app (goodIn_of _ (by decide +kernel)) ggL_law_X5_setHeat
set_option maxRecDepth 20000 in
theorem ggL_law_L_bloom : GoodIn wsL_law wsL_bloom := goodIn_ca (goodIn_ca (goodIn_r _ [170, 99, 65, 171, 172, 173, 2, 174, 14, 104, 105, 106, 107, 108, 109, 75, 175, 176, 177, 71, 72, 178, 29, 179, 180, 181, 182, 183, 114, 115, 116, 474, 475, 476, 477, 478, 479, 480, 481, 482, 501, 502, 503, 504, 505] (by decide +kernel) (by decide +kernel)) (goodIn_sub (fun _ h => List.mem_append_right _ h) (by decide +kernel))) (goodIn_sub (fun _ h => List.mem_append_left _ (List.mem_append_left _ (List.mem_append_right _ h))) (by decide +kernel))
set_option maxRecDepth 20000 in
theorem gL_law_L_bloom : GoodIn wsL_law (va_wsS RL 87 yL_bloom wsL_bloom) := goodIn_app (goodIn_of _ (by decide +kernel)) ggL_law_L_bloom
set_option maxRecDepth 20000 in
theorem ggL_law_X5_bloom : GoodIn wsL_law wsX5_bloom := goodIn_r _ [187, 83, 149, 150, 151, 5, 152, 84, 85, 86, 87, 88, 89, 90, 91, 188, 189, 190, 191, 52, 53, 192, 114, 115, 116, 483, 484, 485, 486, 487, 488, 489, 490, 491, 492, 493, 494, 495] (by decide +kernel) (by decide +kernel)
set_option maxRecDepth 20000 in
theorem gL_law_X5_bloom : GoodIn wsL_law (wsV RL 89 RX5 yX5_bloom wsX5_bloom) := goodIn_app (goodIn_of _ (by decide +kernel)) ggL_law_X5_bloom
set_option maxRecDepth 20000 in
theorem ggL_law_L_way : GoodIn wsL_law wsL_way := goodIn_ca (goodIn_r _ [195, 99, 196, 197, 198, 2, 199, 22, 104, 105, 106, 107, 108, 109, 75, 131, 21, 132, 133, 36, 37, 118, 119, 120, 77, 78, 474, 475, 476, 477, 478, 479, 480, 481, 482, 496, 497] (by decide +kernel) (by decide +kernel)) (goodIn_sub (fun _ h => List.mem_append_right _ h) (by decide +kernel))
set_option maxRecDepth 20000 in
theorem gL_law_L_way : GoodIn wsL_law (va_wsS RL 90 yL_way wsL_way) := goodIn_app (goodIn_of _ (by decide +kernel)) ggL_law_L_way
set_option maxRecDepth 20000 in
theorem ggL_law_X5_way : GoodIn wsL_law wsX5_way := goodIn_r _ [203, 83, 55, 149, 150, 151, 5, 152, 84, 85, 86, 87, 88, 89, 90, 91, 483, 484, 485, 486, 487, 488, 489, 490, 491, 492, 493, 494, 495] (by decide +kernel) (by decide +kernel)
set_option maxRecDepth 20000 in
theorem gL_law_X5_way : GoodIn wsL_law (wsV RL 92 RX5 yX5_way wsX5_way) := goodIn_app (goodIn_of _ (by decide +kernel)) ggL_law_X5_way
set_option maxRecDepth 20000 in
theorem ggL_law_L_tour : GoodIn wsL_law wsL_tour := goodIn_ca (goodIn_ca (goodIn_r _ [206, 65, 66, 207, 208, 209, 2, 210, 71, 72, 73, 74, 125, 16, 76, 77, 78, 474, 475, 476, 477, 478, 479, 480, 481, 482, 506, 507, 508, 509] (by decide +kernel) (by decide +kernel)) (goodIn_sub (fun _ h => List.mem_append_left _ (List.mem_append_left _ (List.mem_append_right _ h))) (by decide +kernel))) (goodIn_sub (fun _ h => List.mem_append_left _ (List.mem_append_right _ h)) (by decide +kernel))
set_option maxRecDepth 20000 in
theorem gL_law_L_tour : GoodIn wsL_law (va_wsS RL 93 yL_tour wsL_tour) := goodIn_app (goodIn_of _ (by decide +kernel)) ggL_law_L_tour
set_option maxRecDepth 20000 in
theorem ggL_law_X5_tour : GoodIn wsL_law wsX5_tour := goodIn_r _ [214, 83, 215, 57, 85, 86, 5, 87, 88, 89, 90, 91, 483, 484, 485, 486, 487, 488, 489, 490, 491, 492, 493, 494, 495] (by decide +kernel) (by decide +kernel)
set_option maxRecDepth 20000 in
theorem gL_law_X5_tour : GoodIn wsL_law (wsV RL 96 RX5 yX5_tour wsX5_tour) := goodIn_app (goodIn_of _ (by decide +kernel)) ggL_law_X5_tour
set_option maxRecDepth 20000 in
theorem ggL_law_L_add : GoodIn wsL_law wsL_add := goodIn_ca (goodIn_ca (goodIn_r _ [218, 99, 66, 219, 220, 221, 2, 222, 73, 74, 16, 223, 224, 225, 226, 108, 109, 125, 104, 105, 106, 107, 75, 227, 31, 228, 229, 129, 47, 141, 142, 143, 230, 231, 232, 233, 121, 122, 123, 124, 14, 22, 126, 127, 128, 130, 131, 21, 132, 133, 36, 37, 118, 119, 120, 77, 78, 134, 135, 136, 137, 138, 139, 140, 474, 475, 476, 477, 478, 479, 480, 481, 482, 506, 507, 508, 509, 501, 502, 503, 504, 505, 496, 497] (by decide +kernel) (by decide +kernel)) (goodIn_sub (fun _ h => List.mem_append_left _ (List.mem_append_right _ h)) (by decide +kernel))) (goodIn_sub (fun _ h => List.mem_append_right _ h) (by decide +kernel))
set_option maxRecDepth 20000 in
theorem gL_law_L_add : GoodIn wsL_law (va_wsS RL 97 yL_add wsL_add) := goodIn_app (goodIn_of _ (by decide +kernel)) ggL_law_L_add
set_option maxRecDepth 20000 in
theorem ggL_law_X5_add : GoodIn wsL_law wsX5_add := goodIn_r _ [237, 83, 58, 59, 238, 239, 240, 5, 241, 215, 85, 86, 87, 149, 150, 151, 152, 84, 88, 89, 90, 91, 242, 243, 244, 245, 246, 247, 248, 249, 483, 484, 485, 486, 487, 488, 489, 490, 491, 492, 493, 494, 495] (by decide +kernel) (by decide +kernel)
set_option maxRecDepth 20000 in
theorem gL_law_X5_add : GoodIn wsL_law (wsV RL 99 RX5 yX5_add wsX5_add) := goodIn_app (goodIn_of _ (by decide +kernel)) ggL_law_X5_add
set_option maxRecDepth 20000 in
theorem ggL_law_L_cut : GoodIn wsL_law wsL_cut := goodIn_ca (goodIn_ca (goodIn_r _ [252, 99, 66, 253, 254, 255, 2, 256, 73, 74, 16, 223, 224, 225, 226, 108, 109, 125, 257, 31, 258, 259, 129, 47, 121, 122, 123, 124, 75, 14, 22, 126, 127, 128, 130, 131, 21, 132, 133, 36, 37, 118, 119, 120, 77, 78, 134, 135, 136, 137, 138, 139, 140, 141, 142, 143, 474, 475, 476, 477, 478, 479, 480, 481, 482, 506, 507, 508, 509, 501, 502, 503, 504, 505, 496, 497] (by decide +kernel) (by decide +kernel)) (goodIn_sub (fun _ h => List.mem_append_left _ (List.mem_append_right _ h)) (by decide +kernel))) (goodIn_sub (fun _ h => List.mem_append_right _ h) (by decide +kernel))
set_option maxRecDepth 20000 in
theorem gL_law_L_cut : GoodIn wsL_law (va_wsS RL 100 yL_cut wsL_cut) := goodIn_app (goodIn_of _ (by decide +kernel)) ggL_law_L_cut
set_option maxRecDepth 20000 in
theorem ggL_law_X5_cut : GoodIn wsL_law wsX5_cut := goodIn_r _ [263, 83, 58, 238, 239, 240, 5, 241, 215, 85, 86, 87, 88, 89, 90, 91, 246, 247, 248, 249, 59, 483, 484, 485, 486, 487, 488, 489, 490, 491, 492, 493, 494, 495] (by decide +kernel) (by decide +kernel)
set_option maxRecDepth 20000 in
theorem gL_law_X5_cut : GoodIn wsL_law (wsV RL 102 RX5 yX5_cut wsX5_cut) := goodIn_app (goodIn_of _ (by decide +kernel)) ggL_law_X5_cut
set_option maxRecDepth 20000 in
theorem ggL_law_L_told : GoodIn wsL_law wsL_told := goodIn_ca (goodIn_r _ [266, 99, 267, 268, 269, 2, 270, 108, 109, 16, 271, 223, 224, 225, 226, 125, 134, 31, 135, 136, 129, 130, 77, 78, 272, 273, 274, 275, 75, 14, 276, 277, 115, 278, 141, 142, 143, 47, 178, 29, 179, 180, 181, 182, 183, 114, 116, 279, 280, 281, 282, 474, 475, 476, 477, 478, 479, 480, 481, 482, 506, 507, 508, 509, 501, 502, 503, 504, 505] (by decide +kernel) (by decide +kernel)) (goodIn_sub (fun _ h => List.mem_append_right _ h) (by decide +kernel))
set_option maxRecDepth 20000 in
theorem gL_law_L_told : GoodIn wsL_law (va_wsS RL 103 yL_told wsL_told) := goodIn_app (goodIn_of _ (by decide +kernel)) ggL_law_L_told
set_option maxRecDepth 20000 in
theorem ggL_law_X5_told : GoodIn wsL_law wsX5_told := goodIn_r _ [286, 83, 238, 239, 240, 5, 241, 215, 85, 86, 87, 287, 288, 289, 290, 57, 58, 60, 291, 292, 293, 294, 55, 246, 247, 248, 249, 59, 295, 296, 297, 298, 299, 300, 301, 302, 303, 277, 115, 278, 188, 189, 190, 191, 52, 53, 192, 114, 116, 304, 305, 306, 307, 242, 243, 244, 245, 308, 309, 310, 311, 54, 88, 89, 90, 91, 483, 484, 485, 486, 487, 488, 489, 490, 491, 492, 493, 494, 495] (by decide +kernel) (by decide +kernel)
set_option maxRecDepth 20000 in
theorem gL_law_X5_told : GoodIn wsL_law (wsV RL 105 RX5 yX5_told wsX5_told) := goodIn_app (goodIn_of _ (by decide +kernel)) ggL_law_X5_told
set_option maxRecDepth 20000 in
theorem ggL_law_L_about : GoodIn wsL_law wsL_about := goodIn_ca (goodIn_r _ [314, 99, 315, 316, 317, 2, 318, 108, 109, 14, 271, 104, 105, 106, 107, 75, 178, 29, 179, 180, 181, 182, 183, 114, 115, 116, 474, 475, 476, 477, 478, 479, 480, 481, 482, 501, 502, 503, 504, 505] (by decide +kernel) (by decide +kernel)) (goodIn_sub (fun _ h => List.mem_append_right _ h) (by decide +kernel))
set_option maxRecDepth 20000 in
theorem gL_law_L_about : GoodIn wsL_law (va_wsS RL 106 yL_about wsL_about) := goodIn_app (goodIn_of _ (by decide +kernel)) ggL_law_L_about
set_option maxRecDepth 20000 in
theorem ggL_law_X5_about : GoodIn wsL_law wsX5_about := goodIn_r _ [322, 83, 149, 150, 151, 5, 152, 84, 85, 86, 87, 323, 324, 325, 326, 215, 52, 53, 54, 60, 242, 243, 244, 245, 58, 246, 247, 248, 249, 59, 295, 296, 297, 298, 291, 292, 293, 294, 55, 188, 189, 190, 191, 192, 114, 115, 116, 304, 305, 306, 307, 57, 88, 89, 90, 91, 483, 484, 485, 486, 487, 488, 489, 490, 491, 492, 493, 494, 495] (by decide +kernel) (by decide +kernel)
set_option maxRecDepth 20000 in
theorem gL_law_X5_about : GoodIn wsL_law (wsV RL 108 RX5 yX5_about wsX5_about) := goodIn_app (goodIn_of _ (by decide +kernel)) ggL_law_X5_about
set_option maxRecDepth 20000 in
theorem ggL_law_L_count : GoodIn wsL_law wsL_count := goodIn_ca (goodIn_r _ [329, 99, 330, 331, 332, 2, 333, 108, 109, 271, 75, 22, 125, 26, 334, 335, 336, 337, 16, 134, 31, 135, 136, 129, 130, 77, 78, 338, 339, 340, 341, 14, 178, 29, 179, 180, 181, 182, 183, 114, 115, 116, 474, 475, 476, 477, 478, 479, 480, 481, 482, 496, 497, 498, 499, 500, 506, 507, 508, 509, 501, 502, 503, 504, 505] (by decide +kernel) (by decide +kernel)) (goodIn_sub (fun _ h => List.mem_append_right _ h) (by decide +kernel))
set_option maxRecDepth 20000 in
theorem gL_law_L_count : GoodIn wsL_law (va_wsS RL 109 yL_count wsL_count) := goodIn_app (goodIn_of _ (by decide +kernel)) ggL_law_L_count
set_option maxRecDepth 20000 in
theorem ggL_law_X5_count : GoodIn wsL_law wsX5_count := goodIn_r _ [345, 83, 60, 85, 86, 5, 87, 346, 347, 348, 349, 84, 215, 17, 148, 188, 189, 190, 191, 52, 53, 192, 114, 115, 116, 295, 296, 297, 298, 291, 292, 293, 294, 58, 55, 246, 247, 248, 249, 59, 88, 89, 90, 91, 483, 484, 485, 486, 487, 488, 489, 490, 491, 492, 493, 494, 495] (by decide +kernel) (by decide +kernel)
set_option maxRecDepth 20000 in
theorem gL_law_X5_count : GoodIn wsL_law (wsV RL 111 RX5 yX5_count wsX5_count) := goodIn_app (goodIn_of _ (by decide +kernel)) ggL_law_X5_count
set_option maxRecDepth 20000 in
theorem ggL_law_L_pass : GoodIn wsL_law wsL_pass := goodIn_ca (goodIn_r _ [352, 65, 353, 354, 355, 2, 356, 26, 271, 357, 358, 359, 71, 72, 76, 77, 78, 360, 361, 362, 363, 364, 365, 366, 367, 18, 125, 16, 368, 369, 370, 371, 134, 31, 135, 136, 129, 130, 272, 273, 274, 275, 75, 14, 276, 277, 115, 278, 141, 142, 143, 47, 178, 29, 179, 180, 181, 182, 183, 114, 116, 279, 280, 281, 282, 474, 475, 476, 477, 478, 479, 480, 481, 482, 498, 499, 500, 506, 507, 508, 509, 501, 502, 503, 504, 505] (by decide +kernel) (by decide +kernel)) (goodIn_sub (fun _ h => List.mem_append_left _ (List.mem_append_left _ (List.mem_append_right _ h))) (by decide +kernel))
set_option maxRecDepth 20000 in
theorem gL_law_L_pass : GoodIn wsL_law (va_wsS RL 112 yL_pass wsL_pass) := goodIn_app (goodIn_of _ (by decide +kernel)) ggL_law_L_pass
set_option maxRecDepth 20000 in
theorem ggL_law_X5_pass_ : GoodIn wsL_law wsX5_pass_ := goodIn_r _ [375, 83, 60, 85, 86, 5, 87, 88, 89, 90, 91, 376, 377, 378, 379, 215, 57, 56, 295, 296, 297, 298, 291, 292, 293, 294, 58, 55, 246, 247, 248, 249, 59, 299, 300, 301, 302, 303, 277, 115, 278, 188, 189, 190, 191, 52, 53, 192, 114, 116, 304, 305, 306, 307, 242, 243, 244, 245, 308, 309, 310, 311, 54, 483, 484, 485, 486, 487, 488, 489, 490, 491, 492, 493, 494, 495] (by decide +kernel) (by decide +kernel)
set_option maxRecDepth 20000 in
theorem gL_law_X5_pass_ : GoodIn wsL_law (wsV RL 114 RX5 yX5_pass_ wsX5_pass_) := goodIn_app (goodIn_of _ (by decide +kernel)) ggL_law_X5_pass_
set_option maxRecDepth 20000 in
theorem ggL_law_L_joy : GoodIn wsL_law wsL_joy := goodIn_ca (goodIn_ca (goodIn_r _ [382, 99, 65, 383, 384, 385, 2, 386, 16, 223, 224, 225, 226, 108, 109, 125, 175, 176, 177, 71, 72, 272, 273, 274, 275, 75, 14, 276, 277, 115, 278, 134, 31, 135, 136, 129, 130, 77, 78, 141, 142, 143, 47, 178, 29, 179, 180, 181, 182, 183, 114, 116, 474, 475, 476, 477, 478, 479, 480, 481, 482, 501, 502, 503, 504, 505, 506, 507, 508, 509] (by decide +kernel) (by decide +kernel)) (goodIn_sub (fun _ h => List.mem_append_right _ h) (by decide +kernel))) (goodIn_sub (fun _ h => List.mem_append_left _ (List.mem_append_left _ (List.mem_append_right _ h))) (by decide +kernel))
set_option maxRecDepth 20000 in
theorem gL_law_L_joy : GoodIn wsL_law (va_wsS RL 115 yL_joy wsL_joy) := goodIn_app (goodIn_of _ (by decide +kernel)) ggL_law_L_joy
set_option maxRecDepth 20000 in
theorem ggL_law_X5_joy : GoodIn wsL_law wsX5_joy := goodIn_r _ [390, 83, 238, 239, 240, 5, 241, 215, 85, 86, 87, 88, 89, 90, 91, 299, 300, 301, 302, 58, 303, 277, 115, 278, 295, 296, 297, 298, 291, 292, 293, 294, 55, 246, 247, 248, 249, 59, 188, 189, 190, 191, 52, 53, 192, 114, 116, 304, 305, 306, 307, 57, 242, 243, 244, 245, 483, 484, 485, 486, 487, 488, 489, 490, 491, 492, 493, 494, 495] (by decide +kernel) (by decide +kernel)
set_option maxRecDepth 20000 in
theorem gL_law_X5_joy : GoodIn wsL_law (wsV RL 117 RX5 yX5_joy wsX5_joy) := goodIn_app (goodIn_of _ (by decide +kernel)) ggL_law_X5_joy
set_option maxRecDepth 20000 in
theorem ggL_law_L_best : GoodIn wsL_law wsL_best := goodIn_ca (goodIn_r _ [393, 99, 394, 395, 396, 2, 397, 16, 271, 223, 224, 225, 226, 108, 109, 125, 272, 273, 274, 275, 75, 14, 276, 277, 115, 278, 134, 31, 135, 136, 129, 130, 77, 78, 141, 142, 143, 47, 178, 29, 179, 180, 181, 182, 183, 114, 116, 474, 475, 476, 477, 478, 479, 480, 481, 482, 501, 502, 503, 504, 505, 506, 507, 508, 509] (by decide +kernel) (by decide +kernel)) (goodIn_sub (fun _ h => List.mem_append_right _ h) (by decide +kernel))
set_option maxRecDepth 20000 in
theorem gL_law_L_best : GoodIn wsL_law (va_wsS RL 118 yL_best wsL_best) := goodIn_app (goodIn_of _ (by decide +kernel)) ggL_law_L_best
set_option maxRecDepth 20000 in
theorem ggL_law_X5_best : GoodIn wsL_law wsX5_best := goodIn_r _ [401, 83, 60, 238, 239, 240, 5, 241, 215, 85, 86, 87, 88, 89, 90, 91, 299, 300, 301, 302, 58, 303, 277, 115, 278, 295, 296, 297, 298, 291, 292, 293, 294, 55, 246, 247, 248, 249, 59, 188, 189, 190, 191, 52, 53, 192, 114, 116, 304, 305, 306, 307, 57, 242, 243, 244, 245, 483, 484, 485, 486, 487, 488, 489, 490, 491, 492, 493, 494, 495] (by decide +kernel) (by decide +kernel)
set_option maxRecDepth 20000 in
theorem gL_law_X5_best : GoodIn wsL_law (wsV RL 120 RX5 yX5_best wsX5_best) := goodIn_app (goodIn_of _ (by decide +kernel)) ggL_law_X5_best
set_option maxRecDepth 20000 in
theorem ggL_law_L_advise : GoodIn wsL_law wsL_advise := goodIn_ca (goodIn_r _ [404, 99, 405, 406, 407, 2, 408, 16, 271, 75, 223, 224, 225, 226, 108, 109, 125, 227, 31, 228, 229, 129, 47, 272, 273, 274, 275, 14, 276, 277, 115, 278, 134, 135, 136, 130, 77, 78, 141, 142, 143, 178, 29, 179, 180, 181, 182, 183, 114, 116, 409, 410, 411, 412, 230, 231, 232, 233, 121, 122, 123, 124, 22, 126, 127, 128, 131, 21, 132, 133, 36, 37, 118, 119, 120, 137, 138, 139, 140, 257, 258, 259, 474, 475, 476, 477, 478, 479, 480, 481, 482, 506, 507, 508, 509, 501, 502, 503, 504, 505, 496, 497] (by decide +kernel) (by decide +kernel)) (goodIn_sub (fun _ h => List.mem_append_right _ h) (by decide +kernel))
set_option maxRecDepth 20000 in
theorem gL_law_L_advise : GoodIn wsL_law (va_wsS RL 121 yL_advise wsL_advise) := goodIn_app (goodIn_of _ (by decide +kernel)) ggL_law_L_advise
set_option maxRecDepth 20000 in
theorem ggL_law_X5_advise : GoodIn wsL_law wsX5_advise := goodIn_r _ [416, 83, 58, 60, 84, 59, 238, 239, 240, 5, 241, 215, 85, 86, 87, 88, 89, 90, 91, 299, 300, 301, 302, 303, 277, 115, 278, 295, 296, 297, 298, 291, 292, 293, 294, 55, 246, 247, 248, 249, 188, 189, 190, 191, 52, 53, 192, 114, 116, 304, 305, 306, 307, 57, 242, 243, 244, 245, 483, 484, 485, 486, 487, 488, 489, 490, 491, 492, 493, 494, 495] (by decide +kernel) (by decide +kernel)
set_option maxRecDepth 20000 in
theorem gL_law_X5_advise : GoodIn wsL_law (wsV RL 123 RX5 yX5_advise wsX5_advise) := goodIn_app (goodIn_of _ (by decide +kernel)) ggL_law_X5_advise
set_option maxRecDepth 20000 in
theorem ggL_law_L_foresee : GoodIn wsL_law wsL_foresee := goodIn_ca (goodIn_ca (goodIn_r _ [419, 65, 99, 420, 421, 422, 2, 423, 108, 109, 27, 26, 271, 357, 358, 359, 71, 72, 76, 77, 78, 424, 25, 425, 426, 427, 428, 429, 360, 361, 362, 363, 364, 365, 366, 367, 18, 125, 16, 368, 369, 370, 371, 134, 31, 135, 136, 129, 130, 272, 273, 274, 275, 75, 14, 276, 277, 115, 278, 141, 142, 143, 47, 178, 29, 179, 180, 181, 182, 183, 114, 116, 279, 280, 281, 282, 338, 339, 340, 341, 474, 475, 476, 477, 478, 479, 480, 481, 482, 498, 499, 500, 506, 507, 508, 509, 501, 502, 503, 504, 505] (by decide +kernel) (by decide +kernel)) (goodIn_sub (fun _ h => List.mem_append_right _ h) (by decide +kernel))) (goodIn_sub (fun _ h => List.mem_append_left _ (List.mem_append_left _ (List.mem_append_right _ h))) (by decide +kernel))
set_option maxRecDepth 20000 in
theorem gL_law_L_foresee : GoodIn wsL_law (va_wsS RL 124 yL_foresee wsL_foresee) := goodIn_app (goodIn_of _ (by decide +kernel)) ggL_law_L_foresee
set_option maxRecDepth 20000 in
theorem ggL_law_X5_foresee : GoodIn wsL_law wsX5_foresee := goodIn_r _ [433, 83, 60, 434, 435, 436, 437, 438, 439, 85, 86, 5, 87, 88, 89, 90, 91, 376, 377, 378, 379, 215, 57, 56, 295, 296, 297, 298, 291, 292, 293, 294, 58, 55, 246, 247, 248, 249, 59, 299, 300, 301, 302, 303, 277, 115, 278, 188, 189, 190, 191, 52, 53, 192, 114, 116, 304, 305, 306, 307, 242, 243, 244, 245, 308, 309, 310, 311, 54, 346, 347, 348, 349, 84, 17, 148, 483, 484, 485, 486, 487, 488, 489, 490, 491, 492, 493, 494, 495] (by decide +kernel) (by decide +kernel)
set_option maxRecDepth 20000 in
theorem gL_law_X5_foresee : GoodIn wsL_law (wsV RL 126 RX5 yX5_foresee wsX5_foresee) := goodIn_app (goodIn_of _ (by decide +kernel)) ggL_law_X5_foresee
set_option maxRecDepth 20000 in
theorem ggL_law_X4_mean : GoodIn wsL_law wsX4_mean := goodIn_r _ [443, 75, 14, 271, 178, 29, 179, 180, 181, 182, 183, 114, 115, 116, 474, 475, 476, 477, 478, 479, 480, 481, 482, 501, 502, 503, 504, 505] (by decide +kernel) (by decide +kernel)
set_option maxRecDepth 20000 in
theorem gL_law_X4_mean : GoodIn wsL_law (wsV RL 127 RX4 yX4_mean wsX4_mean) := goodIn_app (goodIn_of _ (by decide +kernel)) ggL_law_X4_mean
set_option maxRecDepth 20000 in
theorem ggL_law_X5_mean : GoodIn wsL_law wsX5_mean := goodIn_r _ [447, 83, 84, 60, 188, 189, 190, 5, 191, 52, 53, 192, 114, 115, 116, 85, 86, 87, 483, 484, 485, 486, 487, 488, 489, 490, 491, 492, 493, 494, 495] (by decide +kernel) (by decide +kernel)
set_option maxRecDepth 20000 in
theorem gL_law_X5_mean : GoodIn wsL_law (wsV RL 131 RX5 yX5_mean wsX5_mean) := goodIn_app (goodIn_of _ (by decide +kernel)) ggL_law_X5_mean
set_option maxRecDepth 20000 in
theorem ggL_law_X4_digest : GoodIn wsL_law wsX4_digest := goodIn_ca (goodIn_r _ [451, 452, 18, 75, 125, 453, 331, 332, 2, 333, 108, 109, 271, 22, 26, 334, 335, 336, 337, 16, 134, 31, 135, 136, 129, 130, 77, 78, 338, 339, 340, 341, 14, 178, 29, 179, 180, 181, 182, 183, 114, 115, 116, 454, 455, 456, 457, 458, 459, 460, 461, 462, 316, 317, 318, 104, 105, 106, 107, 131, 21, 132, 133, 36, 37, 118, 119, 120, 463, 464, 465, 466, 467, 268, 269, 270, 223, 224, 225, 226, 272, 273, 274, 275, 276, 277, 278, 141, 142, 143, 47, 279, 280, 281, 282, 474, 475, 476, 477, 478, 479, 480, 481, 482, 496, 497, 498, 499, 500, 506, 507, 508, 509, 501, 502, 503, 504, 505] (by decide +kernel) (by decide +kernel)) (goodIn_sub (fun _ h => List.mem_append_right _ h) (by decide +kernel))
set_option maxRecDepth 20000 in
theorem gL_law_X4_digest : GoodIn wsL_law (wsV RL 132 RX4 yX4_digest wsX4_digest) := goodIn_app (goodIn_of _ (by decide +kernel)) ggL_law_X4_digest
set_option maxRecDepth 20000 in
theorem ggL_law_X5_digest : GoodIn wsL_law wsX5_digest := goodIn_r _ [471, 83, 472, 473, 60, 56, 84, 55, 215, 58, 346, 347, 348, 5, 349, 17, 148, 188, 189, 190, 191, 52, 53, 192, 114, 115, 116, 85, 86, 87, 295, 296, 297, 298, 291, 292, 293, 294, 246, 247, 248, 249, 59, 323, 324, 325, 326, 54, 242, 243, 244, 245, 304, 305, 306, 307, 57, 287, 288, 289, 290, 299, 300, 301, 302, 303, 277, 278, 308, 309, 310, 311, 483, 484, 485, 486, 487, 488, 489, 490, 491, 492, 493, 494, 495] (by decide +kernel) (by decide +kernel)
set_option maxRecDepth 20000 in
theorem gL_law_X5_digest : GoodIn wsL_law (wsV RL 136 RX5 yX5_digest wsX5_digest) := goodIn_app (goodIn_of _ (by decide +kernel)) ggL_law_X5_digest
theorem dL_law_0 : decode cL_law 0 = .ok (.new 8, 3) := by decide +kernel
theorem dL_law_3 : decode cL_law 3 = .ok (.dup, 1) := by decide +kernel
theorem dL_law_4 : decode cL_law 4 = .ok (.invokespecial 66, 3) := by decide +kernel
theorem dL_law_7 : decode cL_law 7 = .ok (.astore_n 1, 1) := by decide +kernel
theorem dL_law_8 : decode cL_law 8 = .ok (.new 67, 3) := by decide +kernel
theorem dL_law_11 : decode cL_law 11 = .ok (.dup, 1) := by decide +kernel
theorem dL_law_12 : decode cL_law 12 = .ok (.invokespecial 69, 3) := by decide +kernel
theorem dL_law_15 : decode cL_law 15 = .ok (.astore_n 2, 1) := by decide +kernel
theorem dL_law_16 : decode cL_law 16 = .ok (.iconst 1, 1) := by decide +kernel
theorem dL_law_17 : decode cL_law 17 = .ok (.newarray .long, 2) := by decide +kernel
theorem dL_law_19 : decode cL_law 19 = .ok (.astore_n 3, 1) := by decide +kernel
theorem dL_law_20 : decode cL_law 20 = .ok (.iconst 0, 1) := by decide +kernel
theorem dL_law_21 : decode cL_law 21 = .ok (.istore 4, 2) := by decide +kernel
theorem dL_law_23 : decode cL_law 23 = .ok (.iload 4, 2) := by decide +kernel
theorem dL_law_25 : decode cL_law 25 = .ok (.aload_n 0, 1) := by decide +kernel
theorem dL_law_26 : decode cL_law 26 = .ok (.arraylength, 1) := by decide +kernel
theorem dL_law_27 : decode cL_law 27 = .ok (.iconst 4, 1) := by decide +kernel
theorem dL_law_28 : decode cL_law 28 = .ok (.isub, 1) := by decide +kernel
theorem dL_law_29 : decode cL_law 29 = .ok (.if_icmp .gt 1196, 3) := by decide +kernel
theorem dL_law_32 : decode cL_law 32 = .ok (.aload_n 0, 1) := by decide +kernel
theorem dL_law_33 : decode cL_law 33 = .ok (.iload 4, 2) := by decide +kernel
theorem dL_law_35 : decode cL_law 35 = .ok (.iaload, 1) := by decide +kernel
theorem dL_law_36 : decode cL_law 36 = .ok (.bipush 31, 2) := by decide +kernel
theorem dL_law_38 : decode cL_law 38 = .ok (.iand, 1) := by decide +kernel
theorem dL_law_39 : decode cL_law 39 = .ok (.tableswitch 1180 0 17 #[85, 165, 245, 313, 381, 449, 505, 573, 629, 697, 765, 821, 877, 945, 1001, 1057, 1125, 1166], 85) := by decide +kernel
theorem dL_law_124 : decode cL_law 124 = .ok (.aload_n 1, 1) := by decide +kernel
theorem dL_law_125 : decode cL_law 125 = .ok (.aload_n 0, 1) := by decide +kernel
theorem dL_law_126 : decode cL_law 126 = .ok (.iload 4, 2) := by decide +kernel
theorem dL_law_128 : decode cL_law 128 = .ok (.iconst 1, 1) := by decide +kernel
theorem dL_law_129 : decode cL_law 129 = .ok (.iadd, 1) := by decide +kernel
theorem dL_law_130 : decode cL_law 130 = .ok (.iaload, 1) := by decide +kernel
theorem dL_law_131 : decode cL_law 131 = .ok (.aload_n 0, 1) := by decide +kernel
theorem dL_law_132 : decode cL_law 132 = .ok (.iload 4, 2) := by decide +kernel
theorem dL_law_134 : decode cL_law 134 = .ok (.iconst 2, 1) := by decide +kernel
theorem dL_law_135 : decode cL_law 135 = .ok (.iadd, 1) := by decide +kernel
theorem dL_law_136 : decode cL_law 136 = .ok (.iaload, 1) := by decide +kernel
theorem dL_law_137 : decode cL_law 137 = .ok (.aload_n 0, 1) := by decide +kernel
theorem dL_law_138 : decode cL_law 138 = .ok (.iload 4, 2) := by decide +kernel
theorem dL_law_140 : decode cL_law 140 = .ok (.iconst 3, 1) := by decide +kernel
theorem dL_law_141 : decode cL_law 141 = .ok (.iadd, 1) := by decide +kernel
theorem dL_law_142 : decode cL_law 142 = .ok (.iaload, 1) := by decide +kernel
theorem dL_law_143 : decode cL_law 143 = .ok (.aload_n 3, 1) := by decide +kernel
theorem dL_law_144 : decode cL_law 144 = .ok (.invokestatic 70, 3) := by decide +kernel
theorem dL_law_147 : decode cL_law 147 = .ok (.istore 5, 2) := by decide +kernel
theorem dL_law_149 : decode cL_law 149 = .ok (.aload_n 2, 1) := by decide +kernel
theorem dL_law_150 : decode cL_law 150 = .ok (.aload_n 0, 1) := by decide +kernel
theorem dL_law_151 : decode cL_law 151 = .ok (.iload 4, 2) := by decide +kernel
theorem dL_law_153 : decode cL_law 153 = .ok (.iconst 1, 1) := by decide +kernel
theorem dL_law_154 : decode cL_law 154 = .ok (.iadd, 1) := by decide +kernel
theorem dL_law_155 : decode cL_law 155 = .ok (.iaload, 1) := by decide +kernel
theorem dL_law_156 : decode cL_law 156 = .ok (.aload_n 0, 1) := by decide +kernel
theorem dL_law_157 : decode cL_law 157 = .ok (.iload 4, 2) := by decide +kernel
theorem dL_law_159 : decode cL_law 159 = .ok (.iconst 2, 1) := by decide +kernel
theorem dL_law_160 : decode cL_law 160 = .ok (.iadd, 1) := by decide +kernel
theorem dL_law_161 : decode cL_law 161 = .ok (.iaload, 1) := by decide +kernel
theorem dL_law_162 : decode cL_law 162 = .ok (.aload_n 0, 1) := by decide +kernel
theorem dL_law_163 : decode cL_law 163 = .ok (.iload 4, 2) := by decide +kernel
theorem dL_law_165 : decode cL_law 165 = .ok (.iconst 3, 1) := by decide +kernel
theorem dL_law_166 : decode cL_law 166 = .ok (.iadd, 1) := by decide +kernel
theorem dL_law_167 : decode cL_law 167 = .ok (.iaload, 1) := by decide +kernel
theorem dL_law_168 : decode cL_law 168 = .ok (.invokevirtual 75, 3) := by decide +kernel
theorem dL_law_171 : decode cL_law 171 = .ok (.istore 6, 2) := by decide +kernel
theorem dL_law_173 : decode cL_law 173 = .ok (.aload_n 2, 1) := by decide +kernel
theorem dL_law_174 : decode cL_law 174 = .ok (.invokevirtual 76, 3) := by decide +kernel
theorem dL_law_177 : decode cL_law 177 = .ok (.iload 5, 2) := by decide +kernel
theorem dL_law_179 : decode cL_law 179 = .ok (.if_icmp .eq 5, 3) := by decide +kernel
theorem dL_law_182 : decode cL_law 182 = .ok (.iconst 0, 1) := by decide +kernel
theorem dL_law_183 : decode cL_law 183 = .ok (.ireturn, 1) := by decide +kernel
theorem dL_law_184 : decode cL_law 184 = .ok (.iload 5, 2) := by decide +kernel
theorem dL_law_186 : decode cL_law 186 = .ok (.ifCond .ne 15, 3) := by decide +kernel
theorem dL_law_189 : decode cL_law 189 = .ok (.aload_n 3, 1) := by decide +kernel
theorem dL_law_190 : decode cL_law 190 = .ok (.iconst 0, 1) := by decide +kernel
theorem dL_law_191 : decode cL_law 191 = .ok (.laload, 1) := by decide +kernel
theorem dL_law_192 : decode cL_law 192 = .ok (.iload 6, 2) := by decide +kernel
theorem dL_law_194 : decode cL_law 194 = .ok (.i2l, 1) := by decide +kernel
theorem dL_law_195 : decode cL_law 195 = .ok (.lcmp, 1) := by decide +kernel
theorem dL_law_196 : decode cL_law 196 = .ok (.ifCond .eq 5, 3) := by decide +kernel
theorem dL_law_199 : decode cL_law 199 = .ok (.iconst 0, 1) := by decide +kernel
theorem dL_law_200 : decode cL_law 200 = .ok (.ireturn, 1) := by decide +kernel
theorem dL_law_201 : decode cL_law 201 = .ok (.goto 1018, 3) := by decide +kernel
theorem dL_law_204 : decode cL_law 204 = .ok (.aload_n 1, 1) := by decide +kernel
theorem dL_law_205 : decode cL_law 205 = .ok (.aload_n 0, 1) := by decide +kernel
theorem dL_law_206 : decode cL_law 206 = .ok (.iload 4, 2) := by decide +kernel
theorem dL_law_208 : decode cL_law 208 = .ok (.iconst 1, 1) := by decide +kernel
theorem dL_law_209 : decode cL_law 209 = .ok (.iadd, 1) := by decide +kernel
theorem dL_law_210 : decode cL_law 210 = .ok (.iaload, 1) := by decide +kernel
theorem dL_law_211 : decode cL_law 211 = .ok (.aload_n 0, 1) := by decide +kernel
theorem dL_law_212 : decode cL_law 212 = .ok (.iload 4, 2) := by decide +kernel
theorem dL_law_214 : decode cL_law 214 = .ok (.iconst 2, 1) := by decide +kernel
theorem dL_law_215 : decode cL_law 215 = .ok (.iadd, 1) := by decide +kernel
theorem dL_law_216 : decode cL_law 216 = .ok (.iaload, 1) := by decide +kernel
theorem dL_law_217 : decode cL_law 217 = .ok (.aload_n 0, 1) := by decide +kernel
theorem dL_law_218 : decode cL_law 218 = .ok (.iload 4, 2) := by decide +kernel
theorem dL_law_220 : decode cL_law 220 = .ok (.iconst 3, 1) := by decide +kernel
theorem dL_law_221 : decode cL_law 221 = .ok (.iadd, 1) := by decide +kernel
theorem dL_law_222 : decode cL_law 222 = .ok (.iaload, 1) := by decide +kernel
theorem dL_law_223 : decode cL_law 223 = .ok (.aload_n 3, 1) := by decide +kernel
theorem dL_law_224 : decode cL_law 224 = .ok (.invokestatic 80, 3) := by decide +kernel
theorem dL_law_227 : decode cL_law 227 = .ok (.istore 5, 2) := by decide +kernel
theorem dL_law_229 : decode cL_law 229 = .ok (.aload_n 2, 1) := by decide +kernel
theorem dL_law_230 : decode cL_law 230 = .ok (.aload_n 0, 1) := by decide +kernel
theorem dL_law_231 : decode cL_law 231 = .ok (.iload 4, 2) := by decide +kernel
theorem dL_law_233 : decode cL_law 233 = .ok (.iconst 1, 1) := by decide +kernel
theorem dL_law_234 : decode cL_law 234 = .ok (.iadd, 1) := by decide +kernel
theorem dL_law_235 : decode cL_law 235 = .ok (.iaload, 1) := by decide +kernel
theorem dL_law_236 : decode cL_law 236 = .ok (.aload_n 0, 1) := by decide +kernel
theorem dL_law_237 : decode cL_law 237 = .ok (.iload 4, 2) := by decide +kernel
theorem dL_law_239 : decode cL_law 239 = .ok (.iconst 2, 1) := by decide +kernel
theorem dL_law_240 : decode cL_law 240 = .ok (.iadd, 1) := by decide +kernel
theorem dL_law_241 : decode cL_law 241 = .ok (.iaload, 1) := by decide +kernel
theorem dL_law_242 : decode cL_law 242 = .ok (.aload_n 0, 1) := by decide +kernel
theorem dL_law_243 : decode cL_law 243 = .ok (.iload 4, 2) := by decide +kernel
theorem dL_law_245 : decode cL_law 245 = .ok (.iconst 3, 1) := by decide +kernel
theorem dL_law_246 : decode cL_law 246 = .ok (.iadd, 1) := by decide +kernel
theorem dL_law_247 : decode cL_law 247 = .ok (.iaload, 1) := by decide +kernel
theorem dL_law_248 : decode cL_law 248 = .ok (.invokevirtual 82, 3) := by decide +kernel
theorem dL_law_251 : decode cL_law 251 = .ok (.istore 6, 2) := by decide +kernel
theorem dL_law_253 : decode cL_law 253 = .ok (.aload_n 2, 1) := by decide +kernel
theorem dL_law_254 : decode cL_law 254 = .ok (.invokevirtual 76, 3) := by decide +kernel
theorem dL_law_257 : decode cL_law 257 = .ok (.iload 5, 2) := by decide +kernel
theorem dL_law_259 : decode cL_law 259 = .ok (.if_icmp .eq 5, 3) := by decide +kernel
theorem dL_law_262 : decode cL_law 262 = .ok (.iconst 0, 1) := by decide +kernel
theorem dL_law_263 : decode cL_law 263 = .ok (.ireturn, 1) := by decide +kernel
theorem dL_law_264 : decode cL_law 264 = .ok (.iload 5, 2) := by decide +kernel
theorem dL_law_266 : decode cL_law 266 = .ok (.ifCond .ne 15, 3) := by decide +kernel
theorem dL_law_269 : decode cL_law 269 = .ok (.aload_n 3, 1) := by decide +kernel
theorem dL_law_270 : decode cL_law 270 = .ok (.iconst 0, 1) := by decide +kernel
theorem dL_law_271 : decode cL_law 271 = .ok (.laload, 1) := by decide +kernel
theorem dL_law_272 : decode cL_law 272 = .ok (.iload 6, 2) := by decide +kernel
theorem dL_law_274 : decode cL_law 274 = .ok (.i2l, 1) := by decide +kernel
theorem dL_law_275 : decode cL_law 275 = .ok (.lcmp, 1) := by decide +kernel
theorem dL_law_276 : decode cL_law 276 = .ok (.ifCond .eq 5, 3) := by decide +kernel
theorem dL_law_279 : decode cL_law 279 = .ok (.iconst 0, 1) := by decide +kernel
theorem dL_law_280 : decode cL_law 280 = .ok (.ireturn, 1) := by decide +kernel
theorem dL_law_281 : decode cL_law 281 = .ok (.goto 938, 3) := by decide +kernel
theorem dL_law_284 : decode cL_law 284 = .ok (.aload_n 1, 1) := by decide +kernel
theorem dL_law_285 : decode cL_law 285 = .ok (.aload_n 0, 1) := by decide +kernel
theorem dL_law_286 : decode cL_law 286 = .ok (.iload 4, 2) := by decide +kernel
theorem dL_law_288 : decode cL_law 288 = .ok (.iconst 1, 1) := by decide +kernel
theorem dL_law_289 : decode cL_law 289 = .ok (.iadd, 1) := by decide +kernel
theorem dL_law_290 : decode cL_law 290 = .ok (.iaload, 1) := by decide +kernel
theorem dL_law_291 : decode cL_law 291 = .ok (.aload_n 0, 1) := by decide +kernel
theorem dL_law_292 : decode cL_law 292 = .ok (.iload 4, 2) := by decide +kernel
theorem dL_law_294 : decode cL_law 294 = .ok (.iconst 2, 1) := by decide +kernel
theorem dL_law_295 : decode cL_law 295 = .ok (.iadd, 1) := by decide +kernel
theorem dL_law_296 : decode cL_law 296 = .ok (.iaload, 1) := by decide +kernel
theorem dL_law_297 : decode cL_law 297 = .ok (.aload_n 3, 1) := by decide +kernel
theorem dL_law_298 : decode cL_law 298 = .ok (.invokestatic 83, 3) := by decide +kernel
theorem dL_law_301 : decode cL_law 301 = .ok (.istore 5, 2) := by decide +kernel
theorem dL_law_303 : decode cL_law 303 = .ok (.aload_n 2, 1) := by decide +kernel
theorem dL_law_304 : decode cL_law 304 = .ok (.aload_n 0, 1) := by decide +kernel
theorem dL_law_305 : decode cL_law 305 = .ok (.iload 4, 2) := by decide +kernel
theorem dL_law_307 : decode cL_law 307 = .ok (.iconst 1, 1) := by decide +kernel
theorem dL_law_308 : decode cL_law 308 = .ok (.iadd, 1) := by decide +kernel
theorem dL_law_309 : decode cL_law 309 = .ok (.iaload, 1) := by decide +kernel
theorem dL_law_310 : decode cL_law 310 = .ok (.aload_n 0, 1) := by decide +kernel
theorem dL_law_311 : decode cL_law 311 = .ok (.iload 4, 2) := by decide +kernel
theorem dL_law_313 : decode cL_law 313 = .ok (.iconst 2, 1) := by decide +kernel
theorem dL_law_314 : decode cL_law 314 = .ok (.iadd, 1) := by decide +kernel
theorem dL_law_315 : decode cL_law 315 = .ok (.iaload, 1) := by decide +kernel
theorem dL_law_316 : decode cL_law 316 = .ok (.invokevirtual 86, 3) := by decide +kernel
theorem dL_law_319 : decode cL_law 319 = .ok (.istore 6, 2) := by decide +kernel
theorem dL_law_321 : decode cL_law 321 = .ok (.aload_n 2, 1) := by decide +kernel
theorem dL_law_322 : decode cL_law 322 = .ok (.invokevirtual 76, 3) := by decide +kernel
theorem dL_law_325 : decode cL_law 325 = .ok (.iload 5, 2) := by decide +kernel
theorem dL_law_327 : decode cL_law 327 = .ok (.if_icmp .eq 5, 3) := by decide +kernel
theorem dL_law_330 : decode cL_law 330 = .ok (.iconst 0, 1) := by decide +kernel
theorem dL_law_331 : decode cL_law 331 = .ok (.ireturn, 1) := by decide +kernel
theorem dL_law_332 : decode cL_law 332 = .ok (.iload 5, 2) := by decide +kernel
theorem dL_law_334 : decode cL_law 334 = .ok (.ifCond .ne 15, 3) := by decide +kernel
theorem dL_law_337 : decode cL_law 337 = .ok (.aload_n 3, 1) := by decide +kernel
theorem dL_law_338 : decode cL_law 338 = .ok (.iconst 0, 1) := by decide +kernel
theorem dL_law_339 : decode cL_law 339 = .ok (.laload, 1) := by decide +kernel
theorem dL_law_340 : decode cL_law 340 = .ok (.iload 6, 2) := by decide +kernel
theorem dL_law_342 : decode cL_law 342 = .ok (.i2l, 1) := by decide +kernel
theorem dL_law_343 : decode cL_law 343 = .ok (.lcmp, 1) := by decide +kernel
theorem dL_law_344 : decode cL_law 344 = .ok (.ifCond .eq 5, 3) := by decide +kernel
theorem dL_law_347 : decode cL_law 347 = .ok (.iconst 0, 1) := by decide +kernel
theorem dL_law_348 : decode cL_law 348 = .ok (.ireturn, 1) := by decide +kernel
theorem dL_law_349 : decode cL_law 349 = .ok (.goto 870, 3) := by decide +kernel
theorem dL_law_352 : decode cL_law 352 = .ok (.aload_n 1, 1) := by decide +kernel
theorem dL_law_353 : decode cL_law 353 = .ok (.aload_n 0, 1) := by decide +kernel
theorem dL_law_354 : decode cL_law 354 = .ok (.iload 4, 2) := by decide +kernel
theorem dL_law_356 : decode cL_law 356 = .ok (.iconst 1, 1) := by decide +kernel
theorem dL_law_357 : decode cL_law 357 = .ok (.iadd, 1) := by decide +kernel
theorem dL_law_358 : decode cL_law 358 = .ok (.iaload, 1) := by decide +kernel
theorem dL_law_359 : decode cL_law 359 = .ok (.aload_n 0, 1) := by decide +kernel
theorem dL_law_360 : decode cL_law 360 = .ok (.iload 4, 2) := by decide +kernel
theorem dL_law_362 : decode cL_law 362 = .ok (.iconst 2, 1) := by decide +kernel
theorem dL_law_363 : decode cL_law 363 = .ok (.iadd, 1) := by decide +kernel
theorem dL_law_364 : decode cL_law 364 = .ok (.iaload, 1) := by decide +kernel
theorem dL_law_365 : decode cL_law 365 = .ok (.aload_n 3, 1) := by decide +kernel
theorem dL_law_366 : decode cL_law 366 = .ok (.invokestatic 87, 3) := by decide +kernel
theorem dL_law_369 : decode cL_law 369 = .ok (.istore 5, 2) := by decide +kernel
theorem dL_law_371 : decode cL_law 371 = .ok (.aload_n 2, 1) := by decide +kernel
theorem dL_law_372 : decode cL_law 372 = .ok (.aload_n 0, 1) := by decide +kernel
theorem dL_law_373 : decode cL_law 373 = .ok (.iload 4, 2) := by decide +kernel
theorem dL_law_375 : decode cL_law 375 = .ok (.iconst 1, 1) := by decide +kernel
theorem dL_law_376 : decode cL_law 376 = .ok (.iadd, 1) := by decide +kernel
theorem dL_law_377 : decode cL_law 377 = .ok (.iaload, 1) := by decide +kernel
theorem dL_law_378 : decode cL_law 378 = .ok (.aload_n 0, 1) := by decide +kernel
theorem dL_law_379 : decode cL_law 379 = .ok (.iload 4, 2) := by decide +kernel
theorem dL_law_381 : decode cL_law 381 = .ok (.iconst 2, 1) := by decide +kernel
theorem dL_law_382 : decode cL_law 382 = .ok (.iadd, 1) := by decide +kernel
theorem dL_law_383 : decode cL_law 383 = .ok (.iaload, 1) := by decide +kernel
theorem dL_law_384 : decode cL_law 384 = .ok (.invokevirtual 89, 3) := by decide +kernel
theorem dL_law_387 : decode cL_law 387 = .ok (.istore 6, 2) := by decide +kernel
theorem dL_law_389 : decode cL_law 389 = .ok (.aload_n 2, 1) := by decide +kernel
theorem dL_law_390 : decode cL_law 390 = .ok (.invokevirtual 76, 3) := by decide +kernel
theorem dL_law_393 : decode cL_law 393 = .ok (.iload 5, 2) := by decide +kernel
theorem dL_law_395 : decode cL_law 395 = .ok (.if_icmp .eq 5, 3) := by decide +kernel
theorem dL_law_398 : decode cL_law 398 = .ok (.iconst 0, 1) := by decide +kernel
theorem dL_law_399 : decode cL_law 399 = .ok (.ireturn, 1) := by decide +kernel
theorem dL_law_400 : decode cL_law 400 = .ok (.iload 5, 2) := by decide +kernel
theorem dL_law_402 : decode cL_law 402 = .ok (.ifCond .ne 15, 3) := by decide +kernel
theorem dL_law_405 : decode cL_law 405 = .ok (.aload_n 3, 1) := by decide +kernel
theorem dL_law_406 : decode cL_law 406 = .ok (.iconst 0, 1) := by decide +kernel
theorem dL_law_407 : decode cL_law 407 = .ok (.laload, 1) := by decide +kernel
theorem dL_law_408 : decode cL_law 408 = .ok (.iload 6, 2) := by decide +kernel
theorem dL_law_410 : decode cL_law 410 = .ok (.i2l, 1) := by decide +kernel
theorem dL_law_411 : decode cL_law 411 = .ok (.lcmp, 1) := by decide +kernel
theorem dL_law_412 : decode cL_law 412 = .ok (.ifCond .eq 5, 3) := by decide +kernel
theorem dL_law_415 : decode cL_law 415 = .ok (.iconst 0, 1) := by decide +kernel
theorem dL_law_416 : decode cL_law 416 = .ok (.ireturn, 1) := by decide +kernel
theorem dL_law_417 : decode cL_law 417 = .ok (.goto 802, 3) := by decide +kernel
theorem dL_law_420 : decode cL_law 420 = .ok (.aload_n 1, 1) := by decide +kernel
theorem dL_law_421 : decode cL_law 421 = .ok (.aload_n 0, 1) := by decide +kernel
theorem dL_law_422 : decode cL_law 422 = .ok (.iload 4, 2) := by decide +kernel
theorem dL_law_424 : decode cL_law 424 = .ok (.iconst 1, 1) := by decide +kernel
theorem dL_law_425 : decode cL_law 425 = .ok (.iadd, 1) := by decide +kernel
theorem dL_law_426 : decode cL_law 426 = .ok (.iaload, 1) := by decide +kernel
theorem dL_law_427 : decode cL_law 427 = .ok (.aload_n 0, 1) := by decide +kernel
theorem dL_law_428 : decode cL_law 428 = .ok (.iload 4, 2) := by decide +kernel
theorem dL_law_430 : decode cL_law 430 = .ok (.iconst 2, 1) := by decide +kernel
theorem dL_law_431 : decode cL_law 431 = .ok (.iadd, 1) := by decide +kernel
theorem dL_law_432 : decode cL_law 432 = .ok (.iaload, 1) := by decide +kernel
theorem dL_law_433 : decode cL_law 433 = .ok (.aload_n 3, 1) := by decide +kernel
theorem dL_law_434 : decode cL_law 434 = .ok (.invokestatic 90, 3) := by decide +kernel
