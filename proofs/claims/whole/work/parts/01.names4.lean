set_option maxRecDepth 20000 in
theorem ggX8_drift_X8_in : GoodIn wsX8_drift wsX8_in := goodIn_r _ [9] (by decide +kernel) (by decide +kernel)
set_option maxRecDepth 20000 in
theorem gX8_drift_X8_in : GoodIn wsX8_drift (va_wsS RX8 44 yX8_in wsX8_in) := goodIn_app (goodIn_of _ (by decide +kernel)) ggX8_drift_X8_in
set_option maxRecDepth 20000 in
theorem ggX8_drift_X8_note : GoodIn wsX8_drift wsX8_note := goodIn_r _ [13, 1, 14, 15, 8, 16, 36, 37, 38, 39, 40, 41, 42, 43, 44, 45, 46, 47, 48, 49, 50, 51, 52, 53] (by decide +kernel) (by decide +kernel)
set_option maxRecDepth 20000 in
theorem gX8_drift_X8_note : GoodIn wsX8_drift (wsV RX8 125 RX8 yX8_note wsX8_note) := goodIn_app (goodIn_of _ (by decide +kernel)) ggX8_drift_X8_note
set_option maxRecDepth 20000 in
theorem ggX8_drift_X8_noticesIn : GoodIn wsX8_drift wsX8_noticesIn := goodIn_r _ [19, 20, 21, 8, 22, 23, 24, 25, 26, 27, 28] (by decide +kernel) (by decide +kernel)
set_option maxRecDepth 20000 in
theorem gX8_drift_X8_noticesIn : GoodIn wsX8_drift (va_wsS RX8 81 yX8_noticesIn wsX8_noticesIn) := goodIn_app (goodIn_of _ (by decide +kernel)) ggX8_drift_X8_noticesIn
set_option maxRecDepth 20000 in
theorem ggX8_drift_X8_answers : GoodIn wsX8_drift wsX8_answers := goodIn_r _ [32, 1, 33, 34, 8, 35, 17, 18, 19, 20, 21, 22, 23, 24, 25, 26, 27, 28, 36, 37, 38, 39, 40, 41, 42, 43, 44, 45, 46, 47, 48, 49, 50, 51, 52, 53] (by decide +kernel) (by decide +kernel)
set_option maxRecDepth 20000 in
theorem gX8_drift_X8_answers : GoodIn wsX8_drift (wsV RX8 128 RX8 yX8_answers wsX8_answers) := goodIn_app (goodIn_of _ (by decide +kernel)) ggX8_drift_X8_answers
theorem dX8_drift_0 : decode cX8_drift 0 = .ok (.iload_n 1, 1) := by decide +kernel
theorem dX8_drift_1 : decode cX8_drift 1 = .ok (.iconst 1, 1) := by decide +kernel
theorem dX8_drift_2 : decode cX8_drift 2 = .ok (.bipush 40, 2) := by decide +kernel
theorem dX8_drift_4 : decode cX8_drift 4 = .ok (.invokestatic 44, 3) := by decide +kernel
theorem dX8_drift_7 : decode cX8_drift 7 = .ok (.ifCond .ne 5, 3) := by decide +kernel
theorem dX8_drift_10 : decode cX8_drift 10 = .ok (.iconst (-1), 1) := by decide +kernel
theorem dX8_drift_11 : decode cX8_drift 11 = .ok (.ireturn, 1) := by decide +kernel
theorem dX8_drift_12 : decode cX8_drift 12 = .ok (.aload_n 0, 1) := by decide +kernel
theorem dX8_drift_13 : decode cX8_drift 13 = .ok (.getfield 23, 3) := by decide +kernel
theorem dX8_drift_16 : decode cX8_drift 16 = .ok (.iconst 0, 1) := by decide +kernel
theorem dX8_drift_17 : decode cX8_drift 17 = .ok (.iaload, 1) := by decide +kernel
theorem dX8_drift_18 : decode cX8_drift 18 = .ok (.iload_n 1, 1) := by decide +kernel
theorem dX8_drift_19 : decode cX8_drift 19 = .ok (.iadd, 1) := by decide +kernel
theorem dX8_drift_20 : decode cX8_drift 20 = .ok (.sipush 9999, 3) := by decide +kernel
theorem dX8_drift_23 : decode cX8_drift 23 = .ok (.if_icmp .le 6, 3) := by decide +kernel
theorem dX8_drift_26 : decode cX8_drift 26 = .ok (.bipush (-3), 2) := by decide +kernel
theorem dX8_drift_28 : decode cX8_drift 28 = .ok (.ireturn, 1) := by decide +kernel
theorem dX8_drift_29 : decode cX8_drift 29 = .ok (.iconst 0, 1) := by decide +kernel
theorem dX8_drift_30 : decode cX8_drift 30 = .ok (.istore_n 2, 1) := by decide +kernel
theorem dX8_drift_31 : decode cX8_drift 31 = .ok (.iload_n 2, 1) := by decide +kernel
theorem dX8_drift_32 : decode cX8_drift 32 = .ok (.iload_n 1, 1) := by decide +kernel
theorem dX8_drift_33 : decode cX8_drift 33 = .ok (.if_icmp .ge 126, 3) := by decide +kernel
theorem dX8_drift_36 : decode cX8_drift 36 = .ok (.aload_n 0, 1) := by decide +kernel
theorem dX8_drift_37 : decode cX8_drift 37 = .ok (.invokevirtual 125, 3) := by decide +kernel
theorem dX8_drift_40 : decode cX8_drift 40 = .ok (.aload_n 0, 1) := by decide +kernel
theorem dX8_drift_41 : decode cX8_drift 41 = .ok (.getfield 23, 3) := by decide +kernel
theorem dX8_drift_44 : decode cX8_drift 44 = .ok (.iconst 1, 1) := by decide +kernel
theorem dX8_drift_45 : decode cX8_drift 45 = .ok (.aload_n 0, 1) := by decide +kernel
theorem dX8_drift_46 : decode cX8_drift 46 = .ok (.getfield 23, 3) := by decide +kernel
theorem dX8_drift_49 : decode cX8_drift 49 = .ok (.iconst 1, 1) := by decide +kernel
theorem dX8_drift_50 : decode cX8_drift 50 = .ok (.iaload, 1) := by decide +kernel
theorem dX8_drift_51 : decode cX8_drift 51 = .ok (.i2l, 1) := by decide +kernel
theorem dX8_drift_52 : decode cX8_drift 52 = .ok (.ldc2_w 132, 3) := by decide +kernel
theorem dX8_drift_55 : decode cX8_drift 55 = .ok (.lmul, 1) := by decide +kernel
theorem dX8_drift_56 : decode cX8_drift 56 = .ok (.ldc2_w 134, 3) := by decide +kernel
theorem dX8_drift_59 : decode cX8_drift 59 = .ok (.ladd, 1) := by decide +kernel
theorem dX8_drift_60 : decode cX8_drift 60 = .ok (.ldc2_w 136, 3) := by decide +kernel
theorem dX8_drift_63 : decode cX8_drift 63 = .ok (.lrem, 1) := by decide +kernel
theorem dX8_drift_64 : decode cX8_drift 64 = .ok (.l2i, 1) := by decide +kernel
theorem dX8_drift_65 : decode cX8_drift 65 = .ok (.iastore, 1) := by decide +kernel
theorem dX8_drift_66 : decode cX8_drift 66 = .ok (.aload_n 0, 1) := by decide +kernel
theorem dX8_drift_67 : decode cX8_drift 67 = .ok (.getfield 23, 3) := by decide +kernel
theorem dX8_drift_70 : decode cX8_drift 70 = .ok (.iconst 1, 1) := by decide +kernel
theorem dX8_drift_71 : decode cX8_drift 71 = .ok (.iaload, 1) := by decide +kernel
theorem dX8_drift_72 : decode cX8_drift 72 = .ok (.sipush 128, 3) := by decide +kernel
theorem dX8_drift_75 : decode cX8_drift 75 = .ok (.idiv, 1) := by decide +kernel
theorem dX8_drift_76 : decode cX8_drift 76 = .ok (.iconst 1, 1) := by decide +kernel
theorem dX8_drift_77 : decode cX8_drift 77 = .ok (.aload_n 0, 1) := by decide +kernel
theorem dX8_drift_78 : decode cX8_drift 78 = .ok (.getfield 23, 3) := by decide +kernel
theorem dX8_drift_81 : decode cX8_drift 81 = .ok (.iconst 4, 1) := by decide +kernel
theorem dX8_drift_82 : decode cX8_drift 82 = .ok (.iaload, 1) := by decide +kernel
theorem dX8_drift_83 : decode cX8_drift 83 = .ok (.ishl, 1) := by decide +kernel
theorem dX8_drift_84 : decode cX8_drift 84 = .ok (.irem, 1) := by decide +kernel
theorem dX8_drift_85 : decode cX8_drift 85 = .ok (.istore_n 3, 1) := by decide +kernel
theorem dX8_drift_86 : decode cX8_drift 86 = .ok (.aload_n 0, 1) := by decide +kernel
theorem dX8_drift_87 : decode cX8_drift 87 = .ok (.getfield 23, 3) := by decide +kernel
theorem dX8_drift_90 : decode cX8_drift 90 = .ok (.bipush 13, 2) := by decide +kernel
theorem dX8_drift_92 : decode cX8_drift 92 = .ok (.iaload, 1) := by decide +kernel
theorem dX8_drift_93 : decode cX8_drift 93 = .ok (.ifCond .le 60, 3) := by decide +kernel
theorem dX8_drift_96 : decode cX8_drift 96 = .ok (.iload_n 3, 1) := by decide +kernel
theorem dX8_drift_97 : decode cX8_drift 97 = .ok (.ifCond .le 56, 3) := by decide +kernel
theorem dX8_drift_100 : decode cX8_drift 100 = .ok (.aload_n 0, 1) := by decide +kernel
theorem dX8_drift_101 : decode cX8_drift 101 = .ok (.getfield 23, 3) := by decide +kernel
theorem dX8_drift_104 : decode cX8_drift 104 = .ok (.iconst 3, 1) := by decide +kernel
theorem dX8_drift_105 : decode cX8_drift 105 = .ok (.iaload, 1) := by decide +kernel
theorem dX8_drift_106 : decode cX8_drift 106 = .ok (.bipush (-4), 2) := by decide +kernel
theorem dX8_drift_108 : decode cX8_drift 108 = .ok (.if_icmp .eq 45, 3) := by decide +kernel
theorem dX8_drift_111 : decode cX8_drift 111 = .ok (.aload_n 0, 1) := by decide +kernel
theorem dX8_drift_112 : decode cX8_drift 112 = .ok (.getfield 23, 3) := by decide +kernel
theorem dX8_drift_115 : decode cX8_drift 115 = .ok (.iconst 1, 1) := by decide +kernel
theorem dX8_drift_116 : decode cX8_drift 116 = .ok (.iaload, 1) := by decide +kernel
theorem dX8_drift_117 : decode cX8_drift 117 = .ok (.ldc 138, 2) := by decide +kernel
theorem dX8_drift_119 : decode cX8_drift 119 = .ok (.idiv, 1) := by decide +kernel
theorem dX8_drift_120 : decode cX8_drift 120 = .ok (.aload_n 0, 1) := by decide +kernel
theorem dX8_drift_121 : decode cX8_drift 121 = .ok (.getfield 23, 3) := by decide +kernel
theorem dX8_drift_124 : decode cX8_drift 124 = .ok (.bipush 13, 2) := by decide +kernel
theorem dX8_drift_126 : decode cX8_drift 126 = .ok (.iaload, 1) := by decide +kernel
theorem dX8_drift_127 : decode cX8_drift 127 = .ok (.irem, 1) := by decide +kernel
theorem dX8_drift_128 : decode cX8_drift 128 = .ok (.istore 4, 2) := by decide +kernel
theorem dX8_drift_130 : decode cX8_drift 130 = .ok (.aload_n 0, 1) := by decide +kernel
theorem dX8_drift_131 : decode cX8_drift 131 = .ok (.iload 4, 2) := by decide +kernel
theorem dX8_drift_133 : decode cX8_drift 133 = .ok (.iload_n 3, 1) := by decide +kernel
theorem dX8_drift_134 : decode cX8_drift 134 = .ok (.aload_n 0, 1) := by decide +kernel
theorem dX8_drift_135 : decode cX8_drift 135 = .ok (.getfield 23, 3) := by decide +kernel
theorem dX8_drift_138 : decode cX8_drift 138 = .ok (.iload 4, 2) := by decide +kernel
theorem dX8_drift_140 : decode cX8_drift 140 = .ok (.iload_n 3, 1) := by decide +kernel
theorem dX8_drift_141 : decode cX8_drift 141 = .ok (.aload_n 0, 1) := by decide +kernel
theorem dX8_drift_142 : decode cX8_drift 142 = .ok (.getfield 23, 3) := by decide +kernel
theorem dX8_drift_145 : decode cX8_drift 145 = .ok (.iconst 3, 1) := by decide +kernel
theorem dX8_drift_146 : decode cX8_drift 146 = .ok (.iaload, 1) := by decide +kernel
theorem dX8_drift_147 : decode cX8_drift 147 = .ok (.invokestatic 81, 3) := by decide +kernel
theorem dX8_drift_150 : decode cX8_drift 150 = .ok (.invokevirtual 128, 3) := by decide +kernel
theorem dX8_drift_153 : decode cX8_drift 153 = .ok (.iinc 2 1, 3) := by decide +kernel
theorem dX8_drift_156 : decode cX8_drift 156 = .ok (.goto (-125), 3) := by decide +kernel
theorem dX8_drift_159 : decode cX8_drift 159 = .ok (.aload_n 0, 1) := by decide +kernel
theorem dX8_drift_160 : decode cX8_drift 160 = .ok (.getfield 23, 3) := by decide +kernel
theorem dX8_drift_163 : decode cX8_drift 163 = .ok (.iconst 2, 1) := by decide +kernel
theorem dX8_drift_164 : decode cX8_drift 164 = .ok (.iaload, 1) := by decide +kernel
theorem dX8_drift_165 : decode cX8_drift 165 = .ok (.ireturn, 1) := by decide +kernel
set_option maxRecDepth 20000 in
theorem ggX8_undo_X8_bring : GoodIn wsX8_undo wsX8_bring := goodIn_r _ [5] (by decide +kernel) (by decide +kernel)
set_option maxRecDepth 20000 in
theorem gX8_undo_X8_bring : GoodIn wsX8_undo (va_wsS RX8 118 yX8_bring wsX8_bring) := goodIn_app (goodIn_of _ (by decide +kernel)) ggX8_undo_X8_bring
theorem dX8_undo_0 : decode cX8_undo 0 = .ok (.aload_n 0, 1) := by decide +kernel
theorem dX8_undo_1 : decode cX8_undo 1 = .ok (.getfield 23, 3) := by decide +kernel
theorem dX8_undo_4 : decode cX8_undo 4 = .ok (.bipush 22, 2) := by decide +kernel
theorem dX8_undo_6 : decode cX8_undo 6 = .ok (.iaload, 1) := by decide +kernel
theorem dX8_undo_7 : decode cX8_undo 7 = .ok (.ifCond .ne 6, 3) := by decide +kernel
theorem dX8_undo_10 : decode cX8_undo 10 = .ok (.bipush (-4), 2) := by decide +kernel
theorem dX8_undo_12 : decode cX8_undo 12 = .ok (.ireturn, 1) := by decide +kernel
theorem dX8_undo_13 : decode cX8_undo 13 = .ok (.aload_n 0, 1) := by decide +kernel
theorem dX8_undo_14 : decode cX8_undo 14 = .ok (.getfield 23, 3) := by decide +kernel
theorem dX8_undo_17 : decode cX8_undo 17 = .ok (.bipush 22, 2) := by decide +kernel
theorem dX8_undo_19 : decode cX8_undo 19 = .ok (.dup2, 1) := by decide +kernel
theorem dX8_undo_20 : decode cX8_undo 20 = .ok (.iaload, 1) := by decide +kernel
theorem dX8_undo_21 : decode cX8_undo 21 = .ok (.iconst 1, 1) := by decide +kernel
theorem dX8_undo_22 : decode cX8_undo 22 = .ok (.isub, 1) := by decide +kernel
theorem dX8_undo_23 : decode cX8_undo 23 = .ok (.iastore, 1) := by decide +kernel
theorem dX8_undo_24 : decode cX8_undo 24 = .ok (.aload_n 0, 1) := by decide +kernel
theorem dX8_undo_25 : decode cX8_undo 25 = .ok (.getfield 23, 3) := by decide +kernel
theorem dX8_undo_28 : decode cX8_undo 28 = .ok (.bipush 23, 2) := by decide +kernel
theorem dX8_undo_30 : decode cX8_undo 30 = .ok (.iconst 4, 1) := by decide +kernel
theorem dX8_undo_31 : decode cX8_undo 31 = .ok (.aload_n 0, 1) := by decide +kernel
theorem dX8_undo_32 : decode cX8_undo 32 = .ok (.getfield 23, 3) := by decide +kernel
theorem dX8_undo_35 : decode cX8_undo 35 = .ok (.bipush 22, 2) := by decide +kernel
theorem dX8_undo_37 : decode cX8_undo 37 = .ok (.iaload, 1) := by decide +kernel
theorem dX8_undo_38 : decode cX8_undo 38 = .ok (.imul, 1) := by decide +kernel
theorem dX8_undo_39 : decode cX8_undo 39 = .ok (.iadd, 1) := by decide +kernel
theorem dX8_undo_40 : decode cX8_undo 40 = .ok (.aload_n 0, 1) := by decide +kernel
theorem dX8_undo_41 : decode cX8_undo 41 = .ok (.getfield 23, 3) := by decide +kernel
theorem dX8_undo_44 : decode cX8_undo 44 = .ok (.iconst 0, 1) := by decide +kernel
theorem dX8_undo_45 : decode cX8_undo 45 = .ok (.iconst 4, 1) := by decide +kernel
theorem dX8_undo_46 : decode cX8_undo 46 = .ok (.invokestatic 118, 3) := by decide +kernel
theorem dX8_undo_49 : decode cX8_undo 49 = .ok (.aload_n 0, 1) := by decide +kernel
theorem dX8_undo_50 : decode cX8_undo 50 = .ok (.getfield 23, 3) := by decide +kernel
theorem dX8_undo_53 : decode cX8_undo 53 = .ok (.bipush 22, 2) := by decide +kernel
theorem dX8_undo_55 : decode cX8_undo 55 = .ok (.iaload, 1) := by decide +kernel
theorem dX8_undo_56 : decode cX8_undo 56 = .ok (.ireturn, 1) := by decide +kernel
theorem dX8_seed_0 : decode cX8_seed 0 = .ok (.iload_n 1, 1) := by decide +kernel
theorem dX8_seed_1 : decode cX8_seed 1 = .ok (.ifCond .ge 5, 3) := by decide +kernel
theorem dX8_seed_4 : decode cX8_seed 4 = .ok (.iconst (-1), 1) := by decide +kernel
theorem dX8_seed_5 : decode cX8_seed 5 = .ok (.ireturn, 1) := by decide +kernel
theorem dX8_seed_6 : decode cX8_seed 6 = .ok (.aload_n 0, 1) := by decide +kernel
theorem dX8_seed_7 : decode cX8_seed 7 = .ok (.getfield 23, 3) := by decide +kernel
theorem dX8_seed_10 : decode cX8_seed 10 = .ok (.iconst 1, 1) := by decide +kernel
theorem dX8_seed_11 : decode cX8_seed 11 = .ok (.iaload, 1) := by decide +kernel
theorem dX8_seed_12 : decode cX8_seed 12 = .ok (.istore_n 2, 1) := by decide +kernel
theorem dX8_seed_13 : decode cX8_seed 13 = .ok (.aload_n 0, 1) := by decide +kernel
theorem dX8_seed_14 : decode cX8_seed 14 = .ok (.getfield 23, 3) := by decide +kernel
theorem dX8_seed_17 : decode cX8_seed 17 = .ok (.iconst 1, 1) := by decide +kernel
theorem dX8_seed_18 : decode cX8_seed 18 = .ok (.iload_n 1, 1) := by decide +kernel
theorem dX8_seed_19 : decode cX8_seed 19 = .ok (.iastore, 1) := by decide +kernel
theorem dX8_seed_20 : decode cX8_seed 20 = .ok (.iload_n 2, 1) := by decide +kernel
theorem dX8_seed_21 : decode cX8_seed 21 = .ok (.ireturn, 1) := by decide +kernel
set_option maxRecDepth 20000 in
theorem ggX8_tells_X8_isTaster : GoodIn wsX8_tells wsX8_isTaster := goodIn_r _ [6, 1, 7, 8, 5, 9, 32, 33, 34, 35, 36, 37, 38, 39, 40, 41, 42, 43, 44, 45, 46, 47, 48, 49] (by decide +kernel) (by decide +kernel)
set_option maxRecDepth 20000 in
theorem gX8_tells_X8_isTaster : GoodIn wsX8_tells (wsV RX8 64 RX8 yX8_isTaster wsX8_isTaster) := goodIn_app (goodIn_of _ (by decide +kernel)) ggX8_tells_X8_isTaster
set_option maxRecDepth 20000 in
theorem ggX8_tells_X8_isMix : GoodIn wsX8_tells wsX8_isMix := goodIn_r _ [13, 1, 14, 15, 5, 16, 7, 8, 9, 32, 33, 34, 35, 36, 37, 38, 39, 40, 41, 42, 43, 44, 45, 46, 47, 48, 49] (by decide +kernel) (by decide +kernel)
set_option maxRecDepth 20000 in
theorem gX8_tells_X8_isMix : GoodIn wsX8_tells (wsV RX8 78 RX8 yX8_isMix wsX8_isMix) := goodIn_app (goodIn_of _ (by decide +kernel)) ggX8_tells_X8_isMix
set_option maxRecDepth 20000 in
theorem ggX8_tells_X8_noticedBy : GoodIn wsX8_tells wsX8_noticedBy := goodIn_r _ [19, 20, 21, 5, 22, 23, 24, 25, 26, 27, 28, 29, 30, 31] (by decide +kernel) (by decide +kernel)
set_option maxRecDepth 20000 in
theorem gX8_tells_X8_noticedBy : GoodIn wsX8_tells (va_wsS RX8 122 yX8_noticedBy wsX8_noticedBy) := goodIn_app (goodIn_of _ (by decide +kernel)) ggX8_tells_X8_noticedBy
theorem dX8_tells_0 : decode cX8_tells 0 = .ok (.aload_n 0, 1) := by decide +kernel
theorem dX8_tells_1 : decode cX8_tells 1 = .ok (.iload_n 1, 1) := by decide +kernel
theorem dX8_tells_2 : decode cX8_tells 2 = .ok (.invokevirtual 64, 3) := by decide +kernel
theorem dX8_tells_5 : decode cX8_tells 5 = .ok (.ifCond .eq 11, 3) := by decide +kernel
theorem dX8_tells_8 : decode cX8_tells 8 = .ok (.aload_n 0, 1) := by decide +kernel
theorem dX8_tells_9 : decode cX8_tells 9 = .ok (.iload_n 2, 1) := by decide +kernel
theorem dX8_tells_10 : decode cX8_tells 10 = .ok (.invokevirtual 78, 3) := by decide +kernel
theorem dX8_tells_13 : decode cX8_tells 13 = .ok (.ifCond .ne 5, 3) := by decide +kernel
theorem dX8_tells_16 : decode cX8_tells 16 = .ok (.iconst (-1), 1) := by decide +kernel
theorem dX8_tells_17 : decode cX8_tells 17 = .ok (.ireturn, 1) := by decide +kernel
theorem dX8_tells_18 : decode cX8_tells 18 = .ok (.aload_n 0, 1) := by decide +kernel
theorem dX8_tells_19 : decode cX8_tells 19 = .ok (.getfield 23, 3) := by decide +kernel
theorem dX8_tells_22 : decode cX8_tells 22 = .ok (.iload_n 1, 1) := by decide +kernel
theorem dX8_tells_23 : decode cX8_tells 23 = .ok (.iload_n 2, 1) := by decide +kernel
theorem dX8_tells_24 : decode cX8_tells 24 = .ok (.invokestatic 122, 3) := by decide +kernel
theorem dX8_tells_27 : decode cX8_tells 27 = .ok (.aload_n 0, 1) := by decide +kernel
theorem dX8_tells_28 : decode cX8_tells 28 = .ok (.getfield 23, 3) := by decide +kernel
theorem dX8_tells_31 : decode cX8_tells 31 = .ok (.iconst 2, 1) := by decide +kernel
theorem dX8_tells_32 : decode cX8_tells 32 = .ok (.iaload, 1) := by decide +kernel
theorem dX8_tells_33 : decode cX8_tells 33 = .ok (.iand, 1) := by decide +kernel
theorem dX8_tells_34 : decode cX8_tells 34 = .ok (.ireturn, 1) := by decide +kernel
set_option maxRecDepth 20000 in
theorem ggX8_layNoticed_X8_allOf : GoodIn wsX8_layNoticed wsX8_allOf := goodIn_r _ [6] (by decide +kernel) (by decide +kernel)
set_option maxRecDepth 20000 in
theorem gX8_layNoticed_X8_allOf : GoodIn wsX8_layNoticed (va_wsS RX8 48 yX8_allOf wsX8_allOf) := goodIn_app (goodIn_of _ (by decide +kernel)) ggX8_layNoticed_X8_allOf
set_option maxRecDepth 20000 in
theorem ggX8_layNoticed_X8_noticedBy : GoodIn wsX8_layNoticed wsX8_noticedBy := goodIn_r _ [9, 10, 11, 5, 12, 13, 14, 15, 16, 17, 18, 19, 20, 21] (by decide +kernel) (by decide +kernel)
set_option maxRecDepth 20000 in
theorem gX8_layNoticed_X8_noticedBy : GoodIn wsX8_layNoticed (va_wsS RX8 122 yX8_noticedBy wsX8_noticedBy) := goodIn_app (goodIn_of _ (by decide +kernel)) ggX8_layNoticed_X8_noticedBy
theorem dX8_layNoticed_0 : decode cX8_layNoticed 0 = .ok (.iconst 1, 1) := by decide +kernel
theorem dX8_layNoticed_1 : decode cX8_layNoticed 1 = .ok (.istore_n 2, 1) := by decide +kernel
theorem dX8_layNoticed_2 : decode cX8_layNoticed 2 = .ok (.iload_n 2, 1) := by decide +kernel
theorem dX8_layNoticed_3 : decode cX8_layNoticed 3 = .ok (.aload_n 0, 1) := by decide +kernel
theorem dX8_layNoticed_4 : decode cX8_layNoticed 4 = .ok (.getfield 23, 3) := by decide +kernel
theorem dX8_layNoticed_7 : decode cX8_layNoticed 7 = .ok (.invokestatic 48, 3) := by decide +kernel
theorem dX8_layNoticed_10 : decode cX8_layNoticed 10 = .ok (.if_icmp .gt 24, 3) := by decide +kernel
theorem dX8_layNoticed_13 : decode cX8_layNoticed 13 = .ok (.aload_n 0, 1) := by decide +kernel
theorem dX8_layNoticed_14 : decode cX8_layNoticed 14 = .ok (.getfield 35, 3) := by decide +kernel
theorem dX8_layNoticed_17 : decode cX8_layNoticed 17 = .ok (.iload_n 2, 1) := by decide +kernel
theorem dX8_layNoticed_18 : decode cX8_layNoticed 18 = .ok (.aload_n 0, 1) := by decide +kernel
theorem dX8_layNoticed_19 : decode cX8_layNoticed 19 = .ok (.getfield 23, 3) := by decide +kernel
theorem dX8_layNoticed_22 : decode cX8_layNoticed 22 = .ok (.iload_n 1, 1) := by decide +kernel
theorem dX8_layNoticed_23 : decode cX8_layNoticed 23 = .ok (.iload_n 2, 1) := by decide +kernel
theorem dX8_layNoticed_24 : decode cX8_layNoticed 24 = .ok (.invokestatic 122, 3) := by decide +kernel
theorem dX8_layNoticed_27 : decode cX8_layNoticed 27 = .ok (.iastore, 1) := by decide +kernel
theorem dX8_layNoticed_28 : decode cX8_layNoticed 28 = .ok (.iinc 2 1, 3) := by decide +kernel
theorem dX8_layNoticed_31 : decode cX8_layNoticed 31 = .ok (.goto (-29), 3) := by decide +kernel
theorem dX8_layNoticed_34 : decode cX8_layNoticed 34 = .ok (.return_, 1) := by decide +kernel
theorem dX8_needBy_0 : decode cX8_needBy 0 = .ok (.iload_n 1, 1) := by decide +kernel
theorem dX8_needBy_1 : decode cX8_needBy 1 = .ok (.aload_n 0, 1) := by decide +kernel
theorem dX8_needBy_2 : decode cX8_needBy 2 = .ok (.getfield 35, 3) := by decide +kernel
theorem dX8_needBy_5 : decode cX8_needBy 5 = .ok (.iload_n 2, 1) := by decide +kernel
theorem dX8_needBy_6 : decode cX8_needBy 6 = .ok (.iaload, 1) := by decide +kernel
theorem dX8_needBy_7 : decode cX8_needBy 7 = .ok (.iand, 1) := by decide +kernel
theorem dX8_needBy_8 : decode cX8_needBy 8 = .ok (.istore_n 3, 1) := by decide +kernel
theorem dX8_needBy_9 : decode cX8_needBy 9 = .ok (.iload_n 1, 1) := by decide +kernel
theorem dX8_needBy_10 : decode cX8_needBy 10 = .ok (.aload_n 0, 1) := by decide +kernel
theorem dX8_needBy_11 : decode cX8_needBy 11 = .ok (.getfield 35, 3) := by decide +kernel
theorem dX8_needBy_14 : decode cX8_needBy 14 = .ok (.iload_n 2, 1) := by decide +kernel
theorem dX8_needBy_15 : decode cX8_needBy 15 = .ok (.iaload, 1) := by decide +kernel
theorem dX8_needBy_16 : decode cX8_needBy 16 = .ok (.iconst (-1), 1) := by decide +kernel
theorem dX8_needBy_17 : decode cX8_needBy 17 = .ok (.ixor, 1) := by decide +kernel
theorem dX8_needBy_18 : decode cX8_needBy 18 = .ok (.iand, 1) := by decide +kernel
theorem dX8_needBy_19 : decode cX8_needBy 19 = .ok (.istore 4, 2) := by decide +kernel
theorem dX8_needBy_21 : decode cX8_needBy 21 = .ok (.iload_n 3, 1) := by decide +kernel
theorem dX8_needBy_22 : decode cX8_needBy 22 = .ok (.ifCond .eq 8, 3) := by decide +kernel
theorem dX8_needBy_25 : decode cX8_needBy 25 = .ok (.iload 4, 2) := by decide +kernel
theorem dX8_needBy_27 : decode cX8_needBy 27 = .ok (.ifCond .ne 6, 3) := by decide +kernel
theorem dX8_needBy_30 : decode cX8_needBy 30 = .ok (.bipush 99, 2) := by decide +kernel
theorem dX8_needBy_32 : decode cX8_needBy 32 = .ok (.ireturn, 1) := by decide +kernel
theorem dX8_needBy_33 : decode cX8_needBy 33 = .ok (.iconst 1, 1) := by decide +kernel
theorem dX8_needBy_34 : decode cX8_needBy 34 = .ok (.aload_n 0, 1) := by decide +kernel
theorem dX8_needBy_35 : decode cX8_needBy 35 = .ok (.getfield 38, 3) := by decide +kernel
theorem dX8_needBy_38 : decode cX8_needBy 38 = .ok (.iload_n 3, 1) := by decide +kernel
theorem dX8_needBy_39 : decode cX8_needBy 39 = .ok (.iaload, 1) := by decide +kernel
theorem dX8_needBy_40 : decode cX8_needBy 40 = .ok (.aload_n 0, 1) := by decide +kernel
theorem dX8_needBy_41 : decode cX8_needBy 41 = .ok (.getfield 38, 3) := by decide +kernel
theorem dX8_needBy_44 : decode cX8_needBy 44 = .ok (.iload 4, 2) := by decide +kernel
theorem dX8_needBy_46 : decode cX8_needBy 46 = .ok (.iaload, 1) := by decide +kernel
theorem dX8_needBy_47 : decode cX8_needBy 47 = .ok (.if_icmp .le 12, 3) := by decide +kernel
theorem dX8_needBy_50 : decode cX8_needBy 50 = .ok (.aload_n 0, 1) := by decide +kernel
theorem dX8_needBy_51 : decode cX8_needBy 51 = .ok (.getfield 38, 3) := by decide +kernel
theorem dX8_needBy_54 : decode cX8_needBy 54 = .ok (.iload_n 3, 1) := by decide +kernel
theorem dX8_needBy_55 : decode cX8_needBy 55 = .ok (.iaload, 1) := by decide +kernel
theorem dX8_needBy_56 : decode cX8_needBy 56 = .ok (.goto 10, 3) := by decide +kernel
theorem dX8_needBy_59 : decode cX8_needBy 59 = .ok (.aload_n 0, 1) := by decide +kernel
theorem dX8_needBy_60 : decode cX8_needBy 60 = .ok (.getfield 38, 3) := by decide +kernel
theorem dX8_needBy_63 : decode cX8_needBy 63 = .ok (.iload 4, 2) := by decide +kernel
theorem dX8_needBy_65 : decode cX8_needBy 65 = .ok (.iaload, 1) := by decide +kernel
theorem dX8_needBy_66 : decode cX8_needBy 66 = .ok (.iadd, 1) := by decide +kernel
theorem dX8_needBy_67 : decode cX8_needBy 67 = .ok (.ireturn, 1) := by decide +kernel
set_option maxRecDepth 20000 in
theorem ggX8_layNeeds_X8_allOf : GoodIn wsX8_layNeeds wsX8_allOf := goodIn_r _ [6] (by decide +kernel) (by decide +kernel)
set_option maxRecDepth 20000 in
theorem gX8_layNeeds_X8_allOf : GoodIn wsX8_layNeeds (va_wsS RX8 48 yX8_allOf wsX8_allOf) := goodIn_app (goodIn_of _ (by decide +kernel)) ggX8_layNeeds_X8_allOf
set_option maxRecDepth 20000 in
theorem ggX8_layNeeds_X8_bits : GoodIn wsX8_layNeeds wsX8_bits := goodIn_r _ [9] (by decide +kernel) (by decide +kernel)
set_option maxRecDepth 20000 in
theorem gX8_layNeeds_X8_bits : GoodIn wsX8_layNeeds (va_wsS RX8 74 yX8_bits wsX8_bits) := goodIn_app (goodIn_of _ (by decide +kernel)) ggX8_layNeeds_X8_bits
set_option maxRecDepth 20000 in
theorem ggX8_layNeeds_X8_needBy : GoodIn wsX8_layNeeds wsX8_needBy := goodIn_r _ [13, 14, 2, 15, 16, 17, 18, 19, 20, 21, 22, 23, 24, 25, 26, 27, 28, 29, 30, 31, 32] (by decide +kernel) (by decide +kernel)
set_option maxRecDepth 20000 in
theorem gX8_layNeeds_X8_needBy : GoodIn wsX8_layNeeds (wsV RX8 139 RX8 yX8_needBy wsX8_needBy) := goodIn_app (goodIn_of _ (by decide +kernel)) ggX8_layNeeds_X8_needBy
theorem dX8_layNeeds_0 : decode cX8_layNeeds 0 = .ok (.iconst 0, 1) := by decide +kernel
theorem dX8_layNeeds_1 : decode cX8_layNeeds 1 = .ok (.istore_n 1, 1) := by decide +kernel
theorem dX8_layNeeds_2 : decode cX8_layNeeds 2 = .ok (.iload_n 1, 1) := by decide +kernel
theorem dX8_layNeeds_3 : decode cX8_layNeeds 3 = .ok (.aload_n 0, 1) := by decide +kernel
theorem dX8_layNeeds_4 : decode cX8_layNeeds 4 = .ok (.getfield 23, 3) := by decide +kernel
theorem dX8_layNeeds_7 : decode cX8_layNeeds 7 = .ok (.invokestatic 48, 3) := by decide +kernel
theorem dX8_layNeeds_10 : decode cX8_layNeeds 10 = .ok (.if_icmp .gt 79, 3) := by decide +kernel
theorem dX8_layNeeds_13 : decode cX8_layNeeds 13 = .ok (.iload_n 1, 1) := by decide +kernel
theorem dX8_layNeeds_14 : decode cX8_layNeeds 14 = .ok (.invokestatic 74, 3) := by decide +kernel
theorem dX8_layNeeds_17 : decode cX8_layNeeds 17 = .ok (.iconst 2, 1) := by decide +kernel
theorem dX8_layNeeds_18 : decode cX8_layNeeds 18 = .ok (.if_icmp .ge 7, 3) := by decide +kernel
theorem dX8_layNeeds_21 : decode cX8_layNeeds 21 = .ok (.iconst 0, 1) := by decide +kernel
theorem dX8_layNeeds_22 : decode cX8_layNeeds 22 = .ok (.goto 5, 3) := by decide +kernel
theorem dX8_layNeeds_25 : decode cX8_layNeeds 25 = .ok (.bipush 99, 2) := by decide +kernel
theorem dX8_layNeeds_27 : decode cX8_layNeeds 27 = .ok (.istore_n 2, 1) := by decide +kernel
theorem dX8_layNeeds_28 : decode cX8_layNeeds 28 = .ok (.iconst 1, 1) := by decide +kernel
theorem dX8_layNeeds_29 : decode cX8_layNeeds 29 = .ok (.istore_n 3, 1) := by decide +kernel
theorem dX8_layNeeds_30 : decode cX8_layNeeds 30 = .ok (.iload_n 3, 1) := by decide +kernel
theorem dX8_layNeeds_31 : decode cX8_layNeeds 31 = .ok (.aload_n 0, 1) := by decide +kernel
theorem dX8_layNeeds_32 : decode cX8_layNeeds 32 = .ok (.getfield 23, 3) := by decide +kernel
theorem dX8_layNeeds_35 : decode cX8_layNeeds 35 = .ok (.invokestatic 48, 3) := by decide +kernel
theorem dX8_layNeeds_38 : decode cX8_layNeeds 38 = .ok (.if_icmp .gt 38, 3) := by decide +kernel
theorem dX8_layNeeds_41 : decode cX8_layNeeds 41 = .ok (.iload_n 1, 1) := by decide +kernel
theorem dX8_layNeeds_42 : decode cX8_layNeeds 42 = .ok (.invokestatic 74, 3) := by decide +kernel
theorem dX8_layNeeds_45 : decode cX8_layNeeds 45 = .ok (.iconst 1, 1) := by decide +kernel
theorem dX8_layNeeds_46 : decode cX8_layNeeds 46 = .ok (.if_icmp .le 30, 3) := by decide +kernel
theorem dX8_layNeeds_49 : decode cX8_layNeeds 49 = .ok (.aload_n 0, 1) := by decide +kernel
theorem dX8_layNeeds_50 : decode cX8_layNeeds 50 = .ok (.iload_n 1, 1) := by decide +kernel
theorem dX8_layNeeds_51 : decode cX8_layNeeds 51 = .ok (.iload_n 3, 1) := by decide +kernel
theorem dX8_layNeeds_52 : decode cX8_layNeeds 52 = .ok (.invokevirtual 139, 3) := by decide +kernel
theorem dX8_layNeeds_55 : decode cX8_layNeeds 55 = .ok (.istore 4, 2) := by decide +kernel
theorem dX8_layNeeds_57 : decode cX8_layNeeds 57 = .ok (.iload 4, 2) := by decide +kernel
theorem dX8_layNeeds_59 : decode cX8_layNeeds 59 = .ok (.iload_n 2, 1) := by decide +kernel
theorem dX8_layNeeds_60 : decode cX8_layNeeds 60 = .ok (.if_icmp .ge 8, 3) := by decide +kernel
theorem dX8_layNeeds_63 : decode cX8_layNeeds 63 = .ok (.iload 4, 2) := by decide +kernel
theorem dX8_layNeeds_65 : decode cX8_layNeeds 65 = .ok (.goto 4, 3) := by decide +kernel
theorem dX8_layNeeds_68 : decode cX8_layNeeds 68 = .ok (.iload_n 2, 1) := by decide +kernel
theorem dX8_layNeeds_69 : decode cX8_layNeeds 69 = .ok (.istore_n 2, 1) := by decide +kernel
theorem dX8_layNeeds_70 : decode cX8_layNeeds 70 = .ok (.iinc 3 1, 3) := by decide +kernel
theorem dX8_layNeeds_73 : decode cX8_layNeeds 73 = .ok (.goto (-43), 3) := by decide +kernel
theorem dX8_layNeeds_76 : decode cX8_layNeeds 76 = .ok (.aload_n 0, 1) := by decide +kernel
theorem dX8_layNeeds_77 : decode cX8_layNeeds 77 = .ok (.getfield 38, 3) := by decide +kernel
theorem dX8_layNeeds_80 : decode cX8_layNeeds 80 = .ok (.iload_n 1, 1) := by decide +kernel
theorem dX8_layNeeds_81 : decode cX8_layNeeds 81 = .ok (.iload_n 2, 1) := by decide +kernel
theorem dX8_layNeeds_82 : decode cX8_layNeeds 82 = .ok (.iastore, 1) := by decide +kernel
theorem dX8_layNeeds_83 : decode cX8_layNeeds 83 = .ok (.iinc 1 1, 3) := by decide +kernel
theorem dX8_layNeeds_86 : decode cX8_layNeeds 86 = .ok (.goto (-84), 3) := by decide +kernel
theorem dX8_layNeeds_89 : decode cX8_layNeeds 89 = .ok (.return_, 1) := by decide +kernel
set_option maxRecDepth 20000 in
theorem ggX8_fewest_X8_isTaster : GoodIn wsX8_fewest wsX8_isTaster := goodIn_r _ [7, 2, 8, 9, 6, 10, 42, 43, 44, 45, 46, 47, 48, 49, 50, 51, 52, 53, 54, 55, 56, 57, 58, 59] (by decide +kernel) (by decide +kernel)
set_option maxRecDepth 20000 in
theorem gX8_fewest_X8_isTaster : GoodIn wsX8_fewest (wsV RX8 64 RX8 yX8_isTaster wsX8_isTaster) := goodIn_app (goodIn_of _ (by decide +kernel)) ggX8_fewest_X8_isTaster
set_option maxRecDepth 20000 in
theorem ggX8_fewest_X8_layNoticed : GoodIn wsX8_fewest wsX8_layNoticed := goodIn_r _ [14, 2, 15, 16, 17, 6, 18, 19, 20, 21, 22, 23, 24, 25, 26, 27, 28, 29, 30, 31, 32, 33, 42, 43, 44, 45, 46, 47, 48, 49, 50, 51, 52, 53, 54, 55, 56, 57, 58, 59] (by decide +kernel) (by decide +kernel)
set_option maxRecDepth 20000 in
theorem gX8_fewest_X8_layNoticed : GoodIn wsX8_fewest (wsV RX8 143 RX8 yX8_layNoticed wsX8_layNoticed) := goodIn_app (goodIn_of _ (by decide +kernel)) ggX8_fewest_X8_layNoticed
set_option maxRecDepth 20000 in
theorem ggX8_fewest_X8_layNeeds : GoodIn wsX8_fewest wsX8_layNeeds := goodIn_r _ [37, 2, 1, 16, 17, 6, 18, 31, 32, 33, 38, 39, 40, 41, 15, 42, 43, 44, 45, 46, 47, 48, 49, 50, 51, 52, 53, 54, 55, 56, 57, 58, 59] (by decide +kernel) (by decide +kernel)
set_option maxRecDepth 20000 in
theorem gX8_fewest_X8_layNeeds : GoodIn wsX8_fewest (wsV RX8 147 RX8 yX8_layNeeds wsX8_layNeeds) := goodIn_app (goodIn_of _ (by decide +kernel)) ggX8_fewest_X8_layNeeds
theorem dX8_fewest_0 : decode cX8_fewest 0 = .ok (.aload_n 0, 1) := by decide +kernel
theorem dX8_fewest_1 : decode cX8_fewest 1 = .ok (.iload_n 1, 1) := by decide +kernel
theorem dX8_fewest_2 : decode cX8_fewest 2 = .ok (.invokevirtual 64, 3) := by decide +kernel
theorem dX8_fewest_5 : decode cX8_fewest 5 = .ok (.ifCond .ne 5, 3) := by decide +kernel
theorem dX8_fewest_8 : decode cX8_fewest 8 = .ok (.iconst (-1), 1) := by decide +kernel
theorem dX8_fewest_9 : decode cX8_fewest 9 = .ok (.ireturn, 1) := by decide +kernel
theorem dX8_fewest_10 : decode cX8_fewest 10 = .ok (.aload_n 0, 1) := by decide +kernel
theorem dX8_fewest_11 : decode cX8_fewest 11 = .ok (.iload_n 1, 1) := by decide +kernel
theorem dX8_fewest_12 : decode cX8_fewest 12 = .ok (.invokevirtual 143, 3) := by decide +kernel
theorem dX8_fewest_15 : decode cX8_fewest 15 = .ok (.aload_n 0, 1) := by decide +kernel
theorem dX8_fewest_16 : decode cX8_fewest 16 = .ok (.invokevirtual 147, 3) := by decide +kernel
theorem dX8_fewest_19 : decode cX8_fewest 19 = .ok (.aload_n 0, 1) := by decide +kernel
theorem dX8_fewest_20 : decode cX8_fewest 20 = .ok (.getfield 38, 3) := by decide +kernel
theorem dX8_fewest_23 : decode cX8_fewest 23 = .ok (.aload_n 0, 1) := by decide +kernel
theorem dX8_fewest_24 : decode cX8_fewest 24 = .ok (.getfield 23, 3) := by decide +kernel
theorem dX8_fewest_27 : decode cX8_fewest 27 = .ok (.iconst 2, 1) := by decide +kernel
theorem dX8_fewest_28 : decode cX8_fewest 28 = .ok (.iaload, 1) := by decide +kernel
theorem dX8_fewest_29 : decode cX8_fewest 29 = .ok (.iaload, 1) := by decide +kernel
theorem dX8_fewest_30 : decode cX8_fewest 30 = .ok (.bipush 99, 2) := by decide +kernel
theorem dX8_fewest_32 : decode cX8_fewest 32 = .ok (.if_icmp .lt 8, 3) := by decide +kernel
theorem dX8_fewest_35 : decode cX8_fewest 35 = .ok (.bipush (-4), 2) := by decide +kernel
theorem dX8_fewest_37 : decode cX8_fewest 37 = .ok (.goto 14, 3) := by decide +kernel
theorem dX8_fewest_40 : decode cX8_fewest 40 = .ok (.aload_n 0, 1) := by decide +kernel
theorem dX8_fewest_41 : decode cX8_fewest 41 = .ok (.getfield 38, 3) := by decide +kernel
theorem dX8_fewest_44 : decode cX8_fewest 44 = .ok (.aload_n 0, 1) := by decide +kernel
theorem dX8_fewest_45 : decode cX8_fewest 45 = .ok (.getfield 23, 3) := by decide +kernel
theorem dX8_fewest_48 : decode cX8_fewest 48 = .ok (.iconst 2, 1) := by decide +kernel
theorem dX8_fewest_49 : decode cX8_fewest 49 = .ok (.iaload, 1) := by decide +kernel
theorem dX8_fewest_50 : decode cX8_fewest 50 = .ok (.iaload, 1) := by decide +kernel
theorem dX8_fewest_51 : decode cX8_fewest 51 = .ok (.ireturn, 1) := by decide +kernel
set_option maxRecDepth 20000 in
theorem ggX8_next_X8_isTaster : GoodIn wsX8_next wsX8_isTaster := goodIn_r _ [7, 2, 8, 9, 6, 10, 42, 43, 44, 45, 46, 47, 48, 49, 50, 51, 52, 53, 54, 55, 56, 57, 58, 59] (by decide +kernel) (by decide +kernel)
set_option maxRecDepth 20000 in
theorem gX8_next_X8_isTaster : GoodIn wsX8_next (wsV RX8 64 RX8 yX8_isTaster wsX8_isTaster) := goodIn_app (goodIn_of _ (by decide +kernel)) ggX8_next_X8_isTaster
set_option maxRecDepth 20000 in
theorem ggX8_next_X8_layNoticed : GoodIn wsX8_next wsX8_layNoticed := goodIn_r _ [14, 2, 15, 16, 17, 6, 18, 19, 20, 21, 22, 23, 24, 25, 26, 27, 28, 29, 30, 31, 32, 33, 42, 43, 44, 45, 46, 47, 48, 49, 50, 51, 52, 53, 54, 55, 56, 57, 58, 59] (by decide +kernel) (by decide +kernel)
set_option maxRecDepth 20000 in
theorem gX8_next_X8_layNoticed : GoodIn wsX8_next (wsV RX8 143 RX8 yX8_layNoticed wsX8_layNoticed) := goodIn_app (goodIn_of _ (by decide +kernel)) ggX8_next_X8_layNoticed
set_option maxRecDepth 20000 in
theorem ggX8_next_X8_layNeeds : GoodIn wsX8_next wsX8_layNeeds := goodIn_r _ [37, 2, 1, 16, 17, 6, 18, 31, 32, 33, 38, 39, 40, 41, 15, 42, 43, 44, 45, 46, 47, 48, 49, 50, 51, 52, 53, 54, 55, 56, 57, 58, 59] (by decide +kernel) (by decide +kernel)
set_option maxRecDepth 20000 in
theorem gX8_next_X8_layNeeds : GoodIn wsX8_next (wsV RX8 147 RX8 yX8_layNeeds wsX8_layNeeds) := goodIn_app (goodIn_of _ (by decide +kernel)) ggX8_next_X8_layNeeds
set_option maxRecDepth 20000 in
theorem ggX8_next_X8_allOf : GoodIn wsX8_next wsX8_allOf := goodIn_r _ [18] (by decide +kernel) (by decide +kernel)
set_option maxRecDepth 20000 in
theorem gX8_next_X8_allOf : GoodIn wsX8_next (va_wsS RX8 48 yX8_allOf wsX8_allOf) := goodIn_app (goodIn_of _ (by decide +kernel)) ggX8_next_X8_allOf
set_option maxRecDepth 20000 in
theorem ggX8_next_X8_needBy : GoodIn wsX8_next wsX8_needBy := goodIn_r _ [41, 15, 1, 42, 43, 44, 45, 46, 47, 48, 49, 50, 51, 52, 53, 54, 55, 56, 57, 58, 59] (by decide +kernel) (by decide +kernel)
set_option maxRecDepth 20000 in
theorem gX8_next_X8_needBy : GoodIn wsX8_next (wsV RX8 139 RX8 yX8_needBy wsX8_needBy) := goodIn_app (goodIn_of _ (by decide +kernel)) ggX8_next_X8_needBy
theorem dX8_next_0 : decode cX8_next 0 = .ok (.aload_n 0, 1) := by decide +kernel
theorem dX8_next_1 : decode cX8_next 1 = .ok (.iload_n 1, 1) := by decide +kernel
theorem dX8_next_2 : decode cX8_next 2 = .ok (.invokevirtual 64, 3) := by decide +kernel
theorem dX8_next_5 : decode cX8_next 5 = .ok (.ifCond .ne 5, 3) := by decide +kernel
theorem dX8_next_8 : decode cX8_next 8 = .ok (.iconst (-1), 1) := by decide +kernel
theorem dX8_next_9 : decode cX8_next 9 = .ok (.ireturn, 1) := by decide +kernel
theorem dX8_next_10 : decode cX8_next 10 = .ok (.aload_n 0, 1) := by decide +kernel
theorem dX8_next_11 : decode cX8_next 11 = .ok (.iload_n 1, 1) := by decide +kernel
theorem dX8_next_12 : decode cX8_next 12 = .ok (.invokevirtual 143, 3) := by decide +kernel
theorem dX8_next_15 : decode cX8_next 15 = .ok (.aload_n 0, 1) := by decide +kernel
theorem dX8_next_16 : decode cX8_next 16 = .ok (.invokevirtual 147, 3) := by decide +kernel
theorem dX8_next_19 : decode cX8_next 19 = .ok (.aload_n 0, 1) := by decide +kernel
theorem dX8_next_20 : decode cX8_next 20 = .ok (.getfield 38, 3) := by decide +kernel
theorem dX8_next_23 : decode cX8_next 23 = .ok (.aload_n 0, 1) := by decide +kernel
theorem dX8_next_24 : decode cX8_next 24 = .ok (.getfield 23, 3) := by decide +kernel
theorem dX8_next_27 : decode cX8_next 27 = .ok (.iconst 2, 1) := by decide +kernel
theorem dX8_next_28 : decode cX8_next 28 = .ok (.iaload, 1) := by decide +kernel
theorem dX8_next_29 : decode cX8_next 29 = .ok (.iaload, 1) := by decide +kernel
theorem dX8_next_30 : decode cX8_next 30 = .ok (.istore_n 2, 1) := by decide +kernel
theorem dX8_next_31 : decode cX8_next 31 = .ok (.iconst 1, 1) := by decide +kernel
theorem dX8_next_32 : decode cX8_next 32 = .ok (.istore_n 3, 1) := by decide +kernel
theorem dX8_next_33 : decode cX8_next 33 = .ok (.iload_n 3, 1) := by decide +kernel
theorem dX8_next_34 : decode cX8_next 34 = .ok (.aload_n 0, 1) := by decide +kernel
theorem dX8_next_35 : decode cX8_next 35 = .ok (.getfield 23, 3) := by decide +kernel
theorem dX8_next_38 : decode cX8_next 38 = .ok (.invokestatic 48, 3) := by decide +kernel
theorem dX8_next_41 : decode cX8_next 41 = .ok (.if_icmp .gt 36, 3) := by decide +kernel
theorem dX8_next_44 : decode cX8_next 44 = .ok (.iload_n 2, 1) := by decide +kernel
theorem dX8_next_45 : decode cX8_next 45 = .ok (.ifCond .le 32, 3) := by decide +kernel
theorem dX8_next_48 : decode cX8_next 48 = .ok (.iload_n 2, 1) := by decide +kernel
theorem dX8_next_49 : decode cX8_next 49 = .ok (.bipush 99, 2) := by decide +kernel
theorem dX8_next_51 : decode cX8_next 51 = .ok (.if_icmp .ge 26, 3) := by decide +kernel
theorem dX8_next_54 : decode cX8_next 54 = .ok (.aload_n 0, 1) := by decide +kernel
theorem dX8_next_55 : decode cX8_next 55 = .ok (.aload_n 0, 1) := by decide +kernel
theorem dX8_next_56 : decode cX8_next 56 = .ok (.getfield 23, 3) := by decide +kernel
theorem dX8_next_59 : decode cX8_next 59 = .ok (.iconst 2, 1) := by decide +kernel
theorem dX8_next_60 : decode cX8_next 60 = .ok (.iaload, 1) := by decide +kernel
theorem dX8_next_61 : decode cX8_next 61 = .ok (.iload_n 3, 1) := by decide +kernel
theorem dX8_next_62 : decode cX8_next 62 = .ok (.invokevirtual 139, 3) := by decide +kernel
theorem dX8_next_65 : decode cX8_next 65 = .ok (.iload_n 2, 1) := by decide +kernel
theorem dX8_next_66 : decode cX8_next 66 = .ok (.if_icmp .ne 5, 3) := by decide +kernel
theorem dX8_next_69 : decode cX8_next 69 = .ok (.iload_n 3, 1) := by decide +kernel
theorem dX8_next_70 : decode cX8_next 70 = .ok (.ireturn, 1) := by decide +kernel
theorem dX8_next_71 : decode cX8_next 71 = .ok (.iinc 3 1, 3) := by decide +kernel
theorem dX8_next_74 : decode cX8_next 74 = .ok (.goto (-41), 3) := by decide +kernel
theorem dX8_next_77 : decode cX8_next 77 = .ok (.bipush (-4), 2) := by decide +kernel
theorem dX8_next_79 : decode cX8_next 79 = .ok (.ireturn, 1) := by decide +kernel
set_option maxRecDepth 20000 in
theorem ggX8_isKnown_X8_bits : GoodIn wsX8_isKnown wsX8_bits := goodIn_r _ [6] (by decide +kernel) (by decide +kernel)
set_option maxRecDepth 20000 in
theorem gX8_isKnown_X8_bits : GoodIn wsX8_isKnown (va_wsS RX8 74 yX8_bits wsX8_bits) := goodIn_app (goodIn_of _ (by decide +kernel)) ggX8_isKnown_X8_bits
theorem dX8_isKnown_0 : decode cX8_isKnown 0 = .ok (.aload_n 0, 1) := by decide +kernel
theorem dX8_isKnown_1 : decode cX8_isKnown 1 = .ok (.getfield 23, 3) := by decide +kernel
theorem dX8_isKnown_4 : decode cX8_isKnown 4 = .ok (.iconst 2, 1) := by decide +kernel
theorem dX8_isKnown_5 : decode cX8_isKnown 5 = .ok (.iaload, 1) := by decide +kernel
theorem dX8_isKnown_6 : decode cX8_isKnown 6 = .ok (.istore_n 3, 1) := by decide +kernel
theorem dX8_isKnown_7 : decode cX8_isKnown 7 = .ok (.iload_n 1, 1) := by decide +kernel
theorem dX8_isKnown_8 : decode cX8_isKnown 8 = .ok (.ifCond .ne 7, 3) := by decide +kernel
theorem dX8_isKnown_11 : decode cX8_isKnown 11 = .ok (.iconst 0, 1) := by decide +kernel
theorem dX8_isKnown_12 : decode cX8_isKnown 12 = .ok (.goto 9, 3) := by decide +kernel
theorem dX8_isKnown_15 : decode cX8_isKnown 15 = .ok (.aload_n 0, 1) := by decide +kernel
theorem dX8_isKnown_16 : decode cX8_isKnown 16 = .ok (.getfield 35, 3) := by decide +kernel
theorem dX8_isKnown_19 : decode cX8_isKnown 19 = .ok (.iload_n 1, 1) := by decide +kernel
theorem dX8_isKnown_20 : decode cX8_isKnown 20 = .ok (.iaload, 1) := by decide +kernel
theorem dX8_isKnown_21 : decode cX8_isKnown 21 = .ok (.istore 4, 2) := by decide +kernel
theorem dX8_isKnown_23 : decode cX8_isKnown 23 = .ok (.iload_n 2, 1) := by decide +kernel
theorem dX8_isKnown_24 : decode cX8_isKnown 24 = .ok (.ifCond .ne 7, 3) := by decide +kernel
theorem dX8_isKnown_27 : decode cX8_isKnown 27 = .ok (.iconst 0, 1) := by decide +kernel
theorem dX8_isKnown_28 : decode cX8_isKnown 28 = .ok (.goto 9, 3) := by decide +kernel
theorem dX8_isKnown_31 : decode cX8_isKnown 31 = .ok (.aload_n 0, 1) := by decide +kernel
theorem dX8_isKnown_32 : decode cX8_isKnown 32 = .ok (.getfield 35, 3) := by decide +kernel
theorem dX8_isKnown_35 : decode cX8_isKnown 35 = .ok (.iload_n 2, 1) := by decide +kernel
theorem dX8_isKnown_36 : decode cX8_isKnown 36 = .ok (.iaload, 1) := by decide +kernel
theorem dX8_isKnown_37 : decode cX8_isKnown 37 = .ok (.istore 5, 2) := by decide +kernel
theorem dX8_isKnown_39 : decode cX8_isKnown 39 = .ok (.iload_n 3, 1) := by decide +kernel
theorem dX8_isKnown_40 : decode cX8_isKnown 40 = .ok (.iload 4, 2) := by decide +kernel
theorem dX8_isKnown_42 : decode cX8_isKnown 42 = .ok (.iand, 1) := by decide +kernel
theorem dX8_isKnown_43 : decode cX8_isKnown 43 = .ok (.iload 5, 2) := by decide +kernel
theorem dX8_isKnown_45 : decode cX8_isKnown 45 = .ok (.iand, 1) := by decide +kernel
theorem dX8_isKnown_46 : decode cX8_isKnown 46 = .ok (.invokestatic 74, 3) := by decide +kernel
theorem dX8_isKnown_49 : decode cX8_isKnown 49 = .ok (.iconst 2, 1) := by decide +kernel
theorem dX8_isKnown_50 : decode cX8_isKnown 50 = .ok (.if_icmp .ge 57, 3) := by decide +kernel
theorem dX8_isKnown_53 : decode cX8_isKnown 53 = .ok (.iload_n 3, 1) := by decide +kernel
theorem dX8_isKnown_54 : decode cX8_isKnown 54 = .ok (.iload 4, 2) := by decide +kernel
theorem dX8_isKnown_56 : decode cX8_isKnown 56 = .ok (.iand, 1) := by decide +kernel
theorem dX8_isKnown_57 : decode cX8_isKnown 57 = .ok (.iload 5, 2) := by decide +kernel
theorem dX8_isKnown_59 : decode cX8_isKnown 59 = .ok (.iconst (-1), 1) := by decide +kernel
theorem dX8_isKnown_60 : decode cX8_isKnown 60 = .ok (.ixor, 1) := by decide +kernel
theorem dX8_isKnown_61 : decode cX8_isKnown 61 = .ok (.iand, 1) := by decide +kernel
theorem dX8_isKnown_62 : decode cX8_isKnown 62 = .ok (.invokestatic 74, 3) := by decide +kernel
theorem dX8_isKnown_65 : decode cX8_isKnown 65 = .ok (.iconst 2, 1) := by decide +kernel
theorem dX8_isKnown_66 : decode cX8_isKnown 66 = .ok (.if_icmp .ge 41, 3) := by decide +kernel
theorem dX8_isKnown_69 : decode cX8_isKnown 69 = .ok (.iload_n 3, 1) := by decide +kernel
theorem dX8_isKnown_70 : decode cX8_isKnown 70 = .ok (.iload 4, 2) := by decide +kernel
theorem dX8_isKnown_72 : decode cX8_isKnown 72 = .ok (.iconst (-1), 1) := by decide +kernel
theorem dX8_isKnown_73 : decode cX8_isKnown 73 = .ok (.ixor, 1) := by decide +kernel
theorem dX8_isKnown_74 : decode cX8_isKnown 74 = .ok (.iand, 1) := by decide +kernel
theorem dX8_isKnown_75 : decode cX8_isKnown 75 = .ok (.iload 5, 2) := by decide +kernel
theorem dX8_isKnown_77 : decode cX8_isKnown 77 = .ok (.iand, 1) := by decide +kernel
theorem dX8_isKnown_78 : decode cX8_isKnown 78 = .ok (.invokestatic 74, 3) := by decide +kernel
theorem dX8_isKnown_81 : decode cX8_isKnown 81 = .ok (.iconst 2, 1) := by decide +kernel
theorem dX8_isKnown_82 : decode cX8_isKnown 82 = .ok (.if_icmp .ge 25, 3) := by decide +kernel
theorem dX8_isKnown_85 : decode cX8_isKnown 85 = .ok (.iload_n 3, 1) := by decide +kernel
theorem dX8_isKnown_86 : decode cX8_isKnown 86 = .ok (.iload 4, 2) := by decide +kernel
theorem dX8_isKnown_88 : decode cX8_isKnown 88 = .ok (.iconst (-1), 1) := by decide +kernel
theorem dX8_isKnown_89 : decode cX8_isKnown 89 = .ok (.ixor, 1) := by decide +kernel
theorem dX8_isKnown_90 : decode cX8_isKnown 90 = .ok (.iand, 1) := by decide +kernel
theorem dX8_isKnown_91 : decode cX8_isKnown 91 = .ok (.iload 5, 2) := by decide +kernel
theorem dX8_isKnown_93 : decode cX8_isKnown 93 = .ok (.iconst (-1), 1) := by decide +kernel
theorem dX8_isKnown_94 : decode cX8_isKnown 94 = .ok (.ixor, 1) := by decide +kernel
theorem dX8_isKnown_95 : decode cX8_isKnown 95 = .ok (.iand, 1) := by decide +kernel
theorem dX8_isKnown_96 : decode cX8_isKnown 96 = .ok (.invokestatic 74, 3) := by decide +kernel
theorem dX8_isKnown_99 : decode cX8_isKnown 99 = .ok (.iconst 2, 1) := by decide +kernel
theorem dX8_isKnown_100 : decode cX8_isKnown 100 = .ok (.if_icmp .ge 7, 3) := by decide +kernel
theorem dX8_isKnown_103 : decode cX8_isKnown 103 = .ok (.iconst 1, 1) := by decide +kernel
theorem dX8_isKnown_104 : decode cX8_isKnown 104 = .ok (.goto 4, 3) := by decide +kernel
theorem dX8_isKnown_107 : decode cX8_isKnown 107 = .ok (.iconst 0, 1) := by decide +kernel
theorem dX8_isKnown_108 : decode cX8_isKnown 108 = .ok (.ireturn, 1) := by decide +kernel
set_option maxRecDepth 20000 in
theorem ggX8_layOnce_X8_layNoticed : GoodIn wsX8_layOnce wsX8_layNoticed := goodIn_r _ [9, 4, 10, 11, 12, 8, 13, 14, 15, 16, 17, 18, 19, 20, 21, 22, 23, 24, 25, 26, 27, 28, 33, 34, 35, 36, 37, 38, 39, 40, 41, 42, 43, 44, 45, 46, 47, 48, 49, 50] (by decide +kernel) (by decide +kernel)
set_option maxRecDepth 20000 in
theorem gX8_layOnce_X8_layNoticed : GoodIn wsX8_layOnce (wsV RX8 143 RX8 yX8_layNoticed wsX8_layNoticed) := goodIn_app (goodIn_of _ (by decide +kernel)) ggX8_layOnce_X8_layNoticed
set_option maxRecDepth 20000 in
theorem ggX8_layOnce_X8_isKnown : GoodIn wsX8_layOnce wsX8_isKnown := goodIn_r _ [32, 4, 10, 26, 27, 8, 28, 33, 34, 35, 36, 37, 38, 39, 40, 41, 42, 43, 44, 45, 46, 47, 48, 49, 50] (by decide +kernel) (by decide +kernel)
set_option maxRecDepth 20000 in
theorem gX8_layOnce_X8_isKnown : GoodIn wsX8_layOnce (wsV RX8 150 RX8 yX8_isKnown wsX8_isKnown) := goodIn_app (goodIn_of _ (by decide +kernel)) ggX8_layOnce_X8_isKnown
set_option maxRecDepth 20000 in
theorem ggX8_layOnce_X8_allOf : GoodIn wsX8_layOnce wsX8_allOf := goodIn_r _ [13] (by decide +kernel) (by decide +kernel)
set_option maxRecDepth 20000 in
theorem gX8_layOnce_X8_allOf : GoodIn wsX8_layOnce (va_wsS RX8 48 yX8_allOf wsX8_allOf) := goodIn_app (goodIn_of _ (by decide +kernel)) ggX8_layOnce_X8_allOf
theorem dX8_layOnce_0 : decode cX8_layOnce 0 = .ok (.aload_n 0, 1) := by decide +kernel
theorem dX8_layOnce_1 : decode cX8_layOnce 1 = .ok (.iload_n 1, 1) := by decide +kernel
theorem dX8_layOnce_2 : decode cX8_layOnce 2 = .ok (.invokevirtual 143, 3) := by decide +kernel
theorem dX8_layOnce_5 : decode cX8_layOnce 5 = .ok (.aload_n 0, 1) := by decide +kernel
theorem dX8_layOnce_6 : decode cX8_layOnce 6 = .ok (.aload_n 0, 1) := by decide +kernel
theorem dX8_layOnce_7 : decode cX8_layOnce 7 = .ok (.iconst 0, 1) := by decide +kernel
theorem dX8_layOnce_8 : decode cX8_layOnce 8 = .ok (.iconst 0, 1) := by decide +kernel
theorem dX8_layOnce_9 : decode cX8_layOnce 9 = .ok (.invokevirtual 150, 3) := by decide +kernel
theorem dX8_layOnce_12 : decode cX8_layOnce 12 = .ok (.ifCond .eq 7, 3) := by decide +kernel
theorem dX8_layOnce_15 : decode cX8_layOnce 15 = .ok (.iconst 0, 1) := by decide +kernel
theorem dX8_layOnce_16 : decode cX8_layOnce 16 = .ok (.goto 5, 3) := by decide +kernel
theorem dX8_layOnce_19 : decode cX8_layOnce 19 = .ok (.bipush (-4), 2) := by decide +kernel
theorem dX8_layOnce_21 : decode cX8_layOnce 21 = .ok (.putfield 153, 3) := by decide +kernel
theorem dX8_layOnce_24 : decode cX8_layOnce 24 = .ok (.aload_n 0, 1) := by decide +kernel
theorem dX8_layOnce_25 : decode cX8_layOnce 25 = .ok (.bipush (-4), 2) := by decide +kernel
theorem dX8_layOnce_27 : decode cX8_layOnce 27 = .ok (.putfield 156, 3) := by decide +kernel
theorem dX8_layOnce_30 : decode cX8_layOnce 30 = .ok (.aload_n 0, 1) := by decide +kernel
theorem dX8_layOnce_31 : decode cX8_layOnce 31 = .ok (.bipush (-4), 2) := by decide +kernel
theorem dX8_layOnce_33 : decode cX8_layOnce 33 = .ok (.putfield 159, 3) := by decide +kernel
theorem dX8_layOnce_36 : decode cX8_layOnce 36 = .ok (.iconst 1, 1) := by decide +kernel
theorem dX8_layOnce_37 : decode cX8_layOnce 37 = .ok (.istore_n 2, 1) := by decide +kernel
theorem dX8_layOnce_38 : decode cX8_layOnce 38 = .ok (.iload_n 2, 1) := by decide +kernel
theorem dX8_layOnce_39 : decode cX8_layOnce 39 = .ok (.aload_n 0, 1) := by decide +kernel
theorem dX8_layOnce_40 : decode cX8_layOnce 40 = .ok (.getfield 23, 3) := by decide +kernel
theorem dX8_layOnce_43 : decode cX8_layOnce 43 = .ok (.invokestatic 48, 3) := by decide +kernel
theorem dX8_layOnce_46 : decode cX8_layOnce 46 = .ok (.if_icmp .gt 37, 3) := by decide +kernel
theorem dX8_layOnce_49 : decode cX8_layOnce 49 = .ok (.aload_n 0, 1) := by decide +kernel
theorem dX8_layOnce_50 : decode cX8_layOnce 50 = .ok (.getfield 153, 3) := by decide +kernel
theorem dX8_layOnce_53 : decode cX8_layOnce 53 = .ok (.bipush (-4), 2) := by decide +kernel
theorem dX8_layOnce_55 : decode cX8_layOnce 55 = .ok (.if_icmp .ne 28, 3) := by decide +kernel
theorem dX8_layOnce_58 : decode cX8_layOnce 58 = .ok (.aload_n 0, 1) := by decide +kernel
theorem dX8_layOnce_59 : decode cX8_layOnce 59 = .ok (.iload_n 2, 1) := by decide +kernel
theorem dX8_layOnce_60 : decode cX8_layOnce 60 = .ok (.iconst 0, 1) := by decide +kernel
theorem dX8_layOnce_61 : decode cX8_layOnce 61 = .ok (.invokevirtual 150, 3) := by decide +kernel
theorem dX8_layOnce_64 : decode cX8_layOnce 64 = .ok (.ifCond .eq 13, 3) := by decide +kernel
theorem dX8_layOnce_67 : decode cX8_layOnce 67 = .ok (.aload_n 0, 1) := by decide +kernel
theorem dX8_layOnce_68 : decode cX8_layOnce 68 = .ok (.iconst 1, 1) := by decide +kernel
theorem dX8_layOnce_69 : decode cX8_layOnce 69 = .ok (.putfield 153, 3) := by decide +kernel
theorem dX8_layOnce_72 : decode cX8_layOnce 72 = .ok (.aload_n 0, 1) := by decide +kernel
theorem dX8_layOnce_73 : decode cX8_layOnce 73 = .ok (.iload_n 2, 1) := by decide +kernel
theorem dX8_layOnce_74 : decode cX8_layOnce 74 = .ok (.putfield 156, 3) := by decide +kernel
theorem dX8_layOnce_77 : decode cX8_layOnce 77 = .ok (.iinc 2 1, 3) := by decide +kernel
theorem dX8_layOnce_80 : decode cX8_layOnce 80 = .ok (.goto (-42), 3) := by decide +kernel
theorem dX8_layOnce_83 : decode cX8_layOnce 83 = .ok (.iconst 1, 1) := by decide +kernel
theorem dX8_layOnce_84 : decode cX8_layOnce 84 = .ok (.istore_n 2, 1) := by decide +kernel
theorem dX8_layOnce_85 : decode cX8_layOnce 85 = .ok (.iload_n 2, 1) := by decide +kernel
theorem dX8_layOnce_86 : decode cX8_layOnce 86 = .ok (.aload_n 0, 1) := by decide +kernel
theorem dX8_layOnce_87 : decode cX8_layOnce 87 = .ok (.getfield 23, 3) := by decide +kernel
theorem dX8_layOnce_90 : decode cX8_layOnce 90 = .ok (.invokestatic 48, 3) := by decide +kernel
theorem dX8_layOnce_93 : decode cX8_layOnce 93 = .ok (.if_icmp .gt 72, 3) := by decide +kernel
theorem dX8_layOnce_96 : decode cX8_layOnce 96 = .ok (.aload_n 0, 1) := by decide +kernel
theorem dX8_layOnce_97 : decode cX8_layOnce 97 = .ok (.getfield 153, 3) := by decide +kernel
theorem dX8_layOnce_100 : decode cX8_layOnce 100 = .ok (.bipush (-4), 2) := by decide +kernel
theorem dX8_layOnce_102 : decode cX8_layOnce 102 = .ok (.if_icmp .ne 63, 3) := by decide +kernel
theorem dX8_layOnce_105 : decode cX8_layOnce 105 = .ok (.iload_n 2, 1) := by decide +kernel
theorem dX8_layOnce_106 : decode cX8_layOnce 106 = .ok (.iconst 1, 1) := by decide +kernel
theorem dX8_layOnce_107 : decode cX8_layOnce 107 = .ok (.iadd, 1) := by decide +kernel
theorem dX8_layOnce_108 : decode cX8_layOnce 108 = .ok (.istore_n 3, 1) := by decide +kernel
theorem dX8_layOnce_109 : decode cX8_layOnce 109 = .ok (.iload_n 3, 1) := by decide +kernel
theorem dX8_layOnce_110 : decode cX8_layOnce 110 = .ok (.aload_n 0, 1) := by decide +kernel
theorem dX8_layOnce_111 : decode cX8_layOnce 111 = .ok (.getfield 23, 3) := by decide +kernel
theorem dX8_layOnce_114 : decode cX8_layOnce 114 = .ok (.invokestatic 48, 3) := by decide +kernel
theorem dX8_layOnce_117 : decode cX8_layOnce 117 = .ok (.if_icmp .gt 42, 3) := by decide +kernel
theorem dX8_layOnce_120 : decode cX8_layOnce 120 = .ok (.aload_n 0, 1) := by decide +kernel
theorem dX8_layOnce_121 : decode cX8_layOnce 121 = .ok (.getfield 153, 3) := by decide +kernel
theorem dX8_layOnce_124 : decode cX8_layOnce 124 = .ok (.bipush (-4), 2) := by decide +kernel
theorem dX8_layOnce_126 : decode cX8_layOnce 126 = .ok (.if_icmp .ne 33, 3) := by decide +kernel
theorem dX8_layOnce_129 : decode cX8_layOnce 129 = .ok (.aload_n 0, 1) := by decide +kernel
theorem dX8_layOnce_130 : decode cX8_layOnce 130 = .ok (.iload_n 2, 1) := by decide +kernel
theorem dX8_layOnce_131 : decode cX8_layOnce 131 = .ok (.iload_n 3, 1) := by decide +kernel
theorem dX8_layOnce_132 : decode cX8_layOnce 132 = .ok (.invokevirtual 150, 3) := by decide +kernel
theorem dX8_layOnce_135 : decode cX8_layOnce 135 = .ok (.ifCond .eq 18, 3) := by decide +kernel
theorem dX8_layOnce_138 : decode cX8_layOnce 138 = .ok (.aload_n 0, 1) := by decide +kernel
theorem dX8_layOnce_139 : decode cX8_layOnce 139 = .ok (.iconst 2, 1) := by decide +kernel
theorem dX8_layOnce_140 : decode cX8_layOnce 140 = .ok (.putfield 153, 3) := by decide +kernel
theorem dX8_layOnce_143 : decode cX8_layOnce 143 = .ok (.aload_n 0, 1) := by decide +kernel
theorem dX8_layOnce_144 : decode cX8_layOnce 144 = .ok (.iload_n 2, 1) := by decide +kernel
theorem dX8_layOnce_145 : decode cX8_layOnce 145 = .ok (.putfield 156, 3) := by decide +kernel
theorem dX8_layOnce_148 : decode cX8_layOnce 148 = .ok (.aload_n 0, 1) := by decide +kernel
theorem dX8_layOnce_149 : decode cX8_layOnce 149 = .ok (.iload_n 3, 1) := by decide +kernel
theorem dX8_layOnce_150 : decode cX8_layOnce 150 = .ok (.putfield 159, 3) := by decide +kernel
theorem dX8_layOnce_153 : decode cX8_layOnce 153 = .ok (.iinc 3 1, 3) := by decide +kernel
theorem dX8_layOnce_156 : decode cX8_layOnce 156 = .ok (.goto (-47), 3) := by decide +kernel
theorem dX8_layOnce_159 : decode cX8_layOnce 159 = .ok (.iinc 2 1, 3) := by decide +kernel
theorem dX8_layOnce_162 : decode cX8_layOnce 162 = .ok (.goto (-77), 3) := by decide +kernel
theorem dX8_layOnce_165 : decode cX8_layOnce 165 = .ok (.return_, 1) := by decide +kernel
set_option maxRecDepth 20000 in
theorem ggX8_once_X8_isTaster : GoodIn wsX8_once wsX8_isTaster := goodIn_r _ [8, 9, 10, 11, 7, 12, 44, 45, 46, 47, 48, 49, 50, 51, 52, 53, 54, 55, 56, 57, 58, 59, 60, 61] (by decide +kernel) (by decide +kernel)
set_option maxRecDepth 20000 in
theorem gX8_once_X8_isTaster : GoodIn wsX8_once (wsV RX8 64 RX8 yX8_isTaster wsX8_isTaster) := goodIn_app (goodIn_of _ (by decide +kernel)) ggX8_once_X8_isTaster
set_option maxRecDepth 20000 in
theorem ggX8_once_X8_layOnce : GoodIn wsX8_once wsX8_layOnce := goodIn_r _ [16, 1, 2, 3, 9, 17, 18, 19, 7, 20, 21, 22, 23, 24, 25, 26, 27, 28, 29, 30, 31, 32, 33, 34, 35, 36, 37, 38, 39, 40, 41, 42, 43, 44, 45, 46, 47, 48, 49, 50, 51, 52, 53, 54, 55, 56, 57, 58, 59, 60, 61] (by decide +kernel) (by decide +kernel)
set_option maxRecDepth 20000 in
theorem gX8_once_X8_layOnce : GoodIn wsX8_once (wsV RX8 162 RX8 yX8_layOnce wsX8_layOnce) := goodIn_app (goodIn_of _ (by decide +kernel)) ggX8_once_X8_layOnce
theorem dX8_once_0 : decode cX8_once 0 = .ok (.aload_n 0, 1) := by decide +kernel
theorem dX8_once_1 : decode cX8_once 1 = .ok (.iload_n 1, 1) := by decide +kernel
theorem dX8_once_2 : decode cX8_once 2 = .ok (.invokevirtual 64, 3) := by decide +kernel
theorem dX8_once_5 : decode cX8_once 5 = .ok (.ifCond .eq 8, 3) := by decide +kernel
theorem dX8_once_8 : decode cX8_once 8 = .ok (.iload_n 2, 1) := by decide +kernel
theorem dX8_once_9 : decode cX8_once 9 = .ok (.iconst (-1), 1) := by decide +kernel
theorem dX8_once_10 : decode cX8_once 10 = .ok (.if_icmp .ge 5, 3) := by decide +kernel
theorem dX8_once_13 : decode cX8_once 13 = .ok (.iconst (-1), 1) := by decide +kernel
theorem dX8_once_14 : decode cX8_once 14 = .ok (.ireturn, 1) := by decide +kernel
theorem dX8_once_15 : decode cX8_once 15 = .ok (.aload_n 0, 1) := by decide +kernel
theorem dX8_once_16 : decode cX8_once 16 = .ok (.iload_n 1, 1) := by decide +kernel
theorem dX8_once_17 : decode cX8_once 17 = .ok (.invokevirtual 162, 3) := by decide +kernel
theorem dX8_once_20 : decode cX8_once 20 = .ok (.iload_n 2, 1) := by decide +kernel
theorem dX8_once_21 : decode cX8_once 21 = .ok (.iconst (-1), 1) := by decide +kernel
theorem dX8_once_22 : decode cX8_once 22 = .ok (.if_icmp .ne 10, 3) := by decide +kernel
theorem dX8_once_25 : decode cX8_once 25 = .ok (.aload_n 0, 1) := by decide +kernel
theorem dX8_once_26 : decode cX8_once 26 = .ok (.getfield 153, 3) := by decide +kernel
theorem dX8_once_29 : decode cX8_once 29 = .ok (.goto 28, 3) := by decide +kernel
theorem dX8_once_32 : decode cX8_once 32 = .ok (.iload_n 2, 1) := by decide +kernel
theorem dX8_once_33 : decode cX8_once 33 = .ok (.ifCond .ne 10, 3) := by decide +kernel
theorem dX8_once_36 : decode cX8_once 36 = .ok (.aload_n 0, 1) := by decide +kernel
theorem dX8_once_37 : decode cX8_once 37 = .ok (.getfield 156, 3) := by decide +kernel
theorem dX8_once_40 : decode cX8_once 40 = .ok (.goto 17, 3) := by decide +kernel
theorem dX8_once_43 : decode cX8_once 43 = .ok (.iload_n 2, 1) := by decide +kernel
theorem dX8_once_44 : decode cX8_once 44 = .ok (.iconst 1, 1) := by decide +kernel
theorem dX8_once_45 : decode cX8_once 45 = .ok (.if_icmp .ne 10, 3) := by decide +kernel
theorem dX8_once_48 : decode cX8_once 48 = .ok (.aload_n 0, 1) := by decide +kernel
theorem dX8_once_49 : decode cX8_once 49 = .ok (.getfield 159, 3) := by decide +kernel
theorem dX8_once_52 : decode cX8_once 52 = .ok (.goto 5, 3) := by decide +kernel
theorem dX8_once_55 : decode cX8_once 55 = .ok (.bipush (-4), 2) := by decide +kernel
theorem dX8_once_57 : decode cX8_once 57 = .ok (.ireturn, 1) := by decide +kernel
set_option maxRecDepth 20000 in
theorem ggX8_halves_X8_isTaster : GoodIn wsX8_halves wsX8_isTaster := goodIn_r _ [6, 1, 7, 8, 5, 9, 28, 29, 30, 31, 32, 33, 34, 35, 36, 37, 38, 39, 40, 41, 42, 43, 44, 45] (by decide +kernel) (by decide +kernel)
set_option maxRecDepth 20000 in
theorem gX8_halves_X8_isTaster : GoodIn wsX8_halves (wsV RX8 64 RX8 yX8_isTaster wsX8_isTaster) := goodIn_app (goodIn_of _ (by decide +kernel)) ggX8_halves_X8_isTaster
set_option maxRecDepth 20000 in
theorem ggX8_halves_X8_in : GoodIn wsX8_halves wsX8_in := goodIn_r _ [9] (by decide +kernel) (by decide +kernel)
set_option maxRecDepth 20000 in
theorem gX8_halves_X8_in : GoodIn wsX8_halves (va_wsS RX8 44 yX8_in wsX8_in) := goodIn_app (goodIn_of _ (by decide +kernel)) ggX8_halves_X8_in
set_option maxRecDepth 20000 in
theorem ggX8_halves_X8_bits : GoodIn wsX8_halves wsX8_bits := goodIn_r _ [12] (by decide +kernel) (by decide +kernel)
set_option maxRecDepth 20000 in
theorem gX8_halves_X8_bits : GoodIn wsX8_halves (va_wsS RX8 74 yX8_bits wsX8_bits) := goodIn_app (goodIn_of _ (by decide +kernel)) ggX8_halves_X8_bits
set_option maxRecDepth 20000 in
theorem ggX8_halves_X8_allOf : GoodIn wsX8_halves wsX8_allOf := goodIn_r _ [15] (by decide +kernel) (by decide +kernel)
set_option maxRecDepth 20000 in
theorem gX8_halves_X8_allOf : GoodIn wsX8_halves (va_wsS RX8 48 yX8_allOf wsX8_allOf) := goodIn_app (goodIn_of _ (by decide +kernel)) ggX8_halves_X8_allOf
set_option maxRecDepth 20000 in
theorem ggX8_halves_X8_noticedBy : GoodIn wsX8_halves wsX8_noticedBy := goodIn_r _ [18, 19, 20, 5, 21, 22, 23, 24, 25, 26, 27, 10, 11, 12] (by decide +kernel) (by decide +kernel)
set_option maxRecDepth 20000 in
theorem gX8_halves_X8_noticedBy : GoodIn wsX8_halves (va_wsS RX8 122 yX8_noticedBy wsX8_noticedBy) := goodIn_app (goodIn_of _ (by decide +kernel)) ggX8_halves_X8_noticedBy
theorem dX8_halves_0 : decode cX8_halves 0 = .ok (.aload_n 0, 1) := by decide +kernel
theorem dX8_halves_1 : decode cX8_halves 1 = .ok (.iload_n 1, 1) := by decide +kernel
theorem dX8_halves_2 : decode cX8_halves 2 = .ok (.invokevirtual 64, 3) := by decide +kernel
theorem dX8_halves_5 : decode cX8_halves 5 = .ok (.ifCond .eq 12, 3) := by decide +kernel
theorem dX8_halves_8 : decode cX8_halves 8 = .ok (.iload_n 2, 1) := by decide +kernel
theorem dX8_halves_9 : decode cX8_halves 9 = .ok (.iconst 0, 1) := by decide +kernel
theorem dX8_halves_10 : decode cX8_halves 10 = .ok (.iconst 1, 1) := by decide +kernel
theorem dX8_halves_11 : decode cX8_halves 11 = .ok (.invokestatic 44, 3) := by decide +kernel
theorem dX8_halves_14 : decode cX8_halves 14 = .ok (.ifCond .ne 5, 3) := by decide +kernel
theorem dX8_halves_17 : decode cX8_halves 17 = .ok (.iconst (-1), 1) := by decide +kernel
theorem dX8_halves_18 : decode cX8_halves 18 = .ok (.ireturn, 1) := by decide +kernel
theorem dX8_halves_19 : decode cX8_halves 19 = .ok (.aload_n 0, 1) := by decide +kernel
theorem dX8_halves_20 : decode cX8_halves 20 = .ok (.getfield 23, 3) := by decide +kernel
theorem dX8_halves_23 : decode cX8_halves 23 = .ok (.iconst 2, 1) := by decide +kernel
theorem dX8_halves_24 : decode cX8_halves 24 = .ok (.iaload, 1) := by decide +kernel
theorem dX8_halves_25 : decode cX8_halves 25 = .ok (.invokestatic 74, 3) := by decide +kernel
theorem dX8_halves_28 : decode cX8_halves 28 = .ok (.istore_n 3, 1) := by decide +kernel
theorem dX8_halves_29 : decode cX8_halves 29 = .ok (.iload_n 3, 1) := by decide +kernel
theorem dX8_halves_30 : decode cX8_halves 30 = .ok (.iconst 2, 1) := by decide +kernel
theorem dX8_halves_31 : decode cX8_halves 31 = .ok (.if_icmp .ge 6, 3) := by decide +kernel
theorem dX8_halves_34 : decode cX8_halves 34 = .ok (.bipush (-4), 2) := by decide +kernel
theorem dX8_halves_36 : decode cX8_halves 36 = .ok (.ireturn, 1) := by decide +kernel
theorem dX8_halves_37 : decode cX8_halves 37 = .ok (.bipush (-4), 2) := by decide +kernel
theorem dX8_halves_39 : decode cX8_halves 39 = .ok (.istore 4, 2) := by decide +kernel
theorem dX8_halves_41 : decode cX8_halves 41 = .ok (.bipush 99, 2) := by decide +kernel
theorem dX8_halves_43 : decode cX8_halves 43 = .ok (.istore 5, 2) := by decide +kernel
theorem dX8_halves_45 : decode cX8_halves 45 = .ok (.iconst 1, 1) := by decide +kernel
theorem dX8_halves_46 : decode cX8_halves 46 = .ok (.istore 6, 2) := by decide +kernel
theorem dX8_halves_48 : decode cX8_halves 48 = .ok (.iload 6, 2) := by decide +kernel
theorem dX8_halves_50 : decode cX8_halves 50 = .ok (.aload_n 0, 1) := by decide +kernel
theorem dX8_halves_51 : decode cX8_halves 51 = .ok (.getfield 23, 3) := by decide +kernel
theorem dX8_halves_54 : decode cX8_halves 54 = .ok (.invokestatic 48, 3) := by decide +kernel
theorem dX8_halves_57 : decode cX8_halves 57 = .ok (.if_icmp .gt 83, 3) := by decide +kernel
theorem dX8_halves_60 : decode cX8_halves 60 = .ok (.aload_n 0, 1) := by decide +kernel
theorem dX8_halves_61 : decode cX8_halves 61 = .ok (.getfield 23, 3) := by decide +kernel
theorem dX8_halves_64 : decode cX8_halves 64 = .ok (.iconst 2, 1) := by decide +kernel
theorem dX8_halves_65 : decode cX8_halves 65 = .ok (.iaload, 1) := by decide +kernel
theorem dX8_halves_66 : decode cX8_halves 66 = .ok (.aload_n 0, 1) := by decide +kernel
theorem dX8_halves_67 : decode cX8_halves 67 = .ok (.getfield 23, 3) := by decide +kernel
theorem dX8_halves_70 : decode cX8_halves 70 = .ok (.iload_n 1, 1) := by decide +kernel
theorem dX8_halves_71 : decode cX8_halves 71 = .ok (.iload 6, 2) := by decide +kernel
theorem dX8_halves_73 : decode cX8_halves 73 = .ok (.invokestatic 122, 3) := by decide +kernel
theorem dX8_halves_76 : decode cX8_halves 76 = .ok (.iand, 1) := by decide +kernel
theorem dX8_halves_77 : decode cX8_halves 77 = .ok (.invokestatic 74, 3) := by decide +kernel
theorem dX8_halves_80 : decode cX8_halves 80 = .ok (.istore 7, 2) := by decide +kernel
theorem dX8_halves_82 : decode cX8_halves 82 = .ok (.iload 7, 2) := by decide +kernel
theorem dX8_halves_84 : decode cX8_halves 84 = .ok (.iload_n 3, 1) := by decide +kernel
theorem dX8_halves_85 : decode cX8_halves 85 = .ok (.iload 7, 2) := by decide +kernel
theorem dX8_halves_87 : decode cX8_halves 87 = .ok (.isub, 1) := by decide +kernel
theorem dX8_halves_88 : decode cX8_halves 88 = .ok (.if_icmp .le 8, 3) := by decide +kernel
theorem dX8_halves_91 : decode cX8_halves 91 = .ok (.iload 7, 2) := by decide +kernel
theorem dX8_halves_93 : decode cX8_halves 93 = .ok (.goto 7, 3) := by decide +kernel
theorem dX8_halves_96 : decode cX8_halves 96 = .ok (.iload_n 3, 1) := by decide +kernel
theorem dX8_halves_97 : decode cX8_halves 97 = .ok (.iload 7, 2) := by decide +kernel
theorem dX8_halves_99 : decode cX8_halves 99 = .ok (.isub, 1) := by decide +kernel
theorem dX8_halves_100 : decode cX8_halves 100 = .ok (.istore 8, 2) := by decide +kernel
theorem dX8_halves_102 : decode cX8_halves 102 = .ok (.iload 8, 2) := by decide +kernel
theorem dX8_halves_104 : decode cX8_halves 104 = .ok (.iload 5, 2) := by decide +kernel
theorem dX8_halves_106 : decode cX8_halves 106 = .ok (.if_icmp .ge 8, 3) := by decide +kernel
theorem dX8_halves_109 : decode cX8_halves 109 = .ok (.iload 6, 2) := by decide +kernel
theorem dX8_halves_111 : decode cX8_halves 111 = .ok (.goto 5, 3) := by decide +kernel
theorem dX8_halves_114 : decode cX8_halves 114 = .ok (.iload 4, 2) := by decide +kernel
theorem dX8_halves_116 : decode cX8_halves 116 = .ok (.istore 4, 2) := by decide +kernel
theorem dX8_halves_118 : decode cX8_halves 118 = .ok (.iload 8, 2) := by decide +kernel
theorem dX8_halves_120 : decode cX8_halves 120 = .ok (.iload 5, 2) := by decide +kernel
theorem dX8_halves_122 : decode cX8_halves 122 = .ok (.if_icmp .ge 8, 3) := by decide +kernel
theorem dX8_halves_125 : decode cX8_halves 125 = .ok (.iload 8, 2) := by decide +kernel
theorem dX8_halves_127 : decode cX8_halves 127 = .ok (.goto 5, 3) := by decide +kernel
theorem dX8_halves_130 : decode cX8_halves 130 = .ok (.iload 5, 2) := by decide +kernel
theorem dX8_halves_132 : decode cX8_halves 132 = .ok (.istore 5, 2) := by decide +kernel
theorem dX8_halves_134 : decode cX8_halves 134 = .ok (.iinc 6 1, 3) := by decide +kernel
theorem dX8_halves_137 : decode cX8_halves 137 = .ok (.goto (-89), 3) := by decide +kernel
theorem dX8_halves_140 : decode cX8_halves 140 = .ok (.iload_n 2, 1) := by decide +kernel
theorem dX8_halves_141 : decode cX8_halves 141 = .ok (.ifCond .ne 8, 3) := by decide +kernel
theorem dX8_halves_144 : decode cX8_halves 144 = .ok (.iload 4, 2) := by decide +kernel
theorem dX8_halves_146 : decode cX8_halves 146 = .ok (.goto 5, 3) := by decide +kernel
theorem dX8_halves_149 : decode cX8_halves 149 = .ok (.iload 5, 2) := by decide +kernel
theorem dX8_halves_151 : decode cX8_halves 151 = .ok (.ireturn, 1) := by decide +kernel
theorem dX8_part_0 : decode cX8_part 0 = .ok (.lload_n 0, 1) := by decide +kernel
theorem dX8_part_1 : decode cX8_part 1 = .ok (.lstore 5, 2) := by decide +kernel
theorem dX8_part_3 : decode cX8_part 3 = .ok (.lload_n 2, 1) := by decide +kernel
theorem dX8_part_4 : decode cX8_part 4 = .ok (.lstore 7, 2) := by decide +kernel
theorem dX8_part_6 : decode cX8_part 6 = .ok (.lload 7, 2) := by decide +kernel
theorem dX8_part_8 : decode cX8_part 8 = .ok (.lconst 0, 1) := by decide +kernel
theorem dX8_part_9 : decode cX8_part 9 = .ok (.lcmp, 1) := by decide +kernel
theorem dX8_part_10 : decode cX8_part 10 = .ok (.ifCond .le 21, 3) := by decide +kernel
theorem dX8_part_13 : decode cX8_part 13 = .ok (.lload 5, 2) := by decide +kernel
theorem dX8_part_15 : decode cX8_part 15 = .ok (.lload 7, 2) := by decide +kernel
theorem dX8_part_17 : decode cX8_part 17 = .ok (.lrem, 1) := by decide +kernel
theorem dX8_part_18 : decode cX8_part 18 = .ok (.lstore 9, 2) := by decide +kernel
theorem dX8_part_20 : decode cX8_part 20 = .ok (.lload 7, 2) := by decide +kernel
theorem dX8_part_22 : decode cX8_part 22 = .ok (.lstore 5, 2) := by decide +kernel
theorem dX8_part_24 : decode cX8_part 24 = .ok (.lload 9, 2) := by decide +kernel
theorem dX8_part_26 : decode cX8_part 26 = .ok (.lstore 7, 2) := by decide +kernel
theorem dX8_part_28 : decode cX8_part 28 = .ok (.goto (-22), 3) := by decide +kernel
theorem dX8_part_31 : decode cX8_part 31 = .ok (.iload 4, 2) := by decide +kernel
theorem dX8_part_33 : decode cX8_part 33 = .ok (.ifCond .ne 7, 3) := by decide +kernel
theorem dX8_part_36 : decode cX8_part 36 = .ok (.lload_n 0, 1) := by decide +kernel
theorem dX8_part_37 : decode cX8_part 37 = .ok (.goto 4, 3) := by decide +kernel
theorem dX8_part_40 : decode cX8_part 40 = .ok (.lload_n 2, 1) := by decide +kernel
theorem dX8_part_41 : decode cX8_part 41 = .ok (.lload 5, 2) := by decide +kernel
theorem dX8_part_43 : decode cX8_part 43 = .ok (.ldiv, 1) := by decide +kernel
theorem dX8_part_44 : decode cX8_part 44 = .ok (.lreturn, 1) := by decide +kernel
set_option maxRecDepth 20000 in
theorem ggX8_likely_X8_isCow : GoodIn wsX8_likely wsX8_isCow := goodIn_r _ [6, 1, 7, 8, 5, 9, 19, 20, 21, 22, 23, 24, 25, 26, 27, 28, 29, 30, 31, 32, 33, 34, 35, 36] (by decide +kernel) (by decide +kernel)
set_option maxRecDepth 20000 in
theorem gX8_likely_X8_isCow : GoodIn wsX8_likely (wsV RX8 60 RX8 yX8_isCow wsX8_isCow) := goodIn_app (goodIn_of _ (by decide +kernel)) ggX8_likely_X8_isCow
set_option maxRecDepth 20000 in
theorem ggX8_likely_X8_in : GoodIn wsX8_likely wsX8_in := goodIn_r _ [9] (by decide +kernel) (by decide +kernel)
set_option maxRecDepth 20000 in
theorem gX8_likely_X8_in : GoodIn wsX8_likely (va_wsS RX8 44 yX8_in wsX8_in) := goodIn_app (goodIn_of _ (by decide +kernel)) ggX8_likely_X8_in
set_option maxRecDepth 20000 in
theorem ggX8_likely_X8_has : GoodIn wsX8_likely wsX8_has := goodIn_r _ [12] (by decide +kernel) (by decide +kernel)
set_option maxRecDepth 20000 in
theorem gX8_likely_X8_has : GoodIn wsX8_likely (va_wsS RX8 67 yX8_has wsX8_has) := goodIn_app (goodIn_of _ (by decide +kernel)) ggX8_likely_X8_has
set_option maxRecDepth 20000 in
theorem ggX8_likely_X8_milkOf : GoodIn wsX8_likely wsX8_milkOf := goodIn_r _ [15, 10, 11, 5, 12] (by decide +kernel) (by decide +kernel)
set_option maxRecDepth 20000 in
theorem gX8_likely_X8_milkOf : GoodIn wsX8_likely (va_wsS RX8 71 yX8_milkOf wsX8_milkOf) := goodIn_app (goodIn_of _ (by decide +kernel)) ggX8_likely_X8_milkOf
set_option maxRecDepth 20000 in
theorem ggX8_likely_X8_part : GoodIn wsX8_likely wsX8_part := goodIn_r _ [18] (by decide +kernel) (by decide +kernel)
set_option maxRecDepth 20000 in
theorem gX8_likely_X8_part : GoodIn wsX8_likely (va_wsS RX8 165 yX8_part wsX8_part) := goodIn_app (goodIn_of _ (by decide +kernel)) ggX8_likely_X8_part
theorem dX8_likely_0 : decode cX8_likely 0 = .ok (.aload_n 0, 1) := by decide +kernel
theorem dX8_likely_1 : decode cX8_likely 1 = .ok (.iload_n 1, 1) := by decide +kernel
theorem dX8_likely_2 : decode cX8_likely 2 = .ok (.invokevirtual 60, 3) := by decide +kernel
theorem dX8_likely_5 : decode cX8_likely 5 = .ok (.ifCond .eq 12, 3) := by decide +kernel
theorem dX8_likely_8 : decode cX8_likely 8 = .ok (.iload_n 2, 1) := by decide +kernel
theorem dX8_likely_9 : decode cX8_likely 9 = .ok (.iconst 0, 1) := by decide +kernel
theorem dX8_likely_10 : decode cX8_likely 10 = .ok (.iconst 1, 1) := by decide +kernel
theorem dX8_likely_11 : decode cX8_likely 11 = .ok (.invokestatic 44, 3) := by decide +kernel
theorem dX8_likely_14 : decode cX8_likely 14 = .ok (.ifCond .ne 5, 3) := by decide +kernel
theorem dX8_likely_17 : decode cX8_likely 17 = .ok (.iconst (-1), 1) := by decide +kernel
theorem dX8_likely_18 : decode cX8_likely 18 = .ok (.ireturn, 1) := by decide +kernel
theorem dX8_likely_19 : decode cX8_likely 19 = .ok (.aload_n 0, 1) := by decide +kernel
theorem dX8_likely_20 : decode cX8_likely 20 = .ok (.getfield 23, 3) := by decide +kernel
theorem dX8_likely_23 : decode cX8_likely 23 = .ok (.iconst 2, 1) := by decide +kernel
theorem dX8_likely_24 : decode cX8_likely 24 = .ok (.iaload, 1) := by decide +kernel
theorem dX8_likely_25 : decode cX8_likely 25 = .ok (.iload_n 1, 1) := by decide +kernel
theorem dX8_likely_26 : decode cX8_likely 26 = .ok (.invokestatic 67, 3) := by decide +kernel
theorem dX8_likely_29 : decode cX8_likely 29 = .ok (.ifCond .eq 14, 3) := by decide +kernel
theorem dX8_likely_32 : decode cX8_likely 32 = .ok (.aload_n 0, 1) := by decide +kernel
theorem dX8_likely_33 : decode cX8_likely 33 = .ok (.getfield 23, 3) := by decide +kernel
theorem dX8_likely_36 : decode cX8_likely 36 = .ok (.iconst 5, 1) := by decide +kernel
theorem dX8_likely_37 : decode cX8_likely 37 = .ok (.iload_n 1, 1) := by decide +kernel
theorem dX8_likely_38 : decode cX8_likely 38 = .ok (.iadd, 1) := by decide +kernel
theorem dX8_likely_39 : decode cX8_likely 39 = .ok (.iaload, 1) := by decide +kernel
theorem dX8_likely_40 : decode cX8_likely 40 = .ok (.goto 4, 3) := by decide +kernel
theorem dX8_likely_43 : decode cX8_likely 43 = .ok (.iconst 0, 1) := by decide +kernel
theorem dX8_likely_44 : decode cX8_likely 44 = .ok (.istore_n 3, 1) := by decide +kernel
theorem dX8_likely_45 : decode cX8_likely 45 = .ok (.iload_n 3, 1) := by decide +kernel
theorem dX8_likely_46 : decode cX8_likely 46 = .ok (.i2l, 1) := by decide +kernel
theorem dX8_likely_47 : decode cX8_likely 47 = .ok (.iload_n 3, 1) := by decide +kernel
theorem dX8_likely_48 : decode cX8_likely 48 = .ok (.ifCond .ne 7, 3) := by decide +kernel
theorem dX8_likely_51 : decode cX8_likely 51 = .ok (.lconst 1, 1) := by decide +kernel
theorem dX8_likely_52 : decode cX8_likely 52 = .ok (.goto 17, 3) := by decide +kernel
theorem dX8_likely_55 : decode cX8_likely 55 = .ok (.aload_n 0, 1) := by decide +kernel
theorem dX8_likely_56 : decode cX8_likely 56 = .ok (.getfield 23, 3) := by decide +kernel
theorem dX8_likely_59 : decode cX8_likely 59 = .ok (.aload_n 0, 1) := by decide +kernel
theorem dX8_likely_60 : decode cX8_likely 60 = .ok (.getfield 23, 3) := by decide +kernel
theorem dX8_likely_63 : decode cX8_likely 63 = .ok (.iconst 2, 1) := by decide +kernel
theorem dX8_likely_64 : decode cX8_likely 64 = .ok (.iaload, 1) := by decide +kernel
theorem dX8_likely_65 : decode cX8_likely 65 = .ok (.invokestatic 71, 3) := by decide +kernel
theorem dX8_likely_68 : decode cX8_likely 68 = .ok (.i2l, 1) := by decide +kernel
theorem dX8_likely_69 : decode cX8_likely 69 = .ok (.iload_n 2, 1) := by decide +kernel
theorem dX8_likely_70 : decode cX8_likely 70 = .ok (.invokestatic 165, 3) := by decide +kernel
theorem dX8_likely_73 : decode cX8_likely 73 = .ok (.l2i, 1) := by decide +kernel
theorem dX8_likely_74 : decode cX8_likely 74 = .ok (.ireturn, 1) := by decide +kernel
set_option maxRecDepth 20000 in
theorem ggX8_noticed_X8_isTaster : GoodIn wsX8_noticed wsX8_isTaster := goodIn_r _ [6, 1, 7, 8, 5, 9, 35, 36, 37, 38, 39, 40, 41, 42, 43, 44, 45, 46, 47, 48, 49, 50, 51, 52] (by decide +kernel) (by decide +kernel)
set_option maxRecDepth 20000 in
theorem gX8_noticed_X8_isTaster : GoodIn wsX8_noticed (wsV RX8 64 RX8 yX8_isTaster wsX8_isTaster) := goodIn_app (goodIn_of _ (by decide +kernel)) ggX8_noticed_X8_isTaster
set_option maxRecDepth 20000 in
theorem ggX8_noticed_X8_isMix : GoodIn wsX8_noticed wsX8_isMix := goodIn_r _ [13, 1, 14, 15, 5, 16, 7, 8, 9, 35, 36, 37, 38, 39, 40, 41, 42, 43, 44, 45, 46, 47, 48, 49, 50, 51, 52] (by decide +kernel) (by decide +kernel)
set_option maxRecDepth 20000 in
theorem gX8_noticed_X8_isMix : GoodIn wsX8_noticed (wsV RX8 78 RX8 yX8_isMix wsX8_isMix) := goodIn_app (goodIn_of _ (by decide +kernel)) ggX8_noticed_X8_isMix
set_option maxRecDepth 20000 in
theorem ggX8_noticed_X8_in : GoodIn wsX8_noticed wsX8_in := goodIn_r _ [9] (by decide +kernel) (by decide +kernel)
set_option maxRecDepth 20000 in
theorem gX8_noticed_X8_in : GoodIn wsX8_noticed (va_wsS RX8 44 yX8_in wsX8_in) := goodIn_app (goodIn_of _ (by decide +kernel)) ggX8_noticed_X8_in
set_option maxRecDepth 20000 in
theorem ggX8_noticed_X8_noticedBy : GoodIn wsX8_noticed wsX8_noticedBy := goodIn_r _ [19, 20, 21, 5, 22, 23, 24, 25, 26, 27, 28, 29, 30, 31] (by decide +kernel) (by decide +kernel)
set_option maxRecDepth 20000 in
theorem gX8_noticed_X8_noticedBy : GoodIn wsX8_noticed (va_wsS RX8 122 yX8_noticedBy wsX8_noticedBy) := goodIn_app (goodIn_of _ (by decide +kernel)) ggX8_noticed_X8_noticedBy
set_option maxRecDepth 20000 in
theorem ggX8_noticed_X8_milkOf : GoodIn wsX8_noticed wsX8_milkOf := goodIn_r _ [28, 23, 24, 5, 25] (by decide +kernel) (by decide +kernel)
set_option maxRecDepth 20000 in
theorem gX8_noticed_X8_milkOf : GoodIn wsX8_noticed (va_wsS RX8 71 yX8_milkOf wsX8_milkOf) := goodIn_app (goodIn_of _ (by decide +kernel)) ggX8_noticed_X8_milkOf
set_option maxRecDepth 20000 in
theorem ggX8_noticed_X8_part : GoodIn wsX8_noticed wsX8_part := goodIn_r _ [34] (by decide +kernel) (by decide +kernel)
set_option maxRecDepth 20000 in
theorem gX8_noticed_X8_part : GoodIn wsX8_noticed (va_wsS RX8 165 yX8_part wsX8_part) := goodIn_app (goodIn_of _ (by decide +kernel)) ggX8_noticed_X8_part
theorem dX8_noticed_0 : decode cX8_noticed 0 = .ok (.aload_n 0, 1) := by decide +kernel
theorem dX8_noticed_1 : decode cX8_noticed 1 = .ok (.iload_n 1, 1) := by decide +kernel
theorem dX8_noticed_2 : decode cX8_noticed 2 = .ok (.invokevirtual 64, 3) := by decide +kernel
theorem dX8_noticed_5 : decode cX8_noticed 5 = .ok (.ifCond .eq 20, 3) := by decide +kernel
theorem dX8_noticed_8 : decode cX8_noticed 8 = .ok (.aload_n 0, 1) := by decide +kernel
theorem dX8_noticed_9 : decode cX8_noticed 9 = .ok (.iload_n 2, 1) := by decide +kernel
theorem dX8_noticed_10 : decode cX8_noticed 10 = .ok (.invokevirtual 78, 3) := by decide +kernel
theorem dX8_noticed_13 : decode cX8_noticed 13 = .ok (.ifCond .eq 12, 3) := by decide +kernel
theorem dX8_noticed_16 : decode cX8_noticed 16 = .ok (.iload_n 3, 1) := by decide +kernel
theorem dX8_noticed_17 : decode cX8_noticed 17 = .ok (.iconst 0, 1) := by decide +kernel
theorem dX8_noticed_18 : decode cX8_noticed 18 = .ok (.iconst 1, 1) := by decide +kernel
theorem dX8_noticed_19 : decode cX8_noticed 19 = .ok (.invokestatic 44, 3) := by decide +kernel
theorem dX8_noticed_22 : decode cX8_noticed 22 = .ok (.ifCond .ne 5, 3) := by decide +kernel
theorem dX8_noticed_25 : decode cX8_noticed 25 = .ok (.iconst (-1), 1) := by decide +kernel
theorem dX8_noticed_26 : decode cX8_noticed 26 = .ok (.ireturn, 1) := by decide +kernel
theorem dX8_noticed_27 : decode cX8_noticed 27 = .ok (.aload_n 0, 1) := by decide +kernel
theorem dX8_noticed_28 : decode cX8_noticed 28 = .ok (.getfield 23, 3) := by decide +kernel
theorem dX8_noticed_31 : decode cX8_noticed 31 = .ok (.aload_n 0, 1) := by decide +kernel
theorem dX8_noticed_32 : decode cX8_noticed 32 = .ok (.getfield 23, 3) := by decide +kernel
theorem dX8_noticed_35 : decode cX8_noticed 35 = .ok (.iconst 2, 1) := by decide +kernel
theorem dX8_noticed_36 : decode cX8_noticed 36 = .ok (.iaload, 1) := by decide +kernel
theorem dX8_noticed_37 : decode cX8_noticed 37 = .ok (.aload_n 0, 1) := by decide +kernel
theorem dX8_noticed_38 : decode cX8_noticed 38 = .ok (.getfield 23, 3) := by decide +kernel
theorem dX8_noticed_41 : decode cX8_noticed 41 = .ok (.iload_n 1, 1) := by decide +kernel
theorem dX8_noticed_42 : decode cX8_noticed 42 = .ok (.iload_n 2, 1) := by decide +kernel
theorem dX8_noticed_43 : decode cX8_noticed 43 = .ok (.invokestatic 122, 3) := by decide +kernel
theorem dX8_noticed_46 : decode cX8_noticed 46 = .ok (.iand, 1) := by decide +kernel
theorem dX8_noticed_47 : decode cX8_noticed 47 = .ok (.invokestatic 71, 3) := by decide +kernel
theorem dX8_noticed_50 : decode cX8_noticed 50 = .ok (.istore 4, 2) := by decide +kernel
theorem dX8_noticed_52 : decode cX8_noticed 52 = .ok (.iload 4, 2) := by decide +kernel
theorem dX8_noticed_54 : decode cX8_noticed 54 = .ok (.i2l, 1) := by decide +kernel
theorem dX8_noticed_55 : decode cX8_noticed 55 = .ok (.iload 4, 2) := by decide +kernel
theorem dX8_noticed_57 : decode cX8_noticed 57 = .ok (.ifCond .ne 7, 3) := by decide +kernel
theorem dX8_noticed_60 : decode cX8_noticed 60 = .ok (.lconst 1, 1) := by decide +kernel
theorem dX8_noticed_61 : decode cX8_noticed 61 = .ok (.goto 17, 3) := by decide +kernel
theorem dX8_noticed_64 : decode cX8_noticed 64 = .ok (.aload_n 0, 1) := by decide +kernel
theorem dX8_noticed_65 : decode cX8_noticed 65 = .ok (.getfield 23, 3) := by decide +kernel
theorem dX8_noticed_68 : decode cX8_noticed 68 = .ok (.aload_n 0, 1) := by decide +kernel
theorem dX8_noticed_69 : decode cX8_noticed 69 = .ok (.getfield 23, 3) := by decide +kernel
theorem dX8_noticed_72 : decode cX8_noticed 72 = .ok (.iconst 2, 1) := by decide +kernel
theorem dX8_noticed_73 : decode cX8_noticed 73 = .ok (.iaload, 1) := by decide +kernel
theorem dX8_noticed_74 : decode cX8_noticed 74 = .ok (.invokestatic 71, 3) := by decide +kernel
theorem dX8_noticed_77 : decode cX8_noticed 77 = .ok (.i2l, 1) := by decide +kernel
theorem dX8_noticed_78 : decode cX8_noticed 78 = .ok (.iload_n 3, 1) := by decide +kernel
theorem dX8_noticed_79 : decode cX8_noticed 79 = .ok (.invokestatic 165, 3) := by decide +kernel
theorem dX8_noticed_82 : decode cX8_noticed 82 = .ok (.l2i, 1) := by decide +kernel
theorem dX8_noticed_83 : decode cX8_noticed 83 = .ok (.ireturn, 1) := by decide +kernel
set_option maxRecDepth 20000 in
theorem ggX8_layOrder_X8_bits : GoodIn wsX8_layOrder wsX8_bits := goodIn_r _ [6] (by decide +kernel) (by decide +kernel)
set_option maxRecDepth 20000 in
theorem gX8_layOrder_X8_bits : GoodIn wsX8_layOrder (va_wsS RX8 74 yX8_bits wsX8_bits) := goodIn_app (goodIn_of _ (by decide +kernel)) ggX8_layOrder_X8_bits
set_option maxRecDepth 20000 in
theorem ggX8_layOrder_X8_has : GoodIn wsX8_layOrder wsX8_has := goodIn_r _ [9] (by decide +kernel) (by decide +kernel)
set_option maxRecDepth 20000 in
theorem gX8_layOrder_X8_has : GoodIn wsX8_layOrder (va_wsS RX8 67 yX8_has wsX8_has) := goodIn_app (goodIn_of _ (by decide +kernel)) ggX8_layOrder_X8_has
theorem dX8_layOrder_0 : decode cX8_layOrder 0 = .ok (.aload_n 0, 1) := by decide +kernel
theorem dX8_layOrder_1 : decode cX8_layOrder 1 = .ok (.getfield 23, 3) := by decide +kernel
theorem dX8_layOrder_4 : decode cX8_layOrder 4 = .ok (.iconst 2, 1) := by decide +kernel
theorem dX8_layOrder_5 : decode cX8_layOrder 5 = .ok (.iaload, 1) := by decide +kernel
theorem dX8_layOrder_6 : decode cX8_layOrder 6 = .ok (.istore_n 1, 1) := by decide +kernel
theorem dX8_layOrder_7 : decode cX8_layOrder 7 = .ok (.iload_n 1, 1) := by decide +kernel
theorem dX8_layOrder_8 : decode cX8_layOrder 8 = .ok (.invokestatic 74, 3) := by decide +kernel
theorem dX8_layOrder_11 : decode cX8_layOrder 11 = .ok (.istore_n 2, 1) := by decide +kernel
theorem dX8_layOrder_12 : decode cX8_layOrder 12 = .ok (.iconst 0, 1) := by decide +kernel
theorem dX8_layOrder_13 : decode cX8_layOrder 13 = .ok (.istore_n 3, 1) := by decide +kernel
theorem dX8_layOrder_14 : decode cX8_layOrder 14 = .ok (.iload_n 3, 1) := by decide +kernel
theorem dX8_layOrder_15 : decode cX8_layOrder 15 = .ok (.iload_n 2, 1) := by decide +kernel
theorem dX8_layOrder_16 : decode cX8_layOrder 16 = .ok (.if_icmp .ge 115, 3) := by decide +kernel
theorem dX8_layOrder_19 : decode cX8_layOrder 19 = .ok (.bipush (-4), 2) := by decide +kernel
theorem dX8_layOrder_21 : decode cX8_layOrder 21 = .ok (.istore 4, 2) := by decide +kernel
theorem dX8_layOrder_23 : decode cX8_layOrder 23 = .ok (.iconst 0, 1) := by decide +kernel
theorem dX8_layOrder_24 : decode cX8_layOrder 24 = .ok (.istore 5, 2) := by decide +kernel
theorem dX8_layOrder_26 : decode cX8_layOrder 26 = .ok (.iload 5, 2) := by decide +kernel
theorem dX8_layOrder_28 : decode cX8_layOrder 28 = .ok (.aload_n 0, 1) := by decide +kernel
theorem dX8_layOrder_29 : decode cX8_layOrder 29 = .ok (.getfield 23, 3) := by decide +kernel
theorem dX8_layOrder_32 : decode cX8_layOrder 32 = .ok (.iconst 4, 1) := by decide +kernel
theorem dX8_layOrder_33 : decode cX8_layOrder 33 = .ok (.iaload, 1) := by decide +kernel
theorem dX8_layOrder_34 : decode cX8_layOrder 34 = .ok (.if_icmp .ge 74, 3) := by decide +kernel
theorem dX8_layOrder_37 : decode cX8_layOrder 37 = .ok (.iload 4, 2) := by decide +kernel
theorem dX8_layOrder_39 : decode cX8_layOrder 39 = .ok (.bipush (-4), 2) := by decide +kernel
theorem dX8_layOrder_41 : decode cX8_layOrder 41 = .ok (.if_icmp .eq 31, 3) := by decide +kernel
theorem dX8_layOrder_44 : decode cX8_layOrder 44 = .ok (.iload_n 3, 1) := by decide +kernel
theorem dX8_layOrder_45 : decode cX8_layOrder 45 = .ok (.iload_n 2, 1) := by decide +kernel
theorem dX8_layOrder_46 : decode cX8_layOrder 46 = .ok (.iconst 2, 1) := by decide +kernel
theorem dX8_layOrder_47 : decode cX8_layOrder 47 = .ok (.isub, 1) := by decide +kernel
theorem dX8_layOrder_48 : decode cX8_layOrder 48 = .ok (.if_icmp .ge 28, 3) := by decide +kernel
theorem dX8_layOrder_51 : decode cX8_layOrder 51 = .ok (.aload_n 0, 1) := by decide +kernel
theorem dX8_layOrder_52 : decode cX8_layOrder 52 = .ok (.getfield 23, 3) := by decide +kernel
theorem dX8_layOrder_55 : decode cX8_layOrder 55 = .ok (.iconst 5, 1) := by decide +kernel
theorem dX8_layOrder_56 : decode cX8_layOrder 56 = .ok (.iload 5, 2) := by decide +kernel
theorem dX8_layOrder_58 : decode cX8_layOrder 58 = .ok (.iadd, 1) := by decide +kernel
theorem dX8_layOrder_59 : decode cX8_layOrder 59 = .ok (.iaload, 1) := by decide +kernel
theorem dX8_layOrder_60 : decode cX8_layOrder 60 = .ok (.aload_n 0, 1) := by decide +kernel
theorem dX8_layOrder_61 : decode cX8_layOrder 61 = .ok (.getfield 23, 3) := by decide +kernel
theorem dX8_layOrder_64 : decode cX8_layOrder 64 = .ok (.iconst 5, 1) := by decide +kernel
theorem dX8_layOrder_65 : decode cX8_layOrder 65 = .ok (.iload 4, 2) := by decide +kernel
theorem dX8_layOrder_67 : decode cX8_layOrder 67 = .ok (.iadd, 1) := by decide +kernel
theorem dX8_layOrder_68 : decode cX8_layOrder 68 = .ok (.iaload, 1) := by decide +kernel
theorem dX8_layOrder_69 : decode cX8_layOrder 69 = .ok (.if_icmp .le 7, 3) := by decide +kernel
theorem dX8_layOrder_72 : decode cX8_layOrder 72 = .ok (.iconst 1, 1) := by decide +kernel
theorem dX8_layOrder_73 : decode cX8_layOrder 73 = .ok (.goto 4, 3) := by decide +kernel
theorem dX8_layOrder_76 : decode cX8_layOrder 76 = .ok (.iconst 0, 1) := by decide +kernel
theorem dX8_layOrder_77 : decode cX8_layOrder 77 = .ok (.istore 6, 2) := by decide +kernel
theorem dX8_layOrder_79 : decode cX8_layOrder 79 = .ok (.iload_n 1, 1) := by decide +kernel
theorem dX8_layOrder_80 : decode cX8_layOrder 80 = .ok (.iload 5, 2) := by decide +kernel
theorem dX8_layOrder_82 : decode cX8_layOrder 82 = .ok (.invokestatic 67, 3) := by decide +kernel
theorem dX8_layOrder_85 : decode cX8_layOrder 85 = .ok (.ifCond .eq 13, 3) := by decide +kernel
theorem dX8_layOrder_88 : decode cX8_layOrder 88 = .ok (.iload 6, 2) := by decide +kernel
theorem dX8_layOrder_90 : decode cX8_layOrder 90 = .ok (.ifCond .eq 8, 3) := by decide +kernel
theorem dX8_layOrder_93 : decode cX8_layOrder 93 = .ok (.iload 5, 2) := by decide +kernel
theorem dX8_layOrder_95 : decode cX8_layOrder 95 = .ok (.goto 5, 3) := by decide +kernel
theorem dX8_layOrder_98 : decode cX8_layOrder 98 = .ok (.iload 4, 2) := by decide +kernel
theorem dX8_layOrder_100 : decode cX8_layOrder 100 = .ok (.istore 4, 2) := by decide +kernel
theorem dX8_layOrder_102 : decode cX8_layOrder 102 = .ok (.iinc 5 1, 3) := by decide +kernel
theorem dX8_layOrder_105 : decode cX8_layOrder 105 = .ok (.goto (-79), 3) := by decide +kernel
theorem dX8_layOrder_108 : decode cX8_layOrder 108 = .ok (.aload_n 0, 1) := by decide +kernel
theorem dX8_layOrder_109 : decode cX8_layOrder 109 = .ok (.getfield 41, 3) := by decide +kernel
theorem dX8_layOrder_112 : decode cX8_layOrder 112 = .ok (.iload_n 3, 1) := by decide +kernel
theorem dX8_layOrder_113 : decode cX8_layOrder 113 = .ok (.iload 4, 2) := by decide +kernel
theorem dX8_layOrder_115 : decode cX8_layOrder 115 = .ok (.iastore, 1) := by decide +kernel
theorem dX8_layOrder_116 : decode cX8_layOrder 116 = .ok (.iload_n 1, 1) := by decide +kernel
theorem dX8_layOrder_117 : decode cX8_layOrder 117 = .ok (.iconst 1, 1) := by decide +kernel
theorem dX8_layOrder_118 : decode cX8_layOrder 118 = .ok (.iload 4, 2) := by decide +kernel
theorem dX8_layOrder_120 : decode cX8_layOrder 120 = .ok (.ishl, 1) := by decide +kernel
theorem dX8_layOrder_121 : decode cX8_layOrder 121 = .ok (.iconst (-1), 1) := by decide +kernel
theorem dX8_layOrder_122 : decode cX8_layOrder 122 = .ok (.ixor, 1) := by decide +kernel
theorem dX8_layOrder_123 : decode cX8_layOrder 123 = .ok (.iand, 1) := by decide +kernel
theorem dX8_layOrder_124 : decode cX8_layOrder 124 = .ok (.istore_n 1, 1) := by decide +kernel
theorem dX8_layOrder_125 : decode cX8_layOrder 125 = .ok (.iinc 3 1, 3) := by decide +kernel
theorem dX8_layOrder_128 : decode cX8_layOrder 128 = .ok (.goto (-114), 3) := by decide +kernel
theorem dX8_layOrder_131 : decode cX8_layOrder 131 = .ok (.iload_n 2, 1) := by decide +kernel
theorem dX8_layOrder_132 : decode cX8_layOrder 132 = .ok (.ireturn, 1) := by decide +kernel
set_option maxRecDepth 20000 in
theorem ggX8_single_X8_layOrder : GoodIn wsX8_single wsX8_layOrder := goodIn_r _ [7, 2, 1, 8, 9, 6, 10, 11, 12, 13, 20, 21, 22, 23, 24, 25, 26, 27, 28, 29, 30, 31, 32, 33, 34, 35, 36, 37] (by decide +kernel) (by decide +kernel)
set_option maxRecDepth 20000 in
theorem gX8_single_X8_layOrder : GoodIn wsX8_single (wsV RX8 169 RX8 yX8_layOrder wsX8_layOrder) := goodIn_app (goodIn_of _ (by decide +kernel)) ggX8_single_X8_layOrder
set_option maxRecDepth 20000 in
theorem ggX8_single_X8_milkOf : GoodIn wsX8_single wsX8_milkOf := goodIn_r _ [16, 11, 12, 6, 13] (by decide +kernel) (by decide +kernel)
set_option maxRecDepth 20000 in
theorem gX8_single_X8_milkOf : GoodIn wsX8_single (va_wsS RX8 71 yX8_milkOf wsX8_milkOf) := goodIn_app (goodIn_of _ (by decide +kernel)) ggX8_single_X8_milkOf
set_option maxRecDepth 20000 in
theorem ggX8_single_X8_part : GoodIn wsX8_single wsX8_part := goodIn_r _ [19] (by decide +kernel) (by decide +kernel)
set_option maxRecDepth 20000 in
theorem gX8_single_X8_part : GoodIn wsX8_single (va_wsS RX8 165 yX8_part wsX8_part) := goodIn_app (goodIn_of _ (by decide +kernel)) ggX8_single_X8_part
theorem dX8_single_0 : decode cX8_single 0 = .ok (.iload_n 1, 1) := by decide +kernel
theorem dX8_single_1 : decode cX8_single 1 = .ok (.bipush (-2), 2) := by decide +kernel
theorem dX8_single_3 : decode cX8_single 3 = .ok (.if_icmp .ge 5, 3) := by decide +kernel
theorem dX8_single_6 : decode cX8_single 6 = .ok (.iconst (-1), 1) := by decide +kernel
theorem dX8_single_7 : decode cX8_single 7 = .ok (.ireturn, 1) := by decide +kernel
theorem dX8_single_8 : decode cX8_single 8 = .ok (.aload_n 0, 1) := by decide +kernel
theorem dX8_single_9 : decode cX8_single 9 = .ok (.invokevirtual 169, 3) := by decide +kernel
theorem dX8_single_12 : decode cX8_single 12 = .ok (.istore_n 2, 1) := by decide +kernel
theorem dX8_single_13 : decode cX8_single 13 = .ok (.iload_n 1, 1) := by decide +kernel
theorem dX8_single_14 : decode cX8_single 14 = .ok (.ifCond .lt 20, 3) := by decide +kernel
theorem dX8_single_17 : decode cX8_single 17 = .ok (.iload_n 1, 1) := by decide +kernel
theorem dX8_single_18 : decode cX8_single 18 = .ok (.iload_n 2, 1) := by decide +kernel
theorem dX8_single_19 : decode cX8_single 19 = .ok (.if_icmp .ge 12, 3) := by decide +kernel
theorem dX8_single_22 : decode cX8_single 22 = .ok (.aload_n 0, 1) := by decide +kernel
theorem dX8_single_23 : decode cX8_single 23 = .ok (.getfield 41, 3) := by decide +kernel
theorem dX8_single_26 : decode cX8_single 26 = .ok (.iload_n 1, 1) := by decide +kernel
theorem dX8_single_27 : decode cX8_single 27 = .ok (.iaload, 1) := by decide +kernel
theorem dX8_single_28 : decode cX8_single 28 = .ok (.goto 5, 3) := by decide +kernel
theorem dX8_single_31 : decode cX8_single 31 = .ok (.bipush (-4), 2) := by decide +kernel
theorem dX8_single_33 : decode cX8_single 33 = .ok (.ireturn, 1) := by decide +kernel
theorem dX8_single_34 : decode cX8_single 34 = .ok (.iconst 0, 1) := by decide +kernel
theorem dX8_single_35 : decode cX8_single 35 = .ok (.istore_n 3, 1) := by decide +kernel
theorem dX8_single_36 : decode cX8_single 36 = .ok (.iconst 0, 1) := by decide +kernel
theorem dX8_single_37 : decode cX8_single 37 = .ok (.istore 4, 2) := by decide +kernel
theorem dX8_single_39 : decode cX8_single 39 = .ok (.iload 4, 2) := by decide +kernel
theorem dX8_single_41 : decode cX8_single 41 = .ok (.iload_n 2, 1) := by decide +kernel
theorem dX8_single_42 : decode cX8_single 42 = .ok (.if_icmp .ge 44, 3) := by decide +kernel
theorem dX8_single_45 : decode cX8_single 45 = .ok (.iload_n 3, 1) := by decide +kernel
theorem dX8_single_46 : decode cX8_single 46 = .ok (.aload_n 0, 1) := by decide +kernel
theorem dX8_single_47 : decode cX8_single 47 = .ok (.getfield 23, 3) := by decide +kernel
theorem dX8_single_50 : decode cX8_single 50 = .ok (.iconst 5, 1) := by decide +kernel
theorem dX8_single_51 : decode cX8_single 51 = .ok (.aload_n 0, 1) := by decide +kernel
theorem dX8_single_52 : decode cX8_single 52 = .ok (.getfield 41, 3) := by decide +kernel
theorem dX8_single_55 : decode cX8_single 55 = .ok (.iload 4, 2) := by decide +kernel
theorem dX8_single_57 : decode cX8_single 57 = .ok (.iaload, 1) := by decide +kernel
theorem dX8_single_58 : decode cX8_single 58 = .ok (.iadd, 1) := by decide +kernel
theorem dX8_single_59 : decode cX8_single 59 = .ok (.iaload, 1) := by decide +kernel
theorem dX8_single_60 : decode cX8_single 60 = .ok (.iload 4, 2) := by decide +kernel
theorem dX8_single_62 : decode cX8_single 62 = .ok (.iload_n 2, 1) := by decide +kernel
theorem dX8_single_63 : decode cX8_single 63 = .ok (.iconst 1, 1) := by decide +kernel
theorem dX8_single_64 : decode cX8_single 64 = .ok (.isub, 1) := by decide +kernel
theorem dX8_single_65 : decode cX8_single 65 = .ok (.if_icmp .ge 10, 3) := by decide +kernel
theorem dX8_single_68 : decode cX8_single 68 = .ok (.iload 4, 2) := by decide +kernel
theorem dX8_single_70 : decode cX8_single 70 = .ok (.iconst 1, 1) := by decide +kernel
theorem dX8_single_71 : decode cX8_single 71 = .ok (.iadd, 1) := by decide +kernel
theorem dX8_single_72 : decode cX8_single 72 = .ok (.goto 5, 3) := by decide +kernel
theorem dX8_single_75 : decode cX8_single 75 = .ok (.iload 4, 2) := by decide +kernel
theorem dX8_single_77 : decode cX8_single 77 = .ok (.imul, 1) := by decide +kernel
theorem dX8_single_78 : decode cX8_single 78 = .ok (.iadd, 1) := by decide +kernel
theorem dX8_single_79 : decode cX8_single 79 = .ok (.istore_n 3, 1) := by decide +kernel
theorem dX8_single_80 : decode cX8_single 80 = .ok (.iinc 4 1, 3) := by decide +kernel
theorem dX8_single_83 : decode cX8_single 83 = .ok (.goto (-44), 3) := by decide +kernel
theorem dX8_single_86 : decode cX8_single 86 = .ok (.iload_n 3, 1) := by decide +kernel
theorem dX8_single_87 : decode cX8_single 87 = .ok (.i2l, 1) := by decide +kernel
theorem dX8_single_88 : decode cX8_single 88 = .ok (.iload_n 3, 1) := by decide +kernel
theorem dX8_single_89 : decode cX8_single 89 = .ok (.ifCond .ne 7, 3) := by decide +kernel
theorem dX8_single_92 : decode cX8_single 92 = .ok (.lconst 1, 1) := by decide +kernel
theorem dX8_single_93 : decode cX8_single 93 = .ok (.goto 17, 3) := by decide +kernel
theorem dX8_single_96 : decode cX8_single 96 = .ok (.aload_n 0, 1) := by decide +kernel
theorem dX8_single_97 : decode cX8_single 97 = .ok (.getfield 23, 3) := by decide +kernel
theorem dX8_single_100 : decode cX8_single 100 = .ok (.aload_n 0, 1) := by decide +kernel
theorem dX8_single_101 : decode cX8_single 101 = .ok (.getfield 23, 3) := by decide +kernel
theorem dX8_single_104 : decode cX8_single 104 = .ok (.iconst 2, 1) := by decide +kernel
theorem dX8_single_105 : decode cX8_single 105 = .ok (.iaload, 1) := by decide +kernel
theorem dX8_single_106 : decode cX8_single 106 = .ok (.invokestatic 71, 3) := by decide +kernel
theorem dX8_single_109 : decode cX8_single 109 = .ok (.i2l, 1) := by decide +kernel
theorem dX8_single_110 : decode cX8_single 110 = .ok (.iconst (-1), 1) := by decide +kernel
theorem dX8_single_111 : decode cX8_single 111 = .ok (.iload_n 1, 1) := by decide +kernel
theorem dX8_single_112 : decode cX8_single 112 = .ok (.isub, 1) := by decide +kernel
theorem dX8_single_113 : decode cX8_single 113 = .ok (.invokestatic 165, 3) := by decide +kernel
theorem dX8_single_116 : decode cX8_single 116 = .ok (.l2i, 1) := by decide +kernel
theorem dX8_single_117 : decode cX8_single 117 = .ok (.ireturn, 1) := by decide +kernel
set_option maxRecDepth 20000 in
theorem ggX8_share_X8_isCow : GoodIn wsX8_share wsX8_isCow := goodIn_r _ [6, 1, 7, 8, 5, 9, 26, 27, 28, 29, 30, 31, 32, 33, 34, 35, 36, 37, 38, 39, 40, 41, 42, 43] (by decide +kernel) (by decide +kernel)
set_option maxRecDepth 20000 in
theorem gX8_share_X8_isCow : GoodIn wsX8_share (wsV RX8 60 RX8 yX8_isCow wsX8_isCow) := goodIn_app (goodIn_of _ (by decide +kernel)) ggX8_share_X8_isCow
set_option maxRecDepth 20000 in
theorem ggX8_share_X8_isMix : GoodIn wsX8_share wsX8_isMix := goodIn_r _ [13, 1, 14, 15, 5, 16, 7, 8, 9, 26, 27, 28, 29, 30, 31, 32, 33, 34, 35, 36, 37, 38, 39, 40, 41, 42, 43] (by decide +kernel) (by decide +kernel)
set_option maxRecDepth 20000 in
theorem gX8_share_X8_isMix : GoodIn wsX8_share (wsV RX8 78 RX8 yX8_isMix wsX8_isMix) := goodIn_app (goodIn_of _ (by decide +kernel)) ggX8_share_X8_isMix
set_option maxRecDepth 20000 in
theorem ggX8_share_X8_in : GoodIn wsX8_share wsX8_in := goodIn_r _ [9] (by decide +kernel) (by decide +kernel)
set_option maxRecDepth 20000 in
theorem gX8_share_X8_in : GoodIn wsX8_share (va_wsS RX8 44 yX8_in wsX8_in) := goodIn_app (goodIn_of _ (by decide +kernel)) ggX8_share_X8_in
set_option maxRecDepth 20000 in
theorem ggX8_share_X8_has : GoodIn wsX8_share wsX8_has := goodIn_r _ [19] (by decide +kernel) (by decide +kernel)
set_option maxRecDepth 20000 in
theorem gX8_share_X8_has : GoodIn wsX8_share (va_wsS RX8 67 yX8_has wsX8_has) := goodIn_app (goodIn_of _ (by decide +kernel)) ggX8_share_X8_has
set_option maxRecDepth 20000 in
theorem ggX8_share_X8_milkOf : GoodIn wsX8_share wsX8_milkOf := goodIn_r _ [22, 17, 18, 5, 19] (by decide +kernel) (by decide +kernel)
set_option maxRecDepth 20000 in
theorem gX8_share_X8_milkOf : GoodIn wsX8_share (va_wsS RX8 71 yX8_milkOf wsX8_milkOf) := goodIn_app (goodIn_of _ (by decide +kernel)) ggX8_share_X8_milkOf
set_option maxRecDepth 20000 in
theorem ggX8_share_X8_part : GoodIn wsX8_share wsX8_part := goodIn_r _ [25] (by decide +kernel) (by decide +kernel)
set_option maxRecDepth 20000 in
theorem gX8_share_X8_part : GoodIn wsX8_share (va_wsS RX8 165 yX8_part wsX8_part) := goodIn_app (goodIn_of _ (by decide +kernel)) ggX8_share_X8_part
theorem dX8_share_0 : decode cX8_share 0 = .ok (.aload_n 0, 1) := by decide +kernel
theorem dX8_share_1 : decode cX8_share 1 = .ok (.iload_n 1, 1) := by decide +kernel
theorem dX8_share_2 : decode cX8_share 2 = .ok (.invokevirtual 60, 3) := by decide +kernel
theorem dX8_share_5 : decode cX8_share 5 = .ok (.ifCond .eq 20, 3) := by decide +kernel
theorem dX8_share_8 : decode cX8_share 8 = .ok (.aload_n 0, 1) := by decide +kernel
theorem dX8_share_9 : decode cX8_share 9 = .ok (.iload_n 2, 1) := by decide +kernel
theorem dX8_share_10 : decode cX8_share 10 = .ok (.invokevirtual 78, 3) := by decide +kernel
theorem dX8_share_13 : decode cX8_share 13 = .ok (.ifCond .eq 12, 3) := by decide +kernel
theorem dX8_share_16 : decode cX8_share 16 = .ok (.iload_n 3, 1) := by decide +kernel
theorem dX8_share_17 : decode cX8_share 17 = .ok (.iconst 0, 1) := by decide +kernel
theorem dX8_share_18 : decode cX8_share 18 = .ok (.iconst 1, 1) := by decide +kernel
theorem dX8_share_19 : decode cX8_share 19 = .ok (.invokestatic 44, 3) := by decide +kernel
theorem dX8_share_22 : decode cX8_share 22 = .ok (.ifCond .ne 5, 3) := by decide +kernel
theorem dX8_share_25 : decode cX8_share 25 = .ok (.iconst (-1), 1) := by decide +kernel
theorem dX8_share_26 : decode cX8_share 26 = .ok (.ireturn, 1) := by decide +kernel
theorem dX8_share_27 : decode cX8_share 27 = .ok (.iload_n 2, 1) := by decide +kernel
theorem dX8_share_28 : decode cX8_share 28 = .ok (.iload_n 1, 1) := by decide +kernel
theorem dX8_share_29 : decode cX8_share 29 = .ok (.invokestatic 67, 3) := by decide +kernel
theorem dX8_share_32 : decode cX8_share 32 = .ok (.ifCond .eq 14, 3) := by decide +kernel
theorem dX8_share_35 : decode cX8_share 35 = .ok (.aload_n 0, 1) := by decide +kernel
theorem dX8_share_36 : decode cX8_share 36 = .ok (.getfield 23, 3) := by decide +kernel
theorem dX8_share_39 : decode cX8_share 39 = .ok (.iconst 5, 1) := by decide +kernel
theorem dX8_share_40 : decode cX8_share 40 = .ok (.iload_n 1, 1) := by decide +kernel
theorem dX8_share_41 : decode cX8_share 41 = .ok (.iadd, 1) := by decide +kernel
theorem dX8_share_42 : decode cX8_share 42 = .ok (.iaload, 1) := by decide +kernel
theorem dX8_share_43 : decode cX8_share 43 = .ok (.goto 4, 3) := by decide +kernel
theorem dX8_share_46 : decode cX8_share 46 = .ok (.iconst 0, 1) := by decide +kernel
theorem dX8_share_47 : decode cX8_share 47 = .ok (.istore 4, 2) := by decide +kernel
theorem dX8_share_49 : decode cX8_share 49 = .ok (.iload 4, 2) := by decide +kernel
theorem dX8_share_51 : decode cX8_share 51 = .ok (.i2l, 1) := by decide +kernel
theorem dX8_share_52 : decode cX8_share 52 = .ok (.iload 4, 2) := by decide +kernel
theorem dX8_share_54 : decode cX8_share 54 = .ok (.ifCond .ne 7, 3) := by decide +kernel
theorem dX8_share_57 : decode cX8_share 57 = .ok (.lconst 1, 1) := by decide +kernel
theorem dX8_share_58 : decode cX8_share 58 = .ok (.goto 12, 3) := by decide +kernel
theorem dX8_share_61 : decode cX8_share 61 = .ok (.aload_n 0, 1) := by decide +kernel
theorem dX8_share_62 : decode cX8_share 62 = .ok (.getfield 23, 3) := by decide +kernel
theorem dX8_share_65 : decode cX8_share 65 = .ok (.iload_n 2, 1) := by decide +kernel
theorem dX8_share_66 : decode cX8_share 66 = .ok (.invokestatic 71, 3) := by decide +kernel
theorem dX8_share_69 : decode cX8_share 69 = .ok (.i2l, 1) := by decide +kernel
theorem dX8_share_70 : decode cX8_share 70 = .ok (.iload_n 3, 1) := by decide +kernel
theorem dX8_share_71 : decode cX8_share 71 = .ok (.invokestatic 165, 3) := by decide +kernel
theorem dX8_share_74 : decode cX8_share 74 = .ok (.l2i, 1) := by decide +kernel
theorem dX8_share_75 : decode cX8_share 75 = .ok (.ireturn, 1) := by decide +kernel
set_option maxRecDepth 20000 in
theorem ggX8_image_X8_bring : GoodIn wsX8_image wsX8_bring := goodIn_r _ [7] (by decide +kernel) (by decide +kernel)
set_option maxRecDepth 20000 in
theorem gX8_image_X8_bring : GoodIn wsX8_image (va_wsS RX8 118 yX8_bring wsX8_bring) := goodIn_app (goodIn_of _ (by decide +kernel)) ggX8_image_X8_bring
theorem dX8_image_0 : decode cX8_image 0 = .ok (.aload_n 0, 1) := by decide +kernel
theorem dX8_image_1 : decode cX8_image 1 = .ok (.getfield 23, 3) := by decide +kernel
theorem dX8_image_4 : decode cX8_image 4 = .ok (.iconst 0, 1) := by decide +kernel
theorem dX8_image_5 : decode cX8_image 5 = .ok (.aload_n 0, 1) := by decide +kernel
theorem dX8_image_6 : decode cX8_image 6 = .ok (.getfield 32, 3) := by decide +kernel
theorem dX8_image_9 : decode cX8_image 9 = .ok (.iconst 0, 1) := by decide +kernel
theorem dX8_image_10 : decode cX8_image 10 = .ok (.bipush 55, 2) := by decide +kernel
theorem dX8_image_12 : decode cX8_image 12 = .ok (.invokestatic 118, 3) := by decide +kernel
theorem dX8_image_15 : decode cX8_image 15 = .ok (.aload_n 0, 1) := by decide +kernel
theorem dX8_image_16 : decode cX8_image 16 = .ok (.iconst 1, 1) := by decide +kernel
theorem dX8_image_17 : decode cX8_image 17 = .ok (.putfield 172, 3) := by decide +kernel
theorem dX8_image_20 : decode cX8_image 20 = .ok (.iconst 1, 1) := by decide +kernel
theorem dX8_image_21 : decode cX8_image 21 = .ok (.ireturn, 1) := by decide +kernel
set_option maxRecDepth 20000 in
theorem ggX8_restore_X8_bring : GoodIn wsX8_restore wsX8_bring := goodIn_r _ [7] (by decide +kernel) (by decide +kernel)
set_option maxRecDepth 20000 in
theorem gX8_restore_X8_bring : GoodIn wsX8_restore (va_wsS RX8 118 yX8_bring wsX8_bring) := goodIn_app (goodIn_of _ (by decide +kernel)) ggX8_restore_X8_bring
theorem dX8_restore_0 : decode cX8_restore 0 = .ok (.aload_n 0, 1) := by decide +kernel
theorem dX8_restore_1 : decode cX8_restore 1 = .ok (.getfield 172, 3) := by decide +kernel
theorem dX8_restore_4 : decode cX8_restore 4 = .ok (.ifCond .ne 6, 3) := by decide +kernel
theorem dX8_restore_7 : decode cX8_restore 7 = .ok (.bipush (-4), 2) := by decide +kernel
theorem dX8_restore_9 : decode cX8_restore 9 = .ok (.ireturn, 1) := by decide +kernel
theorem dX8_restore_10 : decode cX8_restore 10 = .ok (.aload_n 0, 1) := by decide +kernel
theorem dX8_restore_11 : decode cX8_restore 11 = .ok (.getfield 32, 3) := by decide +kernel
theorem dX8_restore_14 : decode cX8_restore 14 = .ok (.iconst 0, 1) := by decide +kernel
theorem dX8_restore_15 : decode cX8_restore 15 = .ok (.aload_n 0, 1) := by decide +kernel
theorem dX8_restore_16 : decode cX8_restore 16 = .ok (.getfield 23, 3) := by decide +kernel
theorem dX8_restore_19 : decode cX8_restore 19 = .ok (.iconst 0, 1) := by decide +kernel
theorem dX8_restore_20 : decode cX8_restore 20 = .ok (.bipush 55, 2) := by decide +kernel
theorem dX8_restore_22 : decode cX8_restore 22 = .ok (.invokestatic 118, 3) := by decide +kernel
theorem dX8_restore_25 : decode cX8_restore 25 = .ok (.iconst 1, 1) := by decide +kernel
theorem dX8_restore_26 : decode cX8_restore 26 = .ok (.ireturn, 1) := by decide +kernel
set_option maxRecDepth 20000 in
theorem ggX8_isSheet_X8_in : GoodIn wsX8_isSheet wsX8_in := goodIn_r _ [4] (by decide +kernel) (by decide +kernel)
set_option maxRecDepth 20000 in
theorem gX8_isSheet_X8_in : GoodIn wsX8_isSheet (va_wsS RX8 44 yX8_in wsX8_in) := goodIn_app (goodIn_of _ (by decide +kernel)) ggX8_isSheet_X8_in
theorem dX8_isSheet_0 : decode cX8_isSheet 0 = .ok (.iload_n 0, 1) := by decide +kernel
theorem dX8_isSheet_1 : decode cX8_isSheet 1 = .ok (.iconst 0, 1) := by decide +kernel
theorem dX8_isSheet_2 : decode cX8_isSheet 2 = .ok (.iconst 3, 1) := by decide +kernel
theorem dX8_isSheet_3 : decode cX8_isSheet 3 = .ok (.invokestatic 44, 3) := by decide +kernel
theorem dX8_isSheet_6 : decode cX8_isSheet 6 = .ok (.ireturn, 1) := by decide +kernel
theorem dX8_isPart_0 : decode cX8_isPart 0 = .ok (.iload_n 1, 1) := by decide +kernel
theorem dX8_isPart_1 : decode cX8_isPart 1 = .ok (.ifCond .lt 23, 3) := by decide +kernel
theorem dX8_isPart_4 : decode cX8_isPart 4 = .ok (.iload_n 0, 1) := by decide +kernel
theorem dX8_isPart_5 : decode cX8_isPart 5 = .ok (.ifCond .lt 19, 3) := by decide +kernel
theorem dX8_isPart_8 : decode cX8_isPart 8 = .ok (.iload_n 1, 1) := by decide +kernel
theorem dX8_isPart_9 : decode cX8_isPart 9 = .ok (.iload_n 2, 1) := by decide +kernel
theorem dX8_isPart_10 : decode cX8_isPart 10 = .ok (.if_icmp .gt 14, 3) := by decide +kernel
theorem dX8_isPart_13 : decode cX8_isPart 13 = .ok (.iload_n 0, 1) := by decide +kernel
theorem dX8_isPart_14 : decode cX8_isPart 14 = .ok (.iload_n 2, 1) := by decide +kernel
theorem dX8_isPart_15 : decode cX8_isPart 15 = .ok (.iload_n 1, 1) := by decide +kernel
theorem dX8_isPart_16 : decode cX8_isPart 16 = .ok (.isub, 1) := by decide +kernel
theorem dX8_isPart_17 : decode cX8_isPart 17 = .ok (.if_icmp .gt 7, 3) := by decide +kernel
theorem dX8_isPart_20 : decode cX8_isPart 20 = .ok (.iconst 1, 1) := by decide +kernel
theorem dX8_isPart_21 : decode cX8_isPart 21 = .ok (.goto 4, 3) := by decide +kernel
theorem dX8_isPart_24 : decode cX8_isPart 24 = .ok (.iconst 0, 1) := by decide +kernel
theorem dX8_isPart_25 : decode cX8_isPart 25 = .ok (.ireturn, 1) := by decide +kernel
set_option maxRecDepth 20000 in
theorem ggX8_wrong_X8_isPart : GoodIn wsX8_wrong wsX8_isPart := goodIn_r _ [6] (by decide +kernel) (by decide +kernel)
set_option maxRecDepth 20000 in
theorem gX8_wrong_X8_isPart : GoodIn wsX8_wrong (va_wsS RX8 176 yX8_isPart wsX8_isPart) := goodIn_app (goodIn_of _ (by decide +kernel)) ggX8_wrong_X8_isPart
theorem dX8_wrong_0 : decode cX8_wrong 0 = .ok (.aload_n 0, 1) := by decide +kernel
theorem dX8_wrong_1 : decode cX8_wrong 1 = .ok (.getfield 7, 3) := by decide +kernel
theorem dX8_wrong_4 : decode cX8_wrong 4 = .ok (.iload_n 1, 1) := by decide +kernel
theorem dX8_wrong_5 : decode cX8_wrong 5 = .ok (.iaload, 1) := by decide +kernel
theorem dX8_wrong_6 : decode cX8_wrong 6 = .ok (.ifCond .ge 8, 3) := by decide +kernel
theorem dX8_wrong_9 : decode cX8_wrong 9 = .ok (.bipush (-11), 2) := by decide +kernel
theorem dX8_wrong_11 : decode cX8_wrong 11 = .ok (.goto 39, 3) := by decide +kernel
theorem dX8_wrong_14 : decode cX8_wrong 14 = .ok (.aload_n 0, 1) := by decide +kernel
theorem dX8_wrong_15 : decode cX8_wrong 15 = .ok (.getfield 7, 3) := by decide +kernel
theorem dX8_wrong_18 : decode cX8_wrong 18 = .ok (.iload_n 1, 1) := by decide +kernel
theorem dX8_wrong_19 : decode cX8_wrong 19 = .ok (.iaload, 1) := by decide +kernel
theorem dX8_wrong_20 : decode cX8_wrong 20 = .ok (.iload_n 2, 1) := by decide +kernel
theorem dX8_wrong_21 : decode cX8_wrong 21 = .ok (.if_icmp .eq 8, 3) := by decide +kernel
theorem dX8_wrong_24 : decode cX8_wrong 24 = .ok (.bipush (-12), 2) := by decide +kernel
theorem dX8_wrong_26 : decode cX8_wrong 26 = .ok (.goto 24, 3) := by decide +kernel
theorem dX8_wrong_29 : decode cX8_wrong 29 = .ok (.iload_n 3, 1) := by decide +kernel
theorem dX8_wrong_30 : decode cX8_wrong 30 = .ok (.iload 4, 2) := by decide +kernel
theorem dX8_wrong_32 : decode cX8_wrong 32 = .ok (.aload_n 0, 1) := by decide +kernel
theorem dX8_wrong_33 : decode cX8_wrong 33 = .ok (.getfield 13, 3) := by decide +kernel
theorem dX8_wrong_36 : decode cX8_wrong 36 = .ok (.iload_n 1, 1) := by decide +kernel
theorem dX8_wrong_37 : decode cX8_wrong 37 = .ok (.iaload, 1) := by decide +kernel
theorem dX8_wrong_38 : decode cX8_wrong 38 = .ok (.invokestatic 176, 3) := by decide +kernel
theorem dX8_wrong_41 : decode cX8_wrong 41 = .ok (.ifCond .eq 7, 3) := by decide +kernel
theorem dX8_wrong_44 : decode cX8_wrong 44 = .ok (.iconst 0, 1) := by decide +kernel
theorem dX8_wrong_45 : decode cX8_wrong 45 = .ok (.goto 5, 3) := by decide +kernel
theorem dX8_wrong_48 : decode cX8_wrong 48 = .ok (.bipush (-13), 2) := by decide +kernel
theorem dX8_wrong_50 : decode cX8_wrong 50 = .ok (.ireturn, 1) := by decide +kernel
set_option maxRecDepth 20000 in
theorem ggX8_wrongPairs_X8_wrong : GoodIn wsX8_wrongPairs wsX8_wrong := goodIn_r _ [7, 8, 9, 10, 11, 6, 12, 16, 17, 18, 19, 20, 21, 22, 23, 24, 25, 26, 27, 28, 29, 30, 31, 32, 33] (by decide +kernel) (by decide +kernel)
set_option maxRecDepth 20000 in
theorem gX8_wrongPairs_X8_wrong : GoodIn wsX8_wrongPairs (wsV RX8 179 RX8 yX8_wrong wsX8_wrong) := goodIn_app (goodIn_of _ (by decide +kernel)) ggX8_wrongPairs_X8_wrong
set_option maxRecDepth 20000 in
theorem ggX8_wrongPairs_X8_allOf : GoodIn wsX8_wrongPairs wsX8_allOf := goodIn_r _ [15] (by decide +kernel) (by decide +kernel)
set_option maxRecDepth 20000 in
theorem gX8_wrongPairs_X8_allOf : GoodIn wsX8_wrongPairs (va_wsS RX8 48 yX8_allOf wsX8_allOf) := goodIn_app (goodIn_of _ (by decide +kernel)) ggX8_wrongPairs_X8_allOf
theorem dX8_wrongPairs_0 : decode cX8_wrongPairs 0 = .ok (.aload_n 0, 1) := by decide +kernel
theorem dX8_wrongPairs_1 : decode cX8_wrongPairs 1 = .ok (.iload_n 1, 1) := by decide +kernel
theorem dX8_wrongPairs_2 : decode cX8_wrongPairs 2 = .ok (.iload_n 2, 1) := by decide +kernel
theorem dX8_wrongPairs_3 : decode cX8_wrongPairs 3 = .ok (.iload_n 3, 1) := by decide +kernel
theorem dX8_wrongPairs_4 : decode cX8_wrongPairs 4 = .ok (.iconst 2, 1) := by decide +kernel
theorem dX8_wrongPairs_5 : decode cX8_wrongPairs 5 = .ok (.iload 4, 2) := by decide +kernel
theorem dX8_wrongPairs_7 : decode cX8_wrongPairs 7 = .ok (.imul, 1) := by decide +kernel
theorem dX8_wrongPairs_8 : decode cX8_wrongPairs 8 = .ok (.invokevirtual 179, 3) := by decide +kernel
theorem dX8_wrongPairs_11 : decode cX8_wrongPairs 11 = .ok (.istore 5, 2) := by decide +kernel
theorem dX8_wrongPairs_13 : decode cX8_wrongPairs 13 = .ok (.iconst 1, 1) := by decide +kernel
theorem dX8_wrongPairs_14 : decode cX8_wrongPairs 14 = .ok (.istore 6, 2) := by decide +kernel
theorem dX8_wrongPairs_16 : decode cX8_wrongPairs 16 = .ok (.iconst 0, 1) := by decide +kernel
theorem dX8_wrongPairs_17 : decode cX8_wrongPairs 17 = .ok (.istore 7, 2) := by decide +kernel
theorem dX8_wrongPairs_19 : decode cX8_wrongPairs 19 = .ok (.iload 7, 2) := by decide +kernel
theorem dX8_wrongPairs_21 : decode cX8_wrongPairs 21 = .ok (.iload 4, 2) := by decide +kernel
theorem dX8_wrongPairs_23 : decode cX8_wrongPairs 23 = .ok (.if_icmp .ge 99, 3) := by decide +kernel
theorem dX8_wrongPairs_26 : decode cX8_wrongPairs 26 = .ok (.iload 5, 2) := by decide +kernel
theorem dX8_wrongPairs_28 : decode cX8_wrongPairs 28 = .ok (.ifCond .ne 94, 3) := by decide +kernel
theorem dX8_wrongPairs_31 : decode cX8_wrongPairs 31 = .ok (.aload_n 0, 1) := by decide +kernel
theorem dX8_wrongPairs_32 : decode cX8_wrongPairs 32 = .ok (.getfield 16, 3) := by decide +kernel
theorem dX8_wrongPairs_35 : decode cX8_wrongPairs 35 = .ok (.bipush 24, 2) := by decide +kernel
theorem dX8_wrongPairs_37 : decode cX8_wrongPairs 37 = .ok (.iload_n 1, 1) := by decide +kernel
theorem dX8_wrongPairs_38 : decode cX8_wrongPairs 38 = .ok (.imul, 1) := by decide +kernel
theorem dX8_wrongPairs_39 : decode cX8_wrongPairs 39 = .ok (.iload_n 3, 1) := by decide +kernel
theorem dX8_wrongPairs_40 : decode cX8_wrongPairs 40 = .ok (.iadd, 1) := by decide +kernel
theorem dX8_wrongPairs_41 : decode cX8_wrongPairs 41 = .ok (.iconst 2, 1) := by decide +kernel
theorem dX8_wrongPairs_42 : decode cX8_wrongPairs 42 = .ok (.iload 7, 2) := by decide +kernel
theorem dX8_wrongPairs_44 : decode cX8_wrongPairs 44 = .ok (.imul, 1) := by decide +kernel
theorem dX8_wrongPairs_45 : decode cX8_wrongPairs 45 = .ok (.iadd, 1) := by decide +kernel
theorem dX8_wrongPairs_46 : decode cX8_wrongPairs 46 = .ok (.laload, 1) := by decide +kernel
theorem dX8_wrongPairs_47 : decode cX8_wrongPairs 47 = .ok (.lstore 8, 2) := by decide +kernel
theorem dX8_wrongPairs_49 : decode cX8_wrongPairs 49 = .ok (.aload_n 0, 1) := by decide +kernel
theorem dX8_wrongPairs_50 : decode cX8_wrongPairs 50 = .ok (.getfield 16, 3) := by decide +kernel
theorem dX8_wrongPairs_53 : decode cX8_wrongPairs 53 = .ok (.bipush 24, 2) := by decide +kernel
theorem dX8_wrongPairs_55 : decode cX8_wrongPairs 55 = .ok (.iload_n 1, 1) := by decide +kernel
theorem dX8_wrongPairs_56 : decode cX8_wrongPairs 56 = .ok (.imul, 1) := by decide +kernel
theorem dX8_wrongPairs_57 : decode cX8_wrongPairs 57 = .ok (.iload_n 3, 1) := by decide +kernel
theorem dX8_wrongPairs_58 : decode cX8_wrongPairs 58 = .ok (.iadd, 1) := by decide +kernel
theorem dX8_wrongPairs_59 : decode cX8_wrongPairs 59 = .ok (.iconst 2, 1) := by decide +kernel
theorem dX8_wrongPairs_60 : decode cX8_wrongPairs 60 = .ok (.iload 7, 2) := by decide +kernel
theorem dX8_wrongPairs_62 : decode cX8_wrongPairs 62 = .ok (.imul, 1) := by decide +kernel
theorem dX8_wrongPairs_63 : decode cX8_wrongPairs 63 = .ok (.iadd, 1) := by decide +kernel
theorem dX8_wrongPairs_64 : decode cX8_wrongPairs 64 = .ok (.iconst 1, 1) := by decide +kernel
theorem dX8_wrongPairs_65 : decode cX8_wrongPairs 65 = .ok (.iadd, 1) := by decide +kernel
theorem dX8_wrongPairs_66 : decode cX8_wrongPairs 66 = .ok (.laload, 1) := by decide +kernel
theorem dX8_wrongPairs_67 : decode cX8_wrongPairs 67 = .ok (.lstore 10, 2) := by decide +kernel
theorem dX8_wrongPairs_69 : decode cX8_wrongPairs 69 = .ok (.iload 6, 2) := by decide +kernel
theorem dX8_wrongPairs_71 : decode cX8_wrongPairs 71 = .ok (.ifCond .eq 42, 3) := by decide +kernel
theorem dX8_wrongPairs_74 : decode cX8_wrongPairs 74 = .ok (.lload 8, 2) := by decide +kernel
theorem dX8_wrongPairs_76 : decode cX8_wrongPairs 76 = .ok (.lconst 1, 1) := by decide +kernel
theorem dX8_wrongPairs_77 : decode cX8_wrongPairs 77 = .ok (.lcmp, 1) := by decide +kernel
theorem dX8_wrongPairs_78 : decode cX8_wrongPairs 78 = .ok (.ifCond .lt 35, 3) := by decide +kernel
theorem dX8_wrongPairs_81 : decode cX8_wrongPairs 81 = .ok (.lload 8, 2) := by decide +kernel
theorem dX8_wrongPairs_83 : decode cX8_wrongPairs 83 = .ok (.aload_n 0, 1) := by decide +kernel
theorem dX8_wrongPairs_84 : decode cX8_wrongPairs 84 = .ok (.getfield 23, 3) := by decide +kernel
theorem dX8_wrongPairs_87 : decode cX8_wrongPairs 87 = .ok (.invokestatic 48, 3) := by decide +kernel
theorem dX8_wrongPairs_90 : decode cX8_wrongPairs 90 = .ok (.i2l, 1) := by decide +kernel
theorem dX8_wrongPairs_91 : decode cX8_wrongPairs 91 = .ok (.lcmp, 1) := by decide +kernel
theorem dX8_wrongPairs_92 : decode cX8_wrongPairs 92 = .ok (.ifCond .gt 21, 3) := by decide +kernel
theorem dX8_wrongPairs_95 : decode cX8_wrongPairs 95 = .ok (.lload 10, 2) := by decide +kernel
theorem dX8_wrongPairs_97 : decode cX8_wrongPairs 97 = .ok (.lconst 0, 1) := by decide +kernel
theorem dX8_wrongPairs_98 : decode cX8_wrongPairs 98 = .ok (.lcmp, 1) := by decide +kernel
theorem dX8_wrongPairs_99 : decode cX8_wrongPairs 99 = .ok (.ifCond .lt 14, 3) := by decide +kernel
theorem dX8_wrongPairs_102 : decode cX8_wrongPairs 102 = .ok (.lload 10, 2) := by decide +kernel
theorem dX8_wrongPairs_104 : decode cX8_wrongPairs 104 = .ok (.lconst 1, 1) := by decide +kernel
theorem dX8_wrongPairs_105 : decode cX8_wrongPairs 105 = .ok (.lcmp, 1) := by decide +kernel
theorem dX8_wrongPairs_106 : decode cX8_wrongPairs 106 = .ok (.ifCond .gt 7, 3) := by decide +kernel
theorem dX8_wrongPairs_109 : decode cX8_wrongPairs 109 = .ok (.iconst 1, 1) := by decide +kernel
theorem dX8_wrongPairs_110 : decode cX8_wrongPairs 110 = .ok (.goto 4, 3) := by decide +kernel
theorem dX8_wrongPairs_113 : decode cX8_wrongPairs 113 = .ok (.iconst 0, 1) := by decide +kernel
theorem dX8_wrongPairs_114 : decode cX8_wrongPairs 114 = .ok (.istore 6, 2) := by decide +kernel
theorem dX8_wrongPairs_116 : decode cX8_wrongPairs 116 = .ok (.iinc 7 1, 3) := by decide +kernel
theorem dX8_wrongPairs_119 : decode cX8_wrongPairs 119 = .ok (.goto (-100), 3) := by decide +kernel
theorem dX8_wrongPairs_122 : decode cX8_wrongPairs 122 = .ok (.iload 5, 2) := by decide +kernel
theorem dX8_wrongPairs_124 : decode cX8_wrongPairs 124 = .ok (.ifCond .eq 8, 3) := by decide +kernel
theorem dX8_wrongPairs_127 : decode cX8_wrongPairs 127 = .ok (.iload 5, 2) := by decide +kernel
theorem dX8_wrongPairs_129 : decode cX8_wrongPairs 129 = .ok (.goto 14, 3) := by decide +kernel
theorem dX8_wrongPairs_132 : decode cX8_wrongPairs 132 = .ok (.iload 6, 2) := by decide +kernel
theorem dX8_wrongPairs_134 : decode cX8_wrongPairs 134 = .ok (.ifCond .eq 7, 3) := by decide +kernel
theorem dX8_wrongPairs_137 : decode cX8_wrongPairs 137 = .ok (.iconst 0, 1) := by decide +kernel
theorem dX8_wrongPairs_138 : decode cX8_wrongPairs 138 = .ok (.goto 5, 3) := by decide +kernel
theorem dX8_wrongPairs_141 : decode cX8_wrongPairs 141 = .ok (.bipush (-2), 2) := by decide +kernel
theorem dX8_wrongPairs_143 : decode cX8_wrongPairs 143 = .ok (.ireturn, 1) := by decide +kernel
set_option maxRecDepth 20000 in
theorem ggX8_lies_X8_noticesIn : GoodIn wsX8_lies wsX8_noticesIn := goodIn_r _ [5, 6, 7, 4, 8, 9, 10, 11, 12, 13, 14] (by decide +kernel) (by decide +kernel)
set_option maxRecDepth 20000 in
theorem gX8_lies_X8_noticesIn : GoodIn wsX8_lies (va_wsS RX8 81 yX8_noticesIn wsX8_noticesIn) := goodIn_app (goodIn_of _ (by decide +kernel)) ggX8_lies_X8_noticesIn
theorem dX8_lies_0 : decode cX8_lies 0 = .ok (.iconst 0, 1) := by decide +kernel
theorem dX8_lies_1 : decode cX8_lies 1 = .ok (.istore 7, 2) := by decide +kernel
theorem dX8_lies_3 : decode cX8_lies 3 = .ok (.iconst 0, 1) := by decide +kernel
theorem dX8_lies_4 : decode cX8_lies 4 = .ok (.istore 8, 2) := by decide +kernel
theorem dX8_lies_6 : decode cX8_lies 6 = .ok (.iload 8, 2) := by decide +kernel
theorem dX8_lies_8 : decode cX8_lies 8 = .ok (.iload 5, 2) := by decide +kernel
theorem dX8_lies_10 : decode cX8_lies 10 = .ok (.if_icmp .ge 80, 3) := by decide +kernel
theorem dX8_lies_13 : decode cX8_lies 13 = .ok (.aload_n 0, 1) := by decide +kernel
theorem dX8_lies_14 : decode cX8_lies 14 = .ok (.getfield 16, 3) := by decide +kernel
theorem dX8_lies_17 : decode cX8_lies 17 = .ok (.bipush 24, 2) := by decide +kernel
theorem dX8_lies_19 : decode cX8_lies 19 = .ok (.iload_n 3, 1) := by decide +kernel
theorem dX8_lies_20 : decode cX8_lies 20 = .ok (.imul, 1) := by decide +kernel
theorem dX8_lies_21 : decode cX8_lies 21 = .ok (.iload 4, 2) := by decide +kernel
theorem dX8_lies_23 : decode cX8_lies 23 = .ok (.iadd, 1) := by decide +kernel
theorem dX8_lies_24 : decode cX8_lies 24 = .ok (.iconst 2, 1) := by decide +kernel
theorem dX8_lies_25 : decode cX8_lies 25 = .ok (.iload 8, 2) := by decide +kernel
theorem dX8_lies_27 : decode cX8_lies 27 = .ok (.imul, 1) := by decide +kernel
theorem dX8_lies_28 : decode cX8_lies 28 = .ok (.iadd, 1) := by decide +kernel
theorem dX8_lies_29 : decode cX8_lies 29 = .ok (.laload, 1) := by decide +kernel
theorem dX8_lies_30 : decode cX8_lies 30 = .ok (.l2i, 1) := by decide +kernel
theorem dX8_lies_31 : decode cX8_lies 31 = .ok (.istore 9, 2) := by decide +kernel
theorem dX8_lies_33 : decode cX8_lies 33 = .ok (.iload 7, 2) := by decide +kernel
theorem dX8_lies_35 : decode cX8_lies 35 = .ok (.aload_n 1, 1) := by decide +kernel
theorem dX8_lies_36 : decode cX8_lies 36 = .ok (.iload_n 2, 1) := by decide +kernel
theorem dX8_lies_37 : decode cX8_lies 37 = .ok (.iload 9, 2) := by decide +kernel
theorem dX8_lies_39 : decode cX8_lies 39 = .ok (.iload 6, 2) := by decide +kernel
theorem dX8_lies_41 : decode cX8_lies 41 = .ok (.invokestatic 81, 3) := by decide +kernel
theorem dX8_lies_44 : decode cX8_lies 44 = .ok (.aload_n 0, 1) := by decide +kernel
theorem dX8_lies_45 : decode cX8_lies 45 = .ok (.getfield 16, 3) := by decide +kernel
theorem dX8_lies_48 : decode cX8_lies 48 = .ok (.bipush 24, 2) := by decide +kernel
theorem dX8_lies_50 : decode cX8_lies 50 = .ok (.iload_n 3, 1) := by decide +kernel
theorem dX8_lies_51 : decode cX8_lies 51 = .ok (.imul, 1) := by decide +kernel
theorem dX8_lies_52 : decode cX8_lies 52 = .ok (.iload 4, 2) := by decide +kernel
theorem dX8_lies_54 : decode cX8_lies 54 = .ok (.iadd, 1) := by decide +kernel
theorem dX8_lies_55 : decode cX8_lies 55 = .ok (.iconst 2, 1) := by decide +kernel
theorem dX8_lies_56 : decode cX8_lies 56 = .ok (.iload 8, 2) := by decide +kernel
theorem dX8_lies_58 : decode cX8_lies 58 = .ok (.imul, 1) := by decide +kernel
theorem dX8_lies_59 : decode cX8_lies 59 = .ok (.iadd, 1) := by decide +kernel
theorem dX8_lies_60 : decode cX8_lies 60 = .ok (.iconst 1, 1) := by decide +kernel
theorem dX8_lies_61 : decode cX8_lies 61 = .ok (.iadd, 1) := by decide +kernel
theorem dX8_lies_62 : decode cX8_lies 62 = .ok (.laload, 1) := by decide +kernel
theorem dX8_lies_63 : decode cX8_lies 63 = .ok (.lconst 1, 1) := by decide +kernel
theorem dX8_lies_64 : decode cX8_lies 64 = .ok (.lcmp, 1) := by decide +kernel
theorem dX8_lies_65 : decode cX8_lies 65 = .ok (.ifCond .ne 7, 3) := by decide +kernel
theorem dX8_lies_68 : decode cX8_lies 68 = .ok (.iconst 1, 1) := by decide +kernel
theorem dX8_lies_69 : decode cX8_lies 69 = .ok (.goto 4, 3) := by decide +kernel
theorem dX8_lies_72 : decode cX8_lies 72 = .ok (.iconst 0, 1) := by decide +kernel
theorem dX8_lies_73 : decode cX8_lies 73 = .ok (.if_icmp .ne 7, 3) := by decide +kernel
theorem dX8_lies_76 : decode cX8_lies 76 = .ok (.iconst 0, 1) := by decide +kernel
theorem dX8_lies_77 : decode cX8_lies 77 = .ok (.goto 4, 3) := by decide +kernel
theorem dX8_lies_80 : decode cX8_lies 80 = .ok (.iconst 1, 1) := by decide +kernel
theorem dX8_lies_81 : decode cX8_lies 81 = .ok (.iadd, 1) := by decide +kernel
theorem dX8_lies_82 : decode cX8_lies 82 = .ok (.istore 7, 2) := by decide +kernel
theorem dX8_lies_84 : decode cX8_lies 84 = .ok (.iinc 8 1, 3) := by decide +kernel
theorem dX8_lies_87 : decode cX8_lies 87 = .ok (.goto (-81), 3) := by decide +kernel
theorem dX8_lies_90 : decode cX8_lies 90 = .ok (.iload 7, 2) := by decide +kernel
theorem dX8_lies_92 : decode cX8_lies 92 = .ok (.ireturn, 1) := by decide +kernel
set_option maxRecDepth 20000 in
theorem ggX8_fitBy_X8_lies : GoodIn wsX8_fitBy wsX8_lies := goodIn_r _ [6, 7, 8, 9, 5, 10, 11, 12, 13, 14, 15, 16, 17, 18, 19, 20, 21, 22, 23, 24, 25, 26, 27, 28, 29, 30, 31, 32, 33, 34, 35, 36, 37] (by decide +kernel) (by decide +kernel)
set_option maxRecDepth 20000 in
theorem gX8_fitBy_X8_lies : GoodIn wsX8_fitBy (wsV RX8 183 RX8 yX8_lies wsX8_lies) := goodIn_app (goodIn_of _ (by decide +kernel)) ggX8_fitBy_X8_lies
theorem dX8_fitBy_0 : decode cX8_fitBy 0 = .ok (.iconst 0, 1) := by decide +kernel
theorem dX8_fitBy_1 : decode cX8_fitBy 1 = .ok (.istore 7, 2) := by decide +kernel
theorem dX8_fitBy_3 : decode cX8_fitBy 3 = .ok (.iconst 0, 1) := by decide +kernel
theorem dX8_fitBy_4 : decode cX8_fitBy 4 = .ok (.istore 8, 2) := by decide +kernel
theorem dX8_fitBy_6 : decode cX8_fitBy 6 = .ok (.iload 8, 2) := by decide +kernel
theorem dX8_fitBy_8 : decode cX8_fitBy 8 = .ok (.aload_n 0, 1) := by decide +kernel
theorem dX8_fitBy_9 : decode cX8_fitBy 9 = .ok (.getfield 23, 3) := by decide +kernel
theorem dX8_fitBy_12 : decode cX8_fitBy 12 = .ok (.iconst 4, 1) := by decide +kernel
theorem dX8_fitBy_13 : decode cX8_fitBy 13 = .ok (.iaload, 1) := by decide +kernel
theorem dX8_fitBy_14 : decode cX8_fitBy 14 = .ok (.if_icmp .ge 40, 3) := by decide +kernel
theorem dX8_fitBy_17 : decode cX8_fitBy 17 = .ok (.iload 7, 2) := by decide +kernel
theorem dX8_fitBy_19 : decode cX8_fitBy 19 = .ok (.aload_n 0, 1) := by decide +kernel
theorem dX8_fitBy_20 : decode cX8_fitBy 20 = .ok (.aload_n 1, 1) := by decide +kernel
theorem dX8_fitBy_21 : decode cX8_fitBy 21 = .ok (.iload_n 2, 1) := by decide +kernel
theorem dX8_fitBy_22 : decode cX8_fitBy 22 = .ok (.iload_n 3, 1) := by decide +kernel
theorem dX8_fitBy_23 : decode cX8_fitBy 23 = .ok (.iload 4, 2) := by decide +kernel
theorem dX8_fitBy_25 : decode cX8_fitBy 25 = .ok (.iload 5, 2) := by decide +kernel
theorem dX8_fitBy_27 : decode cX8_fitBy 27 = .ok (.iload 8, 2) := by decide +kernel
theorem dX8_fitBy_29 : decode cX8_fitBy 29 = .ok (.invokevirtual 183, 3) := by decide +kernel
theorem dX8_fitBy_32 : decode cX8_fitBy 32 = .ok (.iload 6, 2) := by decide +kernel
theorem dX8_fitBy_34 : decode cX8_fitBy 34 = .ok (.if_icmp .gt 10, 3) := by decide +kernel
theorem dX8_fitBy_37 : decode cX8_fitBy 37 = .ok (.iconst 1, 1) := by decide +kernel
theorem dX8_fitBy_38 : decode cX8_fitBy 38 = .ok (.iload 8, 2) := by decide +kernel
theorem dX8_fitBy_40 : decode cX8_fitBy 40 = .ok (.ishl, 1) := by decide +kernel
theorem dX8_fitBy_41 : decode cX8_fitBy 41 = .ok (.goto 4, 3) := by decide +kernel
theorem dX8_fitBy_44 : decode cX8_fitBy 44 = .ok (.iconst 0, 1) := by decide +kernel
theorem dX8_fitBy_45 : decode cX8_fitBy 45 = .ok (.ior, 1) := by decide +kernel
theorem dX8_fitBy_46 : decode cX8_fitBy 46 = .ok (.istore 7, 2) := by decide +kernel
theorem dX8_fitBy_48 : decode cX8_fitBy 48 = .ok (.iinc 8 1, 3) := by decide +kernel
theorem dX8_fitBy_51 : decode cX8_fitBy 51 = .ok (.goto (-45), 3) := by decide +kernel
theorem dX8_fitBy_54 : decode cX8_fitBy 54 = .ok (.iload 7, 2) := by decide +kernel
theorem dX8_fitBy_56 : decode cX8_fitBy 56 = .ok (.ireturn, 1) := by decide +kernel
set_option maxRecDepth 20000 in
theorem ggX8_fits_X8_isTaster : GoodIn wsX8_fits wsX8_isTaster := goodIn_r _ [7, 1, 8, 9, 6, 10, 54, 55, 56, 57, 58, 59, 60, 61, 62, 63, 64, 65, 66, 67, 68, 69, 70, 71] (by decide +kernel) (by decide +kernel)
set_option maxRecDepth 20000 in
theorem gX8_fits_X8_isTaster : GoodIn wsX8_fits (wsV RX8 64 RX8 yX8_isTaster wsX8_isTaster) := goodIn_app (goodIn_of _ (by decide +kernel)) ggX8_fits_X8_isTaster
set_option maxRecDepth 20000 in
theorem ggX8_fits_X8_isSheet : GoodIn wsX8_fits wsX8_isSheet := goodIn_r _ [13, 8, 9, 6, 10] (by decide +kernel) (by decide +kernel)
set_option maxRecDepth 20000 in
theorem gX8_fits_X8_isSheet : GoodIn wsX8_fits (va_wsS RX8 187 yX8_isSheet wsX8_isSheet) := goodIn_app (goodIn_of _ (by decide +kernel)) ggX8_fits_X8_isSheet
set_option maxRecDepth 20000 in
theorem ggX8_fits_X8_in : GoodIn wsX8_fits wsX8_in := goodIn_r _ [10] (by decide +kernel) (by decide +kernel)
set_option maxRecDepth 20000 in
theorem gX8_fits_X8_in : GoodIn wsX8_fits (va_wsS RX8 44 yX8_in wsX8_in) := goodIn_app (goodIn_of _ (by decide +kernel)) ggX8_fits_X8_in
set_option maxRecDepth 20000 in
theorem ggX8_fits_X8_wrongPairs : GoodIn wsX8_fits wsX8_wrongPairs := goodIn_r _ [17, 18, 1, 19, 20, 21, 6, 22, 23, 24, 25, 26, 27, 28, 29, 30, 54, 55, 56, 57, 58, 59, 60, 61, 62, 63, 64, 65, 66, 67, 68, 69, 70, 71] (by decide +kernel) (by decide +kernel)
set_option maxRecDepth 20000 in
theorem gX8_fits_X8_wrongPairs : GoodIn wsX8_fits (wsV RX8 190 RX8 yX8_wrongPairs wsX8_wrongPairs) := goodIn_app (goodIn_of _ (by decide +kernel)) ggX8_fits_X8_wrongPairs
set_option maxRecDepth 20000 in
theorem ggX8_fits_X8_fitBy : GoodIn wsX8_fits wsX8_fitBy := goodIn_r _ [34, 1, 35, 36, 37, 6, 38, 18, 39, 40, 41, 42, 43, 44, 45, 46, 47, 48, 49, 50, 54, 55, 56, 57, 58, 59, 60, 61, 62, 63, 64, 65, 66, 67, 68, 69, 70, 71] (by decide +kernel) (by decide +kernel)
set_option maxRecDepth 20000 in
theorem gX8_fits_X8_fitBy : GoodIn wsX8_fits (wsV RX8 193 RX8 yX8_fitBy wsX8_fitBy) := goodIn_app (goodIn_of _ (by decide +kernel)) ggX8_fits_X8_fitBy
set_option maxRecDepth 20000 in
theorem ggX8_fits_X8_bring : GoodIn wsX8_fits wsX8_bring := goodIn_r _ [53] (by decide +kernel) (by decide +kernel)
set_option maxRecDepth 20000 in
theorem gX8_fits_X8_bring : GoodIn wsX8_fits (va_wsS RX8 118 yX8_bring wsX8_bring) := goodIn_app (goodIn_of _ (by decide +kernel)) ggX8_fits_X8_bring
theorem dX8_fits_0 : decode cX8_fits 0 = .ok (.aload_n 0, 1) := by decide +kernel
theorem dX8_fits_1 : decode cX8_fits 1 = .ok (.iload_n 1, 1) := by decide +kernel
theorem dX8_fits_2 : decode cX8_fits 2 = .ok (.invokevirtual 64, 3) := by decide +kernel
theorem dX8_fits_5 : decode cX8_fits 5 = .ok (.ifCond .eq 40, 3) := by decide +kernel
theorem dX8_fits_8 : decode cX8_fits 8 = .ok (.iload_n 2, 1) := by decide +kernel
theorem dX8_fits_9 : decode cX8_fits 9 = .ok (.invokestatic 187, 3) := by decide +kernel
theorem dX8_fits_12 : decode cX8_fits 12 = .ok (.ifCond .eq 33, 3) := by decide +kernel
theorem dX8_fits_15 : decode cX8_fits 15 = .ok (.iload_n 3, 1) := by decide +kernel
theorem dX8_fits_16 : decode cX8_fits 16 = .ok (.iconst 0, 1) := by decide +kernel
theorem dX8_fits_17 : decode cX8_fits 17 = .ok (.iconst 3, 1) := by decide +kernel
theorem dX8_fits_18 : decode cX8_fits 18 = .ok (.invokestatic 44, 3) := by decide +kernel
theorem dX8_fits_21 : decode cX8_fits 21 = .ok (.ifCond .eq 24, 3) := by decide +kernel
theorem dX8_fits_24 : decode cX8_fits 24 = .ok (.iload 5, 2) := by decide +kernel
theorem dX8_fits_26 : decode cX8_fits 26 = .ok (.iconst 1, 1) := by decide +kernel
theorem dX8_fits_27 : decode cX8_fits 27 = .ok (.bipush 6, 2) := by decide +kernel
theorem dX8_fits_29 : decode cX8_fits 29 = .ok (.invokestatic 44, 3) := by decide +kernel
theorem dX8_fits_32 : decode cX8_fits 32 = .ok (.ifCond .eq 13, 3) := by decide +kernel
theorem dX8_fits_35 : decode cX8_fits 35 = .ok (.iload 6, 2) := by decide +kernel
theorem dX8_fits_37 : decode cX8_fits 37 = .ok (.iconst 0, 1) := by decide +kernel
theorem dX8_fits_38 : decode cX8_fits 38 = .ok (.iconst 3, 1) := by decide +kernel
theorem dX8_fits_39 : decode cX8_fits 39 = .ok (.invokestatic 44, 3) := by decide +kernel
theorem dX8_fits_42 : decode cX8_fits 42 = .ok (.ifCond .ne 5, 3) := by decide +kernel
theorem dX8_fits_45 : decode cX8_fits 45 = .ok (.iconst (-1), 1) := by decide +kernel
theorem dX8_fits_46 : decode cX8_fits 46 = .ok (.ireturn, 1) := by decide +kernel
theorem dX8_fits_47 : decode cX8_fits 47 = .ok (.aload_n 0, 1) := by decide +kernel
theorem dX8_fits_48 : decode cX8_fits 48 = .ok (.iload_n 2, 1) := by decide +kernel
theorem dX8_fits_49 : decode cX8_fits 49 = .ok (.iload_n 3, 1) := by decide +kernel
theorem dX8_fits_50 : decode cX8_fits 50 = .ok (.iload 4, 2) := by decide +kernel
theorem dX8_fits_52 : decode cX8_fits 52 = .ok (.iload 5, 2) := by decide +kernel
theorem dX8_fits_54 : decode cX8_fits 54 = .ok (.invokevirtual 190, 3) := by decide +kernel
theorem dX8_fits_57 : decode cX8_fits 57 = .ok (.istore 7, 2) := by decide +kernel
theorem dX8_fits_59 : decode cX8_fits 59 = .ok (.iload 7, 2) := by decide +kernel
theorem dX8_fits_61 : decode cX8_fits 61 = .ok (.ifCond .eq 6, 3) := by decide +kernel
theorem dX8_fits_64 : decode cX8_fits 64 = .ok (.iload 7, 2) := by decide +kernel
theorem dX8_fits_66 : decode cX8_fits 66 = .ok (.ireturn, 1) := by decide +kernel
theorem dX8_fits_67 : decode cX8_fits 67 = .ok (.iload 6, 2) := by decide +kernel
theorem dX8_fits_69 : decode cX8_fits 69 = .ok (.iconst 2, 1) := by decide +kernel
theorem dX8_fits_70 : decode cX8_fits 70 = .ok (.if_icmp .ge 20, 3) := by decide +kernel
theorem dX8_fits_73 : decode cX8_fits 73 = .ok (.aload_n 0, 1) := by decide +kernel
theorem dX8_fits_74 : decode cX8_fits 74 = .ok (.aload_n 0, 1) := by decide +kernel
theorem dX8_fits_75 : decode cX8_fits 75 = .ok (.getfield 23, 3) := by decide +kernel
theorem dX8_fits_78 : decode cX8_fits 78 = .ok (.iload_n 1, 1) := by decide +kernel
theorem dX8_fits_79 : decode cX8_fits 79 = .ok (.iload_n 2, 1) := by decide +kernel
theorem dX8_fits_80 : decode cX8_fits 80 = .ok (.iload 4, 2) := by decide +kernel
theorem dX8_fits_82 : decode cX8_fits 82 = .ok (.iload 5, 2) := by decide +kernel
theorem dX8_fits_84 : decode cX8_fits 84 = .ok (.iload 6, 2) := by decide +kernel
theorem dX8_fits_86 : decode cX8_fits 86 = .ok (.invokevirtual 193, 3) := by decide +kernel
theorem dX8_fits_89 : decode cX8_fits 89 = .ok (.ireturn, 1) := by decide +kernel
theorem dX8_fits_90 : decode cX8_fits 90 = .ok (.iconst 0, 1) := by decide +kernel
theorem dX8_fits_91 : decode cX8_fits 91 = .ok (.istore 8, 2) := by decide +kernel
theorem dX8_fits_93 : decode cX8_fits 93 = .ok (.iload 6, 2) := by decide +kernel
theorem dX8_fits_95 : decode cX8_fits 95 = .ok (.iconst 2, 1) := by decide +kernel
theorem dX8_fits_96 : decode cX8_fits 96 = .ok (.isub, 1) := by decide +kernel
theorem dX8_fits_97 : decode cX8_fits 97 = .ok (.istore 9, 2) := by decide +kernel
theorem dX8_fits_99 : decode cX8_fits 99 = .ok (.iload 9, 2) := by decide +kernel
theorem dX8_fits_101 : decode cX8_fits 101 = .ok (.iload 6, 2) := by decide +kernel
theorem dX8_fits_103 : decode cX8_fits 103 = .ok (.iconst 2, 1) := by decide +kernel
theorem dX8_fits_104 : decode cX8_fits 104 = .ok (.if_icmp .ne 7, 3) := by decide +kernel
theorem dX8_fits_107 : decode cX8_fits 107 = .ok (.iconst 4, 1) := by decide +kernel
theorem dX8_fits_108 : decode cX8_fits 108 = .ok (.goto 5, 3) := by decide +kernel
theorem dX8_fits_111 : decode cX8_fits 111 = .ok (.bipush 9, 2) := by decide +kernel
theorem dX8_fits_113 : decode cX8_fits 113 = .ok (.if_icmp .gt 77, 3) := by decide +kernel
theorem dX8_fits_116 : decode cX8_fits 116 = .ok (.aload_n 0, 1) := by decide +kernel
theorem dX8_fits_117 : decode cX8_fits 117 = .ok (.getfield 23, 3) := by decide +kernel
theorem dX8_fits_120 : decode cX8_fits 120 = .ok (.iconst 0, 1) := by decide +kernel
theorem dX8_fits_121 : decode cX8_fits 121 = .ok (.aload_n 0, 1) := by decide +kernel
theorem dX8_fits_122 : decode cX8_fits 122 = .ok (.getfield 26, 3) := by decide +kernel
theorem dX8_fits_125 : decode cX8_fits 125 = .ok (.iconst 0, 1) := by decide +kernel
theorem dX8_fits_126 : decode cX8_fits 126 = .ok (.bipush 55, 2) := by decide +kernel
theorem dX8_fits_128 : decode cX8_fits 128 = .ok (.invokestatic 118, 3) := by decide +kernel
theorem dX8_fits_131 : decode cX8_fits 131 = .ok (.aload_n 0, 1) := by decide +kernel
theorem dX8_fits_132 : decode cX8_fits 132 = .ok (.getfield 26, 3) := by decide +kernel
theorem dX8_fits_135 : decode cX8_fits 135 = .ok (.iload 6, 2) := by decide +kernel
theorem dX8_fits_137 : decode cX8_fits 137 = .ok (.iconst 2, 1) := by decide +kernel
theorem dX8_fits_138 : decode cX8_fits 138 = .ok (.if_icmp .ne 8, 3) := by decide +kernel
theorem dX8_fits_141 : decode cX8_fits 141 = .ok (.bipush 14, 2) := by decide +kernel
theorem dX8_fits_143 : decode cX8_fits 143 = .ok (.goto 5, 3) := by decide +kernel
theorem dX8_fits_146 : decode cX8_fits 146 = .ok (.bipush 18, 2) := by decide +kernel
theorem dX8_fits_148 : decode cX8_fits 148 = .ok (.iload_n 1, 1) := by decide +kernel
theorem dX8_fits_149 : decode cX8_fits 149 = .ok (.iadd, 1) := by decide +kernel
theorem dX8_fits_150 : decode cX8_fits 150 = .ok (.iload 9, 2) := by decide +kernel
theorem dX8_fits_152 : decode cX8_fits 152 = .ok (.iastore, 1) := by decide +kernel
theorem dX8_fits_153 : decode cX8_fits 153 = .ok (.iload 8, 2) := by decide +kernel
theorem dX8_fits_155 : decode cX8_fits 155 = .ok (.aload_n 0, 1) := by decide +kernel
theorem dX8_fits_156 : decode cX8_fits 156 = .ok (.aload_n 0, 1) := by decide +kernel
theorem dX8_fits_157 : decode cX8_fits 157 = .ok (.getfield 26, 3) := by decide +kernel
theorem dX8_fits_160 : decode cX8_fits 160 = .ok (.iload_n 1, 1) := by decide +kernel
theorem dX8_fits_161 : decode cX8_fits 161 = .ok (.iload_n 2, 1) := by decide +kernel
theorem dX8_fits_162 : decode cX8_fits 162 = .ok (.iload 4, 2) := by decide +kernel
theorem dX8_fits_164 : decode cX8_fits 164 = .ok (.iload 5, 2) := by decide +kernel
theorem dX8_fits_166 : decode cX8_fits 166 = .ok (.iconst 0, 1) := by decide +kernel
theorem dX8_fits_167 : decode cX8_fits 167 = .ok (.invokevirtual 193, 3) := by decide +kernel
theorem dX8_fits_170 : decode cX8_fits 170 = .ok (.ifCond .eq 10, 3) := by decide +kernel
theorem dX8_fits_173 : decode cX8_fits 173 = .ok (.iconst 1, 1) := by decide +kernel
theorem dX8_fits_174 : decode cX8_fits 174 = .ok (.iload 9, 2) := by decide +kernel
theorem dX8_fits_176 : decode cX8_fits 176 = .ok (.ishl, 1) := by decide +kernel
theorem dX8_fits_177 : decode cX8_fits 177 = .ok (.goto 4, 3) := by decide +kernel
theorem dX8_fits_180 : decode cX8_fits 180 = .ok (.iconst 0, 1) := by decide +kernel
theorem dX8_fits_181 : decode cX8_fits 181 = .ok (.ior, 1) := by decide +kernel
theorem dX8_fits_182 : decode cX8_fits 182 = .ok (.istore 8, 2) := by decide +kernel
theorem dX8_fits_184 : decode cX8_fits 184 = .ok (.iinc 9 1, 3) := by decide +kernel
theorem dX8_fits_187 : decode cX8_fits 187 = .ok (.goto (-88), 3) := by decide +kernel
theorem dX8_fits_190 : decode cX8_fits 190 = .ok (.iload 8, 2) := by decide +kernel
theorem dX8_fits_192 : decode cX8_fits 192 = .ok (.ireturn, 1) := by decide +kernel
set_option maxRecDepth 20000 in
theorem ggX8_slips_X8_isCow : GoodIn wsX8_slips wsX8_isCow := goodIn_r _ [7, 2, 8, 9, 6, 10, 54, 55, 56, 57, 58, 59, 60, 61, 62, 63, 64, 65, 66, 67, 68, 69, 70, 71] (by decide +kernel) (by decide +kernel)
set_option maxRecDepth 20000 in
theorem gX8_slips_X8_isCow : GoodIn wsX8_slips (wsV RX8 60 RX8 yX8_isCow wsX8_isCow) := goodIn_app (goodIn_of _ (by decide +kernel)) ggX8_slips_X8_isCow
set_option maxRecDepth 20000 in
theorem ggX8_slips_X8_isTaster : GoodIn wsX8_slips wsX8_isTaster := goodIn_r _ [14, 2, 8, 9, 6, 10, 54, 55, 56, 57, 58, 59, 60, 61, 62, 63, 64, 65, 66, 67, 68, 69, 70, 71] (by decide +kernel) (by decide +kernel)
set_option maxRecDepth 20000 in
theorem gX8_slips_X8_isTaster : GoodIn wsX8_slips (wsV RX8 64 RX8 yX8_isTaster wsX8_isTaster) := goodIn_app (goodIn_of _ (by decide +kernel)) ggX8_slips_X8_isTaster
set_option maxRecDepth 20000 in
theorem ggX8_slips_X8_in : GoodIn wsX8_slips wsX8_in := goodIn_r _ [10] (by decide +kernel) (by decide +kernel)
set_option maxRecDepth 20000 in
theorem gX8_slips_X8_in : GoodIn wsX8_slips (va_wsS RX8 44 yX8_in wsX8_in) := goodIn_app (goodIn_of _ (by decide +kernel)) ggX8_slips_X8_in
set_option maxRecDepth 20000 in
theorem ggX8_slips_X8_isSheet : GoodIn wsX8_slips wsX8_isSheet := goodIn_r _ [17, 8, 9, 6, 10] (by decide +kernel) (by decide +kernel)
set_option maxRecDepth 20000 in
theorem gX8_slips_X8_isSheet : GoodIn wsX8_slips (va_wsS RX8 187 yX8_isSheet wsX8_isSheet) := goodIn_app (goodIn_of _ (by decide +kernel)) ggX8_slips_X8_isSheet
set_option maxRecDepth 20000 in
theorem ggX8_slips_X8_wrongPairs : GoodIn wsX8_slips wsX8_wrongPairs := goodIn_r _ [21, 22, 2, 23, 24, 25, 6, 26, 27, 28, 29, 30, 31, 32, 33, 34, 54, 55, 56, 57, 58, 59, 60, 61, 62, 63, 64, 65, 66, 67, 68, 69, 70, 71] (by decide +kernel) (by decide +kernel)
set_option maxRecDepth 20000 in
theorem gX8_slips_X8_wrongPairs : GoodIn wsX8_slips (wsV RX8 190 RX8 yX8_wrongPairs wsX8_wrongPairs) := goodIn_app (goodIn_of _ (by decide +kernel)) ggX8_slips_X8_wrongPairs
set_option maxRecDepth 20000 in
theorem ggX8_slips_X8_lies : GoodIn wsX8_slips wsX8_lies := goodIn_r _ [38, 22, 39, 40, 6, 41, 42, 43, 44, 45, 46, 47, 48, 49, 50, 54, 55, 56, 57, 58, 59, 60, 61, 62, 63, 64, 65, 66, 67, 68, 69, 70, 71] (by decide +kernel) (by decide +kernel)
set_option maxRecDepth 20000 in
theorem gX8_slips_X8_lies : GoodIn wsX8_slips (wsV RX8 183 RX8 yX8_lies wsX8_lies) := goodIn_app (goodIn_of _ (by decide +kernel)) ggX8_slips_X8_lies
set_option maxRecDepth 20000 in
theorem ggX8_slips_X8_has : GoodIn wsX8_slips wsX8_has := goodIn_r _ [44] (by decide +kernel) (by decide +kernel)
set_option maxRecDepth 20000 in
theorem gX8_slips_X8_has : GoodIn wsX8_slips (va_wsS RX8 67 yX8_has wsX8_has) := goodIn_app (goodIn_of _ (by decide +kernel)) ggX8_slips_X8_has
set_option maxRecDepth 20000 in
theorem ggX8_slips_X8_part : GoodIn wsX8_slips wsX8_part := goodIn_r _ [53] (by decide +kernel) (by decide +kernel)
set_option maxRecDepth 20000 in
theorem gX8_slips_X8_part : GoodIn wsX8_slips (va_wsS RX8 165 yX8_part wsX8_part) := goodIn_app (goodIn_of _ (by decide +kernel)) ggX8_slips_X8_part
theorem dX8_slips_0 : decode cX8_slips 0 = .ok (.aload_n 0, 1) := by decide +kernel
theorem dX8_slips_1 : decode cX8_slips 1 = .ok (.iload_n 1, 1) := by decide +kernel
theorem dX8_slips_2 : decode cX8_slips 2 = .ok (.invokevirtual 60, 3) := by decide +kernel
theorem dX8_slips_5 : decode cX8_slips 5 = .ok (.ifCond .eq 60, 3) := by decide +kernel
theorem dX8_slips_8 : decode cX8_slips 8 = .ok (.aload_n 0, 1) := by decide +kernel
theorem dX8_slips_9 : decode cX8_slips 9 = .ok (.iload_n 2, 1) := by decide +kernel
theorem dX8_slips_10 : decode cX8_slips 10 = .ok (.invokevirtual 64, 3) := by decide +kernel
theorem dX8_slips_13 : decode cX8_slips 13 = .ok (.ifCond .eq 52, 3) := by decide +kernel
theorem dX8_slips_16 : decode cX8_slips 16 = .ok (.iload_n 3, 1) := by decide +kernel
theorem dX8_slips_17 : decode cX8_slips 17 = .ok (.iconst 0, 1) := by decide +kernel
theorem dX8_slips_18 : decode cX8_slips 18 = .ok (.bipush 10, 2) := by decide +kernel
theorem dX8_slips_20 : decode cX8_slips 20 = .ok (.invokestatic 44, 3) := by decide +kernel
theorem dX8_slips_23 : decode cX8_slips 23 = .ok (.ifCond .eq 42, 3) := by decide +kernel
theorem dX8_slips_26 : decode cX8_slips 26 = .ok (.iload 4, 2) := by decide +kernel
theorem dX8_slips_28 : decode cX8_slips 28 = .ok (.invokestatic 187, 3) := by decide +kernel
theorem dX8_slips_31 : decode cX8_slips 31 = .ok (.ifCond .eq 34, 3) := by decide +kernel
theorem dX8_slips_34 : decode cX8_slips 34 = .ok (.iload 5, 2) := by decide +kernel
theorem dX8_slips_36 : decode cX8_slips 36 = .ok (.iconst 0, 1) := by decide +kernel
theorem dX8_slips_37 : decode cX8_slips 37 = .ok (.iconst 3, 1) := by decide +kernel
theorem dX8_slips_38 : decode cX8_slips 38 = .ok (.invokestatic 44, 3) := by decide +kernel
theorem dX8_slips_41 : decode cX8_slips 41 = .ok (.ifCond .eq 24, 3) := by decide +kernel
theorem dX8_slips_44 : decode cX8_slips 44 = .ok (.iload 7, 2) := by decide +kernel
theorem dX8_slips_46 : decode cX8_slips 46 = .ok (.iconst 1, 1) := by decide +kernel
theorem dX8_slips_47 : decode cX8_slips 47 = .ok (.bipush 6, 2) := by decide +kernel
theorem dX8_slips_49 : decode cX8_slips 49 = .ok (.invokestatic 44, 3) := by decide +kernel
theorem dX8_slips_52 : decode cX8_slips 52 = .ok (.ifCond .eq 13, 3) := by decide +kernel
theorem dX8_slips_55 : decode cX8_slips 55 = .ok (.iload 8, 2) := by decide +kernel
theorem dX8_slips_57 : decode cX8_slips 57 = .ok (.iconst 0, 1) := by decide +kernel
theorem dX8_slips_58 : decode cX8_slips 58 = .ok (.iconst 1, 1) := by decide +kernel
theorem dX8_slips_59 : decode cX8_slips 59 = .ok (.invokestatic 44, 3) := by decide +kernel
theorem dX8_slips_62 : decode cX8_slips 62 = .ok (.ifCond .ne 7, 3) := by decide +kernel
theorem dX8_slips_65 : decode cX8_slips 65 = .ok (.ldc2_w 196, 3) := by decide +kernel
theorem dX8_slips_68 : decode cX8_slips 68 = .ok (.lreturn, 1) := by decide +kernel
theorem dX8_slips_69 : decode cX8_slips 69 = .ok (.aload_n 0, 1) := by decide +kernel
theorem dX8_slips_70 : decode cX8_slips 70 = .ok (.iload 4, 2) := by decide +kernel
theorem dX8_slips_72 : decode cX8_slips 72 = .ok (.iload 5, 2) := by decide +kernel
theorem dX8_slips_74 : decode cX8_slips 74 = .ok (.iload 6, 2) := by decide +kernel
theorem dX8_slips_76 : decode cX8_slips 76 = .ok (.iload 7, 2) := by decide +kernel
theorem dX8_slips_78 : decode cX8_slips 78 = .ok (.invokevirtual 190, 3) := by decide +kernel
theorem dX8_slips_81 : decode cX8_slips 81 = .ok (.istore 9, 2) := by decide +kernel
theorem dX8_slips_83 : decode cX8_slips 83 = .ok (.iload 9, 2) := by decide +kernel
theorem dX8_slips_85 : decode cX8_slips 85 = .ok (.ifCond .eq 7, 3) := by decide +kernel
theorem dX8_slips_88 : decode cX8_slips 88 = .ok (.iload 9, 2) := by decide +kernel
theorem dX8_slips_90 : decode cX8_slips 90 = .ok (.i2l, 1) := by decide +kernel
theorem dX8_slips_91 : decode cX8_slips 91 = .ok (.lreturn, 1) := by decide +kernel
theorem dX8_slips_92 : decode cX8_slips 92 = .ok (.lconst 0, 1) := by decide +kernel
theorem dX8_slips_93 : decode cX8_slips 93 = .ok (.lstore 10, 2) := by decide +kernel
theorem dX8_slips_95 : decode cX8_slips 95 = .ok (.lconst 0, 1) := by decide +kernel
theorem dX8_slips_96 : decode cX8_slips 96 = .ok (.lstore 12, 2) := by decide +kernel
theorem dX8_slips_98 : decode cX8_slips 98 = .ok (.iconst 0, 1) := by decide +kernel
theorem dX8_slips_99 : decode cX8_slips 99 = .ok (.istore 14, 2) := by decide +kernel
theorem dX8_slips_101 : decode cX8_slips 101 = .ok (.iload 14, 2) := by decide +kernel
theorem dX8_slips_103 : decode cX8_slips 103 = .ok (.aload_n 0, 1) := by decide +kernel
theorem dX8_slips_104 : decode cX8_slips 104 = .ok (.getfield 23, 3) := by decide +kernel
theorem dX8_slips_107 : decode cX8_slips 107 = .ok (.iconst 4, 1) := by decide +kernel
theorem dX8_slips_108 : decode cX8_slips 108 = .ok (.iaload, 1) := by decide +kernel
theorem dX8_slips_109 : decode cX8_slips 109 = .ok (.if_icmp .ge 118, 3) := by decide +kernel
theorem dX8_slips_112 : decode cX8_slips 112 = .ok (.aload_n 0, 1) := by decide +kernel
theorem dX8_slips_113 : decode cX8_slips 113 = .ok (.aload_n 0, 1) := by decide +kernel
theorem dX8_slips_114 : decode cX8_slips 114 = .ok (.getfield 23, 3) := by decide +kernel
theorem dX8_slips_117 : decode cX8_slips 117 = .ok (.iload_n 2, 1) := by decide +kernel
theorem dX8_slips_118 : decode cX8_slips 118 = .ok (.iload 4, 2) := by decide +kernel
theorem dX8_slips_120 : decode cX8_slips 120 = .ok (.iload 6, 2) := by decide +kernel
theorem dX8_slips_122 : decode cX8_slips 122 = .ok (.iload 7, 2) := by decide +kernel
theorem dX8_slips_124 : decode cX8_slips 124 = .ok (.iload 14, 2) := by decide +kernel
theorem dX8_slips_126 : decode cX8_slips 126 = .ok (.invokevirtual 183, 3) := by decide +kernel
theorem dX8_slips_129 : decode cX8_slips 129 = .ok (.istore 15, 2) := by decide +kernel
theorem dX8_slips_131 : decode cX8_slips 131 = .ok (.aload_n 0, 1) := by decide +kernel
theorem dX8_slips_132 : decode cX8_slips 132 = .ok (.getfield 23, 3) := by decide +kernel
theorem dX8_slips_135 : decode cX8_slips 135 = .ok (.iconst 2, 1) := by decide +kernel
theorem dX8_slips_136 : decode cX8_slips 136 = .ok (.iaload, 1) := by decide +kernel
theorem dX8_slips_137 : decode cX8_slips 137 = .ok (.iload 14, 2) := by decide +kernel
theorem dX8_slips_139 : decode cX8_slips 139 = .ok (.invokestatic 67, 3) := by decide +kernel
theorem dX8_slips_142 : decode cX8_slips 142 = .ok (.ifCond .eq 16, 3) := by decide +kernel
theorem dX8_slips_145 : decode cX8_slips 145 = .ok (.aload_n 0, 1) := by decide +kernel
theorem dX8_slips_146 : decode cX8_slips 146 = .ok (.getfield 23, 3) := by decide +kernel
theorem dX8_slips_149 : decode cX8_slips 149 = .ok (.iconst 5, 1) := by decide +kernel
theorem dX8_slips_150 : decode cX8_slips 150 = .ok (.iload 14, 2) := by decide +kernel
theorem dX8_slips_152 : decode cX8_slips 152 = .ok (.iadd, 1) := by decide +kernel
theorem dX8_slips_153 : decode cX8_slips 153 = .ok (.iaload, 1) := by decide +kernel
theorem dX8_slips_154 : decode cX8_slips 154 = .ok (.i2l, 1) := by decide +kernel
theorem dX8_slips_155 : decode cX8_slips 155 = .ok (.goto 4, 3) := by decide +kernel
theorem dX8_slips_158 : decode cX8_slips 158 = .ok (.lconst 0, 1) := by decide +kernel
theorem dX8_slips_159 : decode cX8_slips 159 = .ok (.lstore 16, 2) := by decide +kernel
theorem dX8_slips_161 : decode cX8_slips 161 = .ok (.iconst 0, 1) := by decide +kernel
theorem dX8_slips_162 : decode cX8_slips 162 = .ok (.istore 18, 2) := by decide +kernel
theorem dX8_slips_164 : decode cX8_slips 164 = .ok (.iload 18, 2) := by decide +kernel
theorem dX8_slips_166 : decode cX8_slips 166 = .ok (.iload 7, 2) := by decide +kernel
theorem dX8_slips_168 : decode cX8_slips 168 = .ok (.if_icmp .ge 31, 3) := by decide +kernel
theorem dX8_slips_171 : decode cX8_slips 171 = .ok (.lload 16, 2) := by decide +kernel
theorem dX8_slips_173 : decode cX8_slips 173 = .ok (.iload 18, 2) := by decide +kernel
theorem dX8_slips_175 : decode cX8_slips 175 = .ok (.iload 15, 2) := by decide +kernel
theorem dX8_slips_177 : decode cX8_slips 177 = .ok (.if_icmp .ge 8, 3) := by decide +kernel
theorem dX8_slips_180 : decode cX8_slips 180 = .ok (.iload_n 3, 1) := by decide +kernel
theorem dX8_slips_181 : decode cX8_slips 181 = .ok (.i2l, 1) := by decide +kernel
theorem dX8_slips_182 : decode cX8_slips 182 = .ok (.goto 8, 3) := by decide +kernel
theorem dX8_slips_185 : decode cX8_slips 185 = .ok (.bipush 10, 2) := by decide +kernel
theorem dX8_slips_187 : decode cX8_slips 187 = .ok (.iload_n 3, 1) := by decide +kernel
theorem dX8_slips_188 : decode cX8_slips 188 = .ok (.isub, 1) := by decide +kernel
theorem dX8_slips_189 : decode cX8_slips 189 = .ok (.i2l, 1) := by decide +kernel
theorem dX8_slips_190 : decode cX8_slips 190 = .ok (.lmul, 1) := by decide +kernel
theorem dX8_slips_191 : decode cX8_slips 191 = .ok (.lstore 16, 2) := by decide +kernel
theorem dX8_slips_193 : decode cX8_slips 193 = .ok (.iinc 18 1, 3) := by decide +kernel
theorem dX8_slips_196 : decode cX8_slips 196 = .ok (.goto (-32), 3) := by decide +kernel
theorem dX8_slips_199 : decode cX8_slips 199 = .ok (.iload 14, 2) := by decide +kernel
theorem dX8_slips_201 : decode cX8_slips 201 = .ok (.iload_n 1, 1) := by decide +kernel
theorem dX8_slips_202 : decode cX8_slips 202 = .ok (.if_icmp .ne 8, 3) := by decide +kernel
theorem dX8_slips_205 : decode cX8_slips 205 = .ok (.lload 16, 2) := by decide +kernel
theorem dX8_slips_207 : decode cX8_slips 207 = .ok (.goto 5, 3) := by decide +kernel
theorem dX8_slips_210 : decode cX8_slips 210 = .ok (.lload 10, 2) := by decide +kernel
theorem dX8_slips_212 : decode cX8_slips 212 = .ok (.lstore 10, 2) := by decide +kernel
theorem dX8_slips_214 : decode cX8_slips 214 = .ok (.lload 12, 2) := by decide +kernel
theorem dX8_slips_216 : decode cX8_slips 216 = .ok (.lload 16, 2) := by decide +kernel
theorem dX8_slips_218 : decode cX8_slips 218 = .ok (.ladd, 1) := by decide +kernel
theorem dX8_slips_219 : decode cX8_slips 219 = .ok (.lstore 12, 2) := by decide +kernel
theorem dX8_slips_221 : decode cX8_slips 221 = .ok (.iinc 14 1, 3) := by decide +kernel
theorem dX8_slips_224 : decode cX8_slips 224 = .ok (.goto (-123), 3) := by decide +kernel
theorem dX8_slips_227 : decode cX8_slips 227 = .ok (.lload 10, 2) := by decide +kernel
theorem dX8_slips_229 : decode cX8_slips 229 = .ok (.lload 10, 2) := by decide +kernel
theorem dX8_slips_231 : decode cX8_slips 231 = .ok (.lconst 0, 1) := by decide +kernel
theorem dX8_slips_232 : decode cX8_slips 232 = .ok (.lcmp, 1) := by decide +kernel
theorem dX8_slips_233 : decode cX8_slips 233 = .ok (.ifCond .ne 7, 3) := by decide +kernel
theorem dX8_slips_236 : decode cX8_slips 236 = .ok (.lconst 1, 1) := by decide +kernel
theorem dX8_slips_237 : decode cX8_slips 237 = .ok (.goto 5, 3) := by decide +kernel
theorem dX8_slips_240 : decode cX8_slips 240 = .ok (.lload 12, 2) := by decide +kernel
theorem dX8_slips_242 : decode cX8_slips 242 = .ok (.iload 8, 2) := by decide +kernel
theorem dX8_slips_244 : decode cX8_slips 244 = .ok (.invokestatic 165, 3) := by decide +kernel
theorem dX8_slips_247 : decode cX8_slips 247 = .ok (.lreturn, 1) := by decide +kernel
theorem dX8_cutTo_0 : decode cX8_cutTo 0 = .ok (.iload_n 0, 1) := by decide +kernel
theorem dX8_cutTo_1 : decode cX8_cutTo 1 = .ok (.ifCond .ne 10, 3) := by decide +kernel
theorem dX8_cutTo_4 : decode cX8_cutTo 4 = .ok (.lload_n 1, 1) := by decide +kernel
theorem dX8_cutTo_5 : decode cX8_cutTo 5 = .ok (.l2i, 1) := by decide +kernel
theorem dX8_cutTo_6 : decode cX8_cutTo 6 = .ok (.i2b, 1) := by decide +kernel
theorem dX8_cutTo_7 : decode cX8_cutTo 7 = .ok (.i2l, 1) := by decide +kernel
theorem dX8_cutTo_8 : decode cX8_cutTo 8 = .ok (.goto 27, 3) := by decide +kernel
theorem dX8_cutTo_11 : decode cX8_cutTo 11 = .ok (.iload_n 0, 1) := by decide +kernel
theorem dX8_cutTo_12 : decode cX8_cutTo 12 = .ok (.iconst 1, 1) := by decide +kernel
theorem dX8_cutTo_13 : decode cX8_cutTo 13 = .ok (.if_icmp .ne 10, 3) := by decide +kernel
theorem dX8_cutTo_16 : decode cX8_cutTo 16 = .ok (.lload_n 1, 1) := by decide +kernel
theorem dX8_cutTo_17 : decode cX8_cutTo 17 = .ok (.l2i, 1) := by decide +kernel
theorem dX8_cutTo_18 : decode cX8_cutTo 18 = .ok (.i2s, 1) := by decide +kernel
theorem dX8_cutTo_19 : decode cX8_cutTo 19 = .ok (.i2l, 1) := by decide +kernel
theorem dX8_cutTo_20 : decode cX8_cutTo 20 = .ok (.goto 15, 3) := by decide +kernel
theorem dX8_cutTo_23 : decode cX8_cutTo 23 = .ok (.iload_n 0, 1) := by decide +kernel
theorem dX8_cutTo_24 : decode cX8_cutTo 24 = .ok (.iconst 2, 1) := by decide +kernel
theorem dX8_cutTo_25 : decode cX8_cutTo 25 = .ok (.if_icmp .ne 9, 3) := by decide +kernel
theorem dX8_cutTo_28 : decode cX8_cutTo 28 = .ok (.lload_n 1, 1) := by decide +kernel
theorem dX8_cutTo_29 : decode cX8_cutTo 29 = .ok (.l2i, 1) := by decide +kernel
theorem dX8_cutTo_30 : decode cX8_cutTo 30 = .ok (.i2l, 1) := by decide +kernel
theorem dX8_cutTo_31 : decode cX8_cutTo 31 = .ok (.goto 4, 3) := by decide +kernel
theorem dX8_cutTo_34 : decode cX8_cutTo 34 = .ok (.lload_n 1, 1) := by decide +kernel
theorem dX8_cutTo_35 : decode cX8_cutTo 35 = .ok (.lreturn, 1) := by decide +kernel
set_option maxRecDepth 20000 in
theorem ggX8_film_X8_isTaster : GoodIn wsX8_film wsX8_isTaster := goodIn_r _ [7, 1, 8, 9, 6, 10, 44, 45, 46, 47, 48, 49, 50, 51, 52, 53, 54, 55, 56, 57, 58, 59, 60, 61] (by decide +kernel) (by decide +kernel)
set_option maxRecDepth 20000 in
theorem gX8_film_X8_isTaster : GoodIn wsX8_film (wsV RX8 64 RX8 yX8_isTaster wsX8_isTaster) := goodIn_app (goodIn_of _ (by decide +kernel)) ggX8_film_X8_isTaster
set_option maxRecDepth 20000 in
theorem ggX8_film_X8_in : GoodIn wsX8_film wsX8_in := goodIn_r _ [10] (by decide +kernel) (by decide +kernel)
set_option maxRecDepth 20000 in
theorem gX8_film_X8_in : GoodIn wsX8_film (va_wsS RX8 44 yX8_in wsX8_in) := goodIn_app (goodIn_of _ (by decide +kernel)) ggX8_film_X8_in
set_option maxRecDepth 20000 in
theorem ggX8_film_X8_allOf : GoodIn wsX8_film wsX8_allOf := goodIn_r _ [13] (by decide +kernel) (by decide +kernel)
set_option maxRecDepth 20000 in
theorem gX8_film_X8_allOf : GoodIn wsX8_film (va_wsS RX8 48 yX8_allOf wsX8_allOf) := goodIn_app (goodIn_of _ (by decide +kernel)) ggX8_film_X8_allOf
set_option maxRecDepth 20000 in
theorem ggX8_film_X8_isSheet : GoodIn wsX8_film wsX8_isSheet := goodIn_r _ [16, 8, 9, 6, 10] (by decide +kernel) (by decide +kernel)
set_option maxRecDepth 20000 in
theorem gX8_film_X8_isSheet : GoodIn wsX8_film (va_wsS RX8 187 yX8_isSheet wsX8_isSheet) := goodIn_app (goodIn_of _ (by decide +kernel)) ggX8_film_X8_isSheet
set_option maxRecDepth 20000 in
theorem ggX8_film_X8_wrong : GoodIn wsX8_film wsX8_wrong := goodIn_r _ [20, 21, 22, 23, 24, 6, 25, 44, 45, 46, 47, 48, 49, 50, 51, 52, 53, 54, 55, 56, 57, 58, 59, 60, 61] (by decide +kernel) (by decide +kernel)
set_option maxRecDepth 20000 in
theorem gX8_film_X8_wrong : GoodIn wsX8_film (wsV RX8 179 RX8 yX8_wrong wsX8_wrong) := goodIn_app (goodIn_of _ (by decide +kernel)) ggX8_film_X8_wrong
set_option maxRecDepth 20000 in
theorem ggX8_film_X8_noticedBy : GoodIn wsX8_film wsX8_noticedBy := goodIn_r _ [28, 29, 30, 6, 31, 32, 33, 34, 35, 36, 37, 38, 39, 40] (by decide +kernel) (by decide +kernel)
set_option maxRecDepth 20000 in
theorem gX8_film_X8_noticedBy : GoodIn wsX8_film (va_wsS RX8 122 yX8_noticedBy wsX8_noticedBy) := goodIn_app (goodIn_of _ (by decide +kernel)) ggX8_film_X8_noticedBy
set_option maxRecDepth 20000 in
theorem ggX8_film_X8_cutTo : GoodIn wsX8_film wsX8_cutTo := goodIn_r _ [43] (by decide +kernel) (by decide +kernel)
set_option maxRecDepth 20000 in
theorem gX8_film_X8_cutTo : GoodIn wsX8_film (va_wsS RX8 198 yX8_cutTo wsX8_cutTo) := goodIn_app (goodIn_of _ (by decide +kernel)) ggX8_film_X8_cutTo
theorem dX8_film_0 : decode cX8_film 0 = .ok (.aload_n 0, 1) := by decide +kernel
theorem dX8_film_1 : decode cX8_film 1 = .ok (.iload_n 1, 1) := by decide +kernel
theorem dX8_film_2 : decode cX8_film 2 = .ok (.invokevirtual 64, 3) := by decide +kernel
theorem dX8_film_5 : decode cX8_film 5 = .ok (.ifCond .eq 41, 3) := by decide +kernel
theorem dX8_film_8 : decode cX8_film 8 = .ok (.iload_n 2, 1) := by decide +kernel
theorem dX8_film_9 : decode cX8_film 9 = .ok (.iconst 1, 1) := by decide +kernel
theorem dX8_film_10 : decode cX8_film 10 = .ok (.bipush 24, 2) := by decide +kernel
theorem dX8_film_12 : decode cX8_film 12 = .ok (.invokestatic 44, 3) := by decide +kernel
theorem dX8_film_15 : decode cX8_film 15 = .ok (.ifCond .eq 31, 3) := by decide +kernel
theorem dX8_film_18 : decode cX8_film 18 = .ok (.iload_n 2, 1) := by decide +kernel
theorem dX8_film_19 : decode cX8_film 19 = .ok (.aload_n 0, 1) := by decide +kernel
theorem dX8_film_20 : decode cX8_film 20 = .ok (.getfield 23, 3) := by decide +kernel
theorem dX8_film_23 : decode cX8_film 23 = .ok (.invokestatic 48, 3) := by decide +kernel
theorem dX8_film_26 : decode cX8_film 26 = .ok (.if_icmp .gt 20, 3) := by decide +kernel
theorem dX8_film_29 : decode cX8_film 29 = .ok (.iload_n 3, 1) := by decide +kernel
theorem dX8_film_30 : decode cX8_film 30 = .ok (.invokestatic 187, 3) := by decide +kernel
theorem dX8_film_33 : decode cX8_film 33 = .ok (.ifCond .eq 13, 3) := by decide +kernel
theorem dX8_film_36 : decode cX8_film 36 = .ok (.iload 4, 2) := by decide +kernel
theorem dX8_film_38 : decode cX8_film 38 = .ok (.iconst 0, 1) := by decide +kernel
theorem dX8_film_39 : decode cX8_film 39 = .ok (.iconst 3, 1) := by decide +kernel
theorem dX8_film_40 : decode cX8_film 40 = .ok (.invokestatic 44, 3) := by decide +kernel
theorem dX8_film_43 : decode cX8_film 43 = .ok (.ifCond .ne 5, 3) := by decide +kernel
theorem dX8_film_46 : decode cX8_film 46 = .ok (.iconst (-1), 1) := by decide +kernel
theorem dX8_film_47 : decode cX8_film 47 = .ok (.ireturn, 1) := by decide +kernel
theorem dX8_film_48 : decode cX8_film 48 = .ok (.aload_n 0, 1) := by decide +kernel
theorem dX8_film_49 : decode cX8_film 49 = .ok (.iload_n 3, 1) := by decide +kernel
theorem dX8_film_50 : decode cX8_film 50 = .ok (.iload 4, 2) := by decide +kernel
theorem dX8_film_52 : decode cX8_film 52 = .ok (.iload 5, 2) := by decide +kernel
theorem dX8_film_54 : decode cX8_film 54 = .ok (.iload_n 2, 1) := by decide +kernel
theorem dX8_film_55 : decode cX8_film 55 = .ok (.invokevirtual 179, 3) := by decide +kernel
theorem dX8_film_58 : decode cX8_film 58 = .ok (.istore 6, 2) := by decide +kernel
theorem dX8_film_60 : decode cX8_film 60 = .ok (.iload 6, 2) := by decide +kernel
theorem dX8_film_62 : decode cX8_film 62 = .ok (.ifCond .eq 6, 3) := by decide +kernel
theorem dX8_film_65 : decode cX8_film 65 = .ok (.iload 6, 2) := by decide +kernel
theorem dX8_film_67 : decode cX8_film 67 = .ok (.ireturn, 1) := by decide +kernel
theorem dX8_film_68 : decode cX8_film 68 = .ok (.iconst 0, 1) := by decide +kernel
theorem dX8_film_69 : decode cX8_film 69 = .ok (.istore 7, 2) := by decide +kernel
theorem dX8_film_71 : decode cX8_film 71 = .ok (.iload 7, 2) := by decide +kernel
theorem dX8_film_73 : decode cX8_film 73 = .ok (.iload_n 2, 1) := by decide +kernel
theorem dX8_film_74 : decode cX8_film 74 = .ok (.if_icmp .ge 49, 3) := by decide +kernel
theorem dX8_film_77 : decode cX8_film 77 = .ok (.aload_n 0, 1) := by decide +kernel
theorem dX8_film_78 : decode cX8_film 78 = .ok (.getfield 16, 3) := by decide +kernel
theorem dX8_film_81 : decode cX8_film 81 = .ok (.bipush 24, 2) := by decide +kernel
theorem dX8_film_83 : decode cX8_film 83 = .ok (.iload_n 3, 1) := by decide +kernel
theorem dX8_film_84 : decode cX8_film 84 = .ok (.imul, 1) := by decide +kernel
theorem dX8_film_85 : decode cX8_film 85 = .ok (.iload 5, 2) := by decide +kernel
theorem dX8_film_87 : decode cX8_film 87 = .ok (.iadd, 1) := by decide +kernel
theorem dX8_film_88 : decode cX8_film 88 = .ok (.iload 7, 2) := by decide +kernel
theorem dX8_film_90 : decode cX8_film 90 = .ok (.iadd, 1) := by decide +kernel
theorem dX8_film_91 : decode cX8_film 91 = .ok (.iload 4, 2) := by decide +kernel
theorem dX8_film_93 : decode cX8_film 93 = .ok (.aload_n 0, 1) := by decide +kernel
theorem dX8_film_94 : decode cX8_film 94 = .ok (.getfield 23, 3) := by decide +kernel
theorem dX8_film_97 : decode cX8_film 97 = .ok (.iload_n 1, 1) := by decide +kernel
theorem dX8_film_98 : decode cX8_film 98 = .ok (.iload 7, 2) := by decide +kernel
theorem dX8_film_100 : decode cX8_film 100 = .ok (.iconst 1, 1) := by decide +kernel
theorem dX8_film_101 : decode cX8_film 101 = .ok (.iadd, 1) := by decide +kernel
theorem dX8_film_102 : decode cX8_film 102 = .ok (.invokestatic 122, 3) := by decide +kernel
theorem dX8_film_105 : decode cX8_film 105 = .ok (.aload_n 0, 1) := by decide +kernel
theorem dX8_film_106 : decode cX8_film 106 = .ok (.getfield 23, 3) := by decide +kernel
theorem dX8_film_109 : decode cX8_film 109 = .ok (.iconst 2, 1) := by decide +kernel
theorem dX8_film_110 : decode cX8_film 110 = .ok (.iaload, 1) := by decide +kernel
theorem dX8_film_111 : decode cX8_film 111 = .ok (.iand, 1) := by decide +kernel
theorem dX8_film_112 : decode cX8_film 112 = .ok (.i2l, 1) := by decide +kernel
theorem dX8_film_113 : decode cX8_film 113 = .ok (.invokestatic 198, 3) := by decide +kernel
theorem dX8_film_116 : decode cX8_film 116 = .ok (.lastore, 1) := by decide +kernel
theorem dX8_film_117 : decode cX8_film 117 = .ok (.iinc 7 1, 3) := by decide +kernel
theorem dX8_film_120 : decode cX8_film 120 = .ok (.goto (-49), 3) := by decide +kernel
theorem dX8_film_123 : decode cX8_film 123 = .ok (.iload_n 2, 1) := by decide +kernel
theorem dX8_film_124 : decode cX8_film 124 = .ok (.ireturn, 1) := by decide +kernel
set_option maxRecDepth 20000 in
theorem ggX8_sheet_X8_isSheet : GoodIn wsX8_sheet wsX8_isSheet := goodIn_r _ [7, 8, 9, 6, 10] (by decide +kernel) (by decide +kernel)
set_option maxRecDepth 20000 in
theorem gX8_sheet_X8_isSheet : GoodIn wsX8_sheet (va_wsS RX8 187 yX8_isSheet wsX8_isSheet) := goodIn_app (goodIn_of _ (by decide +kernel)) ggX8_sheet_X8_isSheet
set_option maxRecDepth 20000 in
theorem ggX8_sheet_X8_in : GoodIn wsX8_sheet wsX8_in := goodIn_r _ [10] (by decide +kernel) (by decide +kernel)
set_option maxRecDepth 20000 in
theorem gX8_sheet_X8_in : GoodIn wsX8_sheet (va_wsS RX8 44 yX8_in wsX8_in) := goodIn_app (goodIn_of _ (by decide +kernel)) ggX8_sheet_X8_in
theorem dX8_sheet_0 : decode cX8_sheet 0 = .ok (.iload_n 1, 1) := by decide +kernel
theorem dX8_sheet_1 : decode cX8_sheet 1 = .ok (.invokestatic 187, 3) := by decide +kernel
theorem dX8_sheet_4 : decode cX8_sheet 4 = .ok (.ifCond .eq 18, 3) := by decide +kernel
theorem dX8_sheet_7 : decode cX8_sheet 7 = .ok (.iload_n 2, 1) := by decide +kernel
theorem dX8_sheet_8 : decode cX8_sheet 8 = .ok (.iconst 0, 1) := by decide +kernel
theorem dX8_sheet_9 : decode cX8_sheet 9 = .ok (.iconst 3, 1) := by decide +kernel
theorem dX8_sheet_10 : decode cX8_sheet 10 = .ok (.invokestatic 44, 3) := by decide +kernel
theorem dX8_sheet_13 : decode cX8_sheet 13 = .ok (.ifCond .eq 9, 3) := by decide +kernel
theorem dX8_sheet_16 : decode cX8_sheet 16 = .ok (.iload_n 3, 1) := by decide +kernel
theorem dX8_sheet_17 : decode cX8_sheet 17 = .ok (.bipush 24, 2) := by decide +kernel
theorem dX8_sheet_19 : decode cX8_sheet 19 = .ok (.if_icmp .le 5, 3) := by decide +kernel
theorem dX8_sheet_22 : decode cX8_sheet 22 = .ok (.iconst (-1), 1) := by decide +kernel
theorem dX8_sheet_23 : decode cX8_sheet 23 = .ok (.ireturn, 1) := by decide +kernel
theorem dX8_sheet_24 : decode cX8_sheet 24 = .ok (.iload_n 3, 1) := by decide +kernel
theorem dX8_sheet_25 : decode cX8_sheet 25 = .ok (.ifCond .ge 6, 3) := by decide +kernel
theorem dX8_sheet_28 : decode cX8_sheet 28 = .ok (.bipush (-14), 2) := by decide +kernel
theorem dX8_sheet_30 : decode cX8_sheet 30 = .ok (.ireturn, 1) := by decide +kernel
theorem dX8_sheet_31 : decode cX8_sheet 31 = .ok (.aload_n 0, 1) := by decide +kernel
theorem dX8_sheet_32 : decode cX8_sheet 32 = .ok (.getfield 7, 3) := by decide +kernel
theorem dX8_sheet_35 : decode cX8_sheet 35 = .ok (.iload_n 1, 1) := by decide +kernel
theorem dX8_sheet_36 : decode cX8_sheet 36 = .ok (.iload_n 2, 1) := by decide +kernel
theorem dX8_sheet_37 : decode cX8_sheet 37 = .ok (.iastore, 1) := by decide +kernel
theorem dX8_sheet_38 : decode cX8_sheet 38 = .ok (.aload_n 0, 1) := by decide +kernel
theorem dX8_sheet_39 : decode cX8_sheet 39 = .ok (.getfield 13, 3) := by decide +kernel
theorem dX8_sheet_42 : decode cX8_sheet 42 = .ok (.iload_n 1, 1) := by decide +kernel
theorem dX8_sheet_43 : decode cX8_sheet 43 = .ok (.iload_n 3, 1) := by decide +kernel
theorem dX8_sheet_44 : decode cX8_sheet 44 = .ok (.iastore, 1) := by decide +kernel
theorem dX8_sheet_45 : decode cX8_sheet 45 = .ok (.iconst 0, 1) := by decide +kernel
theorem dX8_sheet_46 : decode cX8_sheet 46 = .ok (.istore 4, 2) := by decide +kernel
theorem dX8_sheet_48 : decode cX8_sheet 48 = .ok (.iload 4, 2) := by decide +kernel
theorem dX8_sheet_50 : decode cX8_sheet 50 = .ok (.bipush 24, 2) := by decide +kernel
theorem dX8_sheet_52 : decode cX8_sheet 52 = .ok (.if_icmp .ge 22, 3) := by decide +kernel
theorem dX8_sheet_55 : decode cX8_sheet 55 = .ok (.aload_n 0, 1) := by decide +kernel
theorem dX8_sheet_56 : decode cX8_sheet 56 = .ok (.getfield 16, 3) := by decide +kernel
theorem dX8_sheet_59 : decode cX8_sheet 59 = .ok (.bipush 24, 2) := by decide +kernel
theorem dX8_sheet_61 : decode cX8_sheet 61 = .ok (.iload_n 1, 1) := by decide +kernel
theorem dX8_sheet_62 : decode cX8_sheet 62 = .ok (.imul, 1) := by decide +kernel
theorem dX8_sheet_63 : decode cX8_sheet 63 = .ok (.iload 4, 2) := by decide +kernel
theorem dX8_sheet_65 : decode cX8_sheet 65 = .ok (.iadd, 1) := by decide +kernel
theorem dX8_sheet_66 : decode cX8_sheet 66 = .ok (.lconst 0, 1) := by decide +kernel
theorem dX8_sheet_67 : decode cX8_sheet 67 = .ok (.lastore, 1) := by decide +kernel
theorem dX8_sheet_68 : decode cX8_sheet 68 = .ok (.iinc 4 1, 3) := by decide +kernel
theorem dX8_sheet_71 : decode cX8_sheet 71 = .ok (.goto (-23), 3) := by decide +kernel
theorem dX8_sheet_74 : decode cX8_sheet 74 = .ok (.iload_n 3, 1) := by decide +kernel
theorem dX8_sheet_75 : decode cX8_sheet 75 = .ok (.ireturn, 1) := by decide +kernel
set_option maxRecDepth 20000 in
theorem ggX8_drop_X8_isSheet : GoodIn wsX8_drop wsX8_isSheet := goodIn_r _ [6, 7, 8, 5, 9] (by decide +kernel) (by decide +kernel)
set_option maxRecDepth 20000 in
theorem gX8_drop_X8_isSheet : GoodIn wsX8_drop (va_wsS RX8 187 yX8_isSheet wsX8_isSheet) := goodIn_app (goodIn_of _ (by decide +kernel)) ggX8_drop_X8_isSheet
theorem dX8_drop_0 : decode cX8_drop 0 = .ok (.iload_n 1, 1) := by decide +kernel
theorem dX8_drop_1 : decode cX8_drop 1 = .ok (.invokestatic 187, 3) := by decide +kernel
theorem dX8_drop_4 : decode cX8_drop 4 = .ok (.ifCond .ne 5, 3) := by decide +kernel
theorem dX8_drop_7 : decode cX8_drop 7 = .ok (.iconst (-1), 1) := by decide +kernel
theorem dX8_drop_8 : decode cX8_drop 8 = .ok (.ireturn, 1) := by decide +kernel
theorem dX8_drop_9 : decode cX8_drop 9 = .ok (.aload_n 0, 1) := by decide +kernel
theorem dX8_drop_10 : decode cX8_drop 10 = .ok (.getfield 7, 3) := by decide +kernel
theorem dX8_drop_13 : decode cX8_drop 13 = .ok (.iload_n 1, 1) := by decide +kernel
theorem dX8_drop_14 : decode cX8_drop 14 = .ok (.iaload, 1) := by decide +kernel
theorem dX8_drop_15 : decode cX8_drop 15 = .ok (.ifCond .ge 6, 3) := by decide +kernel
theorem dX8_drop_18 : decode cX8_drop 18 = .ok (.bipush (-11), 2) := by decide +kernel
theorem dX8_drop_20 : decode cX8_drop 20 = .ok (.ireturn, 1) := by decide +kernel
theorem dX8_drop_21 : decode cX8_drop 21 = .ok (.aload_n 0, 1) := by decide +kernel
theorem dX8_drop_22 : decode cX8_drop 22 = .ok (.getfield 7, 3) := by decide +kernel
theorem dX8_drop_25 : decode cX8_drop 25 = .ok (.iload_n 1, 1) := by decide +kernel
theorem dX8_drop_26 : decode cX8_drop 26 = .ok (.iconst (-1), 1) := by decide +kernel
theorem dX8_drop_27 : decode cX8_drop 27 = .ok (.iastore, 1) := by decide +kernel
theorem dX8_drop_28 : decode cX8_drop 28 = .ok (.aload_n 0, 1) := by decide +kernel
theorem dX8_drop_29 : decode cX8_drop 29 = .ok (.getfield 13, 3) := by decide +kernel
theorem dX8_drop_32 : decode cX8_drop 32 = .ok (.iload_n 1, 1) := by decide +kernel
theorem dX8_drop_33 : decode cX8_drop 33 = .ok (.iaload, 1) := by decide +kernel
theorem dX8_drop_34 : decode cX8_drop 34 = .ok (.ireturn, 1) := by decide +kernel
set_option maxRecDepth 20000 in
theorem ggX8_item_X8_isSheet : GoodIn wsX8_item wsX8_isSheet := goodIn_r _ [5, 6, 7, 4, 8] (by decide +kernel) (by decide +kernel)
set_option maxRecDepth 20000 in
theorem gX8_item_X8_isSheet : GoodIn wsX8_item (va_wsS RX8 187 yX8_isSheet wsX8_isSheet) := goodIn_app (goodIn_of _ (by decide +kernel)) ggX8_item_X8_isSheet
set_option maxRecDepth 20000 in
theorem ggX8_item_X8_in : GoodIn wsX8_item wsX8_in := goodIn_r _ [8] (by decide +kernel) (by decide +kernel)
set_option maxRecDepth 20000 in
theorem gX8_item_X8_in : GoodIn wsX8_item (va_wsS RX8 44 yX8_in wsX8_in) := goodIn_app (goodIn_of _ (by decide +kernel)) ggX8_item_X8_in
set_option maxRecDepth 20000 in
theorem ggX8_item_X8_wrong : GoodIn wsX8_item wsX8_wrong := goodIn_r _ [12, 13, 14, 15, 16, 4, 17, 18, 19, 20, 21, 22, 23, 24, 25, 26, 27, 28, 29, 30, 31, 32, 33, 34, 35] (by decide +kernel) (by decide +kernel)
set_option maxRecDepth 20000 in
theorem gX8_item_X8_wrong : GoodIn wsX8_item (wsV RX8 179 RX8 yX8_wrong wsX8_wrong) := goodIn_app (goodIn_of _ (by decide +kernel)) ggX8_item_X8_wrong
theorem dX8_item_0 : decode cX8_item 0 = .ok (.iload_n 1, 1) := by decide +kernel
theorem dX8_item_1 : decode cX8_item 1 = .ok (.invokestatic 187, 3) := by decide +kernel
theorem dX8_item_4 : decode cX8_item 4 = .ok (.ifCond .eq 12, 3) := by decide +kernel
theorem dX8_item_7 : decode cX8_item 7 = .ok (.iload_n 2, 1) := by decide +kernel
theorem dX8_item_8 : decode cX8_item 8 = .ok (.iconst 0, 1) := by decide +kernel
theorem dX8_item_9 : decode cX8_item 9 = .ok (.iconst 3, 1) := by decide +kernel
theorem dX8_item_10 : decode cX8_item 10 = .ok (.invokestatic 44, 3) := by decide +kernel
theorem dX8_item_13 : decode cX8_item 13 = .ok (.ifCond .ne 5, 3) := by decide +kernel
theorem dX8_item_16 : decode cX8_item 16 = .ok (.iconst (-1), 1) := by decide +kernel
theorem dX8_item_17 : decode cX8_item 17 = .ok (.ireturn, 1) := by decide +kernel
theorem dX8_item_18 : decode cX8_item 18 = .ok (.aload_n 0, 1) := by decide +kernel
theorem dX8_item_19 : decode cX8_item 19 = .ok (.iload_n 1, 1) := by decide +kernel
theorem dX8_item_20 : decode cX8_item 20 = .ok (.iload_n 2, 1) := by decide +kernel
theorem dX8_item_21 : decode cX8_item 21 = .ok (.iload_n 3, 1) := by decide +kernel
theorem dX8_item_22 : decode cX8_item 22 = .ok (.iconst 1, 1) := by decide +kernel
theorem dX8_item_23 : decode cX8_item 23 = .ok (.invokevirtual 179, 3) := by decide +kernel
theorem dX8_item_26 : decode cX8_item 26 = .ok (.istore 6, 2) := by decide +kernel
theorem dX8_item_28 : decode cX8_item 28 = .ok (.iload 6, 2) := by decide +kernel
theorem dX8_item_30 : decode cX8_item 30 = .ok (.ifCond .eq 6, 3) := by decide +kernel
theorem dX8_item_33 : decode cX8_item 33 = .ok (.iload 6, 2) := by decide +kernel
theorem dX8_item_35 : decode cX8_item 35 = .ok (.ireturn, 1) := by decide +kernel
theorem dX8_item_36 : decode cX8_item 36 = .ok (.aload_n 0, 1) := by decide +kernel
theorem dX8_item_37 : decode cX8_item 37 = .ok (.getfield 16, 3) := by decide +kernel
theorem dX8_item_40 : decode cX8_item 40 = .ok (.bipush 24, 2) := by decide +kernel
theorem dX8_item_42 : decode cX8_item 42 = .ok (.iload_n 1, 1) := by decide +kernel
theorem dX8_item_43 : decode cX8_item 43 = .ok (.imul, 1) := by decide +kernel
theorem dX8_item_44 : decode cX8_item 44 = .ok (.iload_n 3, 1) := by decide +kernel
theorem dX8_item_45 : decode cX8_item 45 = .ok (.iadd, 1) := by decide +kernel
theorem dX8_item_46 : decode cX8_item 46 = .ok (.iload_n 2, 1) := by decide +kernel
theorem dX8_item_47 : decode cX8_item 47 = .ok (.ifCond .ne 11, 3) := by decide +kernel
theorem dX8_item_50 : decode cX8_item 50 = .ok (.lload 4, 2) := by decide +kernel
theorem dX8_item_52 : decode cX8_item 52 = .ok (.l2i, 1) := by decide +kernel
theorem dX8_item_53 : decode cX8_item 53 = .ok (.i2b, 1) := by decide +kernel
theorem dX8_item_54 : decode cX8_item 54 = .ok (.i2l, 1) := by decide +kernel
theorem dX8_item_55 : decode cX8_item 55 = .ok (.goto 30, 3) := by decide +kernel
theorem dX8_item_58 : decode cX8_item 58 = .ok (.iload_n 2, 1) := by decide +kernel
theorem dX8_item_59 : decode cX8_item 59 = .ok (.iconst 1, 1) := by decide +kernel
theorem dX8_item_60 : decode cX8_item 60 = .ok (.if_icmp .ne 11, 3) := by decide +kernel
theorem dX8_item_63 : decode cX8_item 63 = .ok (.lload 4, 2) := by decide +kernel
theorem dX8_item_65 : decode cX8_item 65 = .ok (.l2i, 1) := by decide +kernel
theorem dX8_item_66 : decode cX8_item 66 = .ok (.i2s, 1) := by decide +kernel
theorem dX8_item_67 : decode cX8_item 67 = .ok (.i2l, 1) := by decide +kernel
theorem dX8_item_68 : decode cX8_item 68 = .ok (.goto 17, 3) := by decide +kernel
theorem dX8_item_71 : decode cX8_item 71 = .ok (.iload_n 2, 1) := by decide +kernel
theorem dX8_item_72 : decode cX8_item 72 = .ok (.iconst 2, 1) := by decide +kernel
theorem dX8_item_73 : decode cX8_item 73 = .ok (.if_icmp .ne 10, 3) := by decide +kernel
theorem dX8_item_76 : decode cX8_item 76 = .ok (.lload 4, 2) := by decide +kernel
theorem dX8_item_78 : decode cX8_item 78 = .ok (.l2i, 1) := by decide +kernel
theorem dX8_item_79 : decode cX8_item 79 = .ok (.i2l, 1) := by decide +kernel
theorem dX8_item_80 : decode cX8_item 80 = .ok (.goto 5, 3) := by decide +kernel
theorem dX8_item_83 : decode cX8_item 83 = .ok (.lload 4, 2) := by decide +kernel
theorem dX8_item_85 : decode cX8_item 85 = .ok (.lastore, 1) := by decide +kernel
theorem dX8_item_86 : decode cX8_item 86 = .ok (.iconst 1, 1) := by decide +kernel
theorem dX8_item_87 : decode cX8_item 87 = .ok (.ireturn, 1) := by decide +kernel
set_option maxRecDepth 20000 in
theorem ggX8_copy_X8_isSheet : GoodIn wsX8_copy wsX8_isSheet := goodIn_r _ [7, 8, 9, 6, 10] (by decide +kernel) (by decide +kernel)
set_option maxRecDepth 20000 in
theorem gX8_copy_X8_isSheet : GoodIn wsX8_copy (va_wsS RX8 187 yX8_isSheet wsX8_isSheet) := goodIn_app (goodIn_of _ (by decide +kernel)) ggX8_copy_X8_isSheet
set_option maxRecDepth 20000 in
theorem ggX8_copy_X8_isPart : GoodIn wsX8_copy wsX8_isPart := goodIn_r _ [13] (by decide +kernel) (by decide +kernel)
set_option maxRecDepth 20000 in
theorem gX8_copy_X8_isPart : GoodIn wsX8_copy (va_wsS RX8 176 yX8_isPart wsX8_isPart) := goodIn_app (goodIn_of _ (by decide +kernel)) ggX8_copy_X8_isPart
theorem dX8_copy_0 : decode cX8_copy 0 = .ok (.iload_n 1, 1) := by decide +kernel
theorem dX8_copy_1 : decode cX8_copy 1 = .ok (.invokestatic 187, 3) := by decide +kernel
theorem dX8_copy_4 : decode cX8_copy 4 = .ok (.ifCond .eq 10, 3) := by decide +kernel
theorem dX8_copy_7 : decode cX8_copy 7 = .ok (.iload_n 3, 1) := by decide +kernel
theorem dX8_copy_8 : decode cX8_copy 8 = .ok (.invokestatic 187, 3) := by decide +kernel
theorem dX8_copy_11 : decode cX8_copy 11 = .ok (.ifCond .ne 5, 3) := by decide +kernel
theorem dX8_copy_14 : decode cX8_copy 14 = .ok (.iconst (-1), 1) := by decide +kernel
theorem dX8_copy_15 : decode cX8_copy 15 = .ok (.ireturn, 1) := by decide +kernel
theorem dX8_copy_16 : decode cX8_copy 16 = .ok (.aload_n 0, 1) := by decide +kernel
theorem dX8_copy_17 : decode cX8_copy 17 = .ok (.getfield 7, 3) := by decide +kernel
theorem dX8_copy_20 : decode cX8_copy 20 = .ok (.iload_n 1, 1) := by decide +kernel
theorem dX8_copy_21 : decode cX8_copy 21 = .ok (.iaload, 1) := by decide +kernel
theorem dX8_copy_22 : decode cX8_copy 22 = .ok (.ifCond .lt 12, 3) := by decide +kernel
theorem dX8_copy_25 : decode cX8_copy 25 = .ok (.aload_n 0, 1) := by decide +kernel
theorem dX8_copy_26 : decode cX8_copy 26 = .ok (.getfield 7, 3) := by decide +kernel
theorem dX8_copy_29 : decode cX8_copy 29 = .ok (.iload_n 3, 1) := by decide +kernel
theorem dX8_copy_30 : decode cX8_copy 30 = .ok (.iaload, 1) := by decide +kernel
theorem dX8_copy_31 : decode cX8_copy 31 = .ok (.ifCond .ge 6, 3) := by decide +kernel
theorem dX8_copy_34 : decode cX8_copy 34 = .ok (.bipush (-11), 2) := by decide +kernel
theorem dX8_copy_36 : decode cX8_copy 36 = .ok (.ireturn, 1) := by decide +kernel
theorem dX8_copy_37 : decode cX8_copy 37 = .ok (.aload_n 0, 1) := by decide +kernel
theorem dX8_copy_38 : decode cX8_copy 38 = .ok (.getfield 7, 3) := by decide +kernel
theorem dX8_copy_41 : decode cX8_copy 41 = .ok (.iload_n 1, 1) := by decide +kernel
theorem dX8_copy_42 : decode cX8_copy 42 = .ok (.iaload, 1) := by decide +kernel
theorem dX8_copy_43 : decode cX8_copy 43 = .ok (.aload_n 0, 1) := by decide +kernel
theorem dX8_copy_44 : decode cX8_copy 44 = .ok (.getfield 7, 3) := by decide +kernel
theorem dX8_copy_47 : decode cX8_copy 47 = .ok (.iload_n 3, 1) := by decide +kernel
theorem dX8_copy_48 : decode cX8_copy 48 = .ok (.iaload, 1) := by decide +kernel
theorem dX8_copy_49 : decode cX8_copy 49 = .ok (.if_icmp .eq 6, 3) := by decide +kernel
theorem dX8_copy_52 : decode cX8_copy 52 = .ok (.bipush (-12), 2) := by decide +kernel
theorem dX8_copy_54 : decode cX8_copy 54 = .ok (.ireturn, 1) := by decide +kernel
theorem dX8_copy_55 : decode cX8_copy 55 = .ok (.iload_n 2, 1) := by decide +kernel
theorem dX8_copy_56 : decode cX8_copy 56 = .ok (.iload 5, 2) := by decide +kernel
theorem dX8_copy_58 : decode cX8_copy 58 = .ok (.aload_n 0, 1) := by decide +kernel
theorem dX8_copy_59 : decode cX8_copy 59 = .ok (.getfield 13, 3) := by decide +kernel
theorem dX8_copy_62 : decode cX8_copy 62 = .ok (.iload_n 1, 1) := by decide +kernel
theorem dX8_copy_63 : decode cX8_copy 63 = .ok (.iaload, 1) := by decide +kernel
theorem dX8_copy_64 : decode cX8_copy 64 = .ok (.invokestatic 176, 3) := by decide +kernel
theorem dX8_copy_67 : decode cX8_copy 67 = .ok (.ifCond .eq 19, 3) := by decide +kernel
theorem dX8_copy_70 : decode cX8_copy 70 = .ok (.iload 4, 2) := by decide +kernel
theorem dX8_copy_72 : decode cX8_copy 72 = .ok (.iload 5, 2) := by decide +kernel
theorem dX8_copy_74 : decode cX8_copy 74 = .ok (.aload_n 0, 1) := by decide +kernel
theorem dX8_copy_75 : decode cX8_copy 75 = .ok (.getfield 13, 3) := by decide +kernel
theorem dX8_copy_78 : decode cX8_copy 78 = .ok (.iload_n 3, 1) := by decide +kernel
theorem dX8_copy_79 : decode cX8_copy 79 = .ok (.iaload, 1) := by decide +kernel
theorem dX8_copy_80 : decode cX8_copy 80 = .ok (.invokestatic 176, 3) := by decide +kernel
theorem dX8_copy_83 : decode cX8_copy 83 = .ok (.ifCond .ne 6, 3) := by decide +kernel
theorem dX8_copy_86 : decode cX8_copy 86 = .ok (.bipush (-13), 2) := by decide +kernel
theorem dX8_copy_88 : decode cX8_copy 88 = .ok (.ireturn, 1) := by decide +kernel
theorem dX8_copy_89 : decode cX8_copy 89 = .ok (.iload_n 1, 1) := by decide +kernel
theorem dX8_copy_90 : decode cX8_copy 90 = .ok (.iload_n 3, 1) := by decide +kernel
theorem dX8_copy_91 : decode cX8_copy 91 = .ok (.if_icmp .ne 13, 3) := by decide +kernel
theorem dX8_copy_94 : decode cX8_copy 94 = .ok (.iload 4, 2) := by decide +kernel
theorem dX8_copy_96 : decode cX8_copy 96 = .ok (.iload_n 2, 1) := by decide +kernel
theorem dX8_copy_97 : decode cX8_copy 97 = .ok (.if_icmp .le 7, 3) := by decide +kernel
theorem dX8_copy_100 : decode cX8_copy 100 = .ok (.iconst 1, 1) := by decide +kernel
theorem dX8_copy_101 : decode cX8_copy 101 = .ok (.goto 4, 3) := by decide +kernel
theorem dX8_copy_104 : decode cX8_copy 104 = .ok (.iconst 0, 1) := by decide +kernel
theorem dX8_copy_105 : decode cX8_copy 105 = .ok (.istore 6, 2) := by decide +kernel
theorem dX8_copy_107 : decode cX8_copy 107 = .ok (.iconst 0, 1) := by decide +kernel
theorem dX8_copy_108 : decode cX8_copy 108 = .ok (.istore 7, 2) := by decide +kernel
theorem dX8_copy_110 : decode cX8_copy 110 = .ok (.iload 7, 2) := by decide +kernel
theorem dX8_copy_112 : decode cX8_copy 112 = .ok (.iload 5, 2) := by decide +kernel
theorem dX8_copy_114 : decode cX8_copy 114 = .ok (.if_icmp .ge 57, 3) := by decide +kernel
theorem dX8_copy_117 : decode cX8_copy 117 = .ok (.iload 6, 2) := by decide +kernel
theorem dX8_copy_119 : decode cX8_copy 119 = .ok (.ifCond .eq 13, 3) := by decide +kernel
theorem dX8_copy_122 : decode cX8_copy 122 = .ok (.iload 5, 2) := by decide +kernel
theorem dX8_copy_124 : decode cX8_copy 124 = .ok (.iconst 1, 1) := by decide +kernel
theorem dX8_copy_125 : decode cX8_copy 125 = .ok (.isub, 1) := by decide +kernel
theorem dX8_copy_126 : decode cX8_copy 126 = .ok (.iload 7, 2) := by decide +kernel
theorem dX8_copy_128 : decode cX8_copy 128 = .ok (.isub, 1) := by decide +kernel
theorem dX8_copy_129 : decode cX8_copy 129 = .ok (.goto 5, 3) := by decide +kernel
theorem dX8_copy_132 : decode cX8_copy 132 = .ok (.iload 7, 2) := by decide +kernel
theorem dX8_copy_134 : decode cX8_copy 134 = .ok (.istore 8, 2) := by decide +kernel
theorem dX8_copy_136 : decode cX8_copy 136 = .ok (.aload_n 0, 1) := by decide +kernel
theorem dX8_copy_137 : decode cX8_copy 137 = .ok (.getfield 16, 3) := by decide +kernel
theorem dX8_copy_140 : decode cX8_copy 140 = .ok (.bipush 24, 2) := by decide +kernel
theorem dX8_copy_142 : decode cX8_copy 142 = .ok (.iload_n 3, 1) := by decide +kernel
theorem dX8_copy_143 : decode cX8_copy 143 = .ok (.imul, 1) := by decide +kernel
theorem dX8_copy_144 : decode cX8_copy 144 = .ok (.iload 4, 2) := by decide +kernel
theorem dX8_copy_146 : decode cX8_copy 146 = .ok (.iadd, 1) := by decide +kernel
theorem dX8_copy_147 : decode cX8_copy 147 = .ok (.iload 8, 2) := by decide +kernel
theorem dX8_copy_149 : decode cX8_copy 149 = .ok (.iadd, 1) := by decide +kernel
theorem dX8_copy_150 : decode cX8_copy 150 = .ok (.aload_n 0, 1) := by decide +kernel
theorem dX8_copy_151 : decode cX8_copy 151 = .ok (.getfield 16, 3) := by decide +kernel
theorem dX8_copy_154 : decode cX8_copy 154 = .ok (.bipush 24, 2) := by decide +kernel
theorem dX8_copy_156 : decode cX8_copy 156 = .ok (.iload_n 1, 1) := by decide +kernel
theorem dX8_copy_157 : decode cX8_copy 157 = .ok (.imul, 1) := by decide +kernel
theorem dX8_copy_158 : decode cX8_copy 158 = .ok (.iload_n 2, 1) := by decide +kernel
theorem dX8_copy_159 : decode cX8_copy 159 = .ok (.iadd, 1) := by decide +kernel
theorem dX8_copy_160 : decode cX8_copy 160 = .ok (.iload 8, 2) := by decide +kernel
theorem dX8_copy_162 : decode cX8_copy 162 = .ok (.iadd, 1) := by decide +kernel
theorem dX8_copy_163 : decode cX8_copy 163 = .ok (.laload, 1) := by decide +kernel
theorem dX8_copy_164 : decode cX8_copy 164 = .ok (.lastore, 1) := by decide +kernel
theorem dX8_copy_165 : decode cX8_copy 165 = .ok (.iinc 7 1, 3) := by decide +kernel
theorem dX8_copy_168 : decode cX8_copy 168 = .ok (.goto (-58), 3) := by decide +kernel
theorem dX8_copy_171 : decode cX8_copy 171 = .ok (.iload 5, 2) := by decide +kernel
theorem dX8_copy_173 : decode cX8_copy 173 = .ok (.ireturn, 1) := by decide +kernel
theorem dJ11_isValidCodePoint_9a6ad_0 : decode cJ11_isValidCodePoint_9a6ad 0 = .ok (.iload_n 0, 1) := by decide +kernel
theorem dJ11_isValidCodePoint_9a6ad_1 : decode cJ11_isValidCodePoint_9a6ad 1 = .ok (.bipush 16, 2) := by decide +kernel
theorem dJ11_isValidCodePoint_9a6ad_3 : decode cJ11_isValidCodePoint_9a6ad 3 = .ok (.iushr, 1) := by decide +kernel
theorem dJ11_isValidCodePoint_9a6ad_4 : decode cJ11_isValidCodePoint_9a6ad 4 = .ok (.istore_n 1, 1) := by decide +kernel
theorem dJ11_isValidCodePoint_9a6ad_5 : decode cJ11_isValidCodePoint_9a6ad 5 = .ok (.iload_n 1, 1) := by decide +kernel
theorem dJ11_isValidCodePoint_9a6ad_6 : decode cJ11_isValidCodePoint_9a6ad 6 = .ok (.bipush 17, 2) := by decide +kernel
theorem dJ11_isValidCodePoint_9a6ad_8 : decode cJ11_isValidCodePoint_9a6ad 8 = .ok (.if_icmp .ge 7, 3) := by decide +kernel
theorem dJ11_isValidCodePoint_9a6ad_11 : decode cJ11_isValidCodePoint_9a6ad 11 = .ok (.iconst 1, 1) := by decide +kernel
theorem dJ11_isValidCodePoint_9a6ad_12 : decode cJ11_isValidCodePoint_9a6ad 12 = .ok (.goto 4, 3) := by decide +kernel
theorem dJ11_isValidCodePoint_9a6ad_15 : decode cJ11_isValidCodePoint_9a6ad 15 = .ok (.iconst 0, 1) := by decide +kernel
theorem dJ11_isValidCodePoint_9a6ad_16 : decode cJ11_isValidCodePoint_9a6ad 16 = .ok (.ireturn, 1) := by decide +kernel
theorem dJ11_highSurrogate_5068e_0 : decode cJ11_highSurrogate_5068e 0 = .ok (.iload_n 0, 1) := by decide +kernel
theorem dJ11_highSurrogate_5068e_1 : decode cJ11_highSurrogate_5068e 1 = .ok (.bipush 10, 2) := by decide +kernel
theorem dJ11_highSurrogate_5068e_3 : decode cJ11_highSurrogate_5068e 3 = .ok (.iushr, 1) := by decide +kernel
theorem dJ11_highSurrogate_5068e_4 : decode cJ11_highSurrogate_5068e 4 = .ok (.ldc 110, 2) := by decide +kernel
theorem dJ11_highSurrogate_5068e_6 : decode cJ11_highSurrogate_5068e 6 = .ok (.iadd, 1) := by decide +kernel
theorem dJ11_highSurrogate_5068e_7 : decode cJ11_highSurrogate_5068e 7 = .ok (.i2c, 1) := by decide +kernel
theorem dJ11_highSurrogate_5068e_8 : decode cJ11_highSurrogate_5068e 8 = .ok (.ireturn, 1) := by decide +kernel
theorem dJ11_lowSurrogate_5068e_0 : decode cJ11_lowSurrogate_5068e 0 = .ok (.iload_n 0, 1) := by decide +kernel
theorem dJ11_lowSurrogate_5068e_1 : decode cJ11_lowSurrogate_5068e 1 = .ok (.sipush 1023, 3) := by decide +kernel
theorem dJ11_lowSurrogate_5068e_4 : decode cJ11_lowSurrogate_5068e 4 = .ok (.iand, 1) := by decide +kernel
theorem dJ11_lowSurrogate_5068e_5 : decode cJ11_lowSurrogate_5068e 5 = .ok (.ldc 76, 2) := by decide +kernel
theorem dJ11_lowSurrogate_5068e_7 : decode cJ11_lowSurrogate_5068e 7 = .ok (.iadd, 1) := by decide +kernel
theorem dJ11_lowSurrogate_5068e_8 : decode cJ11_lowSurrogate_5068e 8 = .ok (.i2c, 1) := by decide +kernel
theorem dJ11_lowSurrogate_5068e_9 : decode cJ11_lowSurrogate_5068e 9 = .ok (.ireturn, 1) := by decide +kernel
theorem dJ6_bitCount_0f7a4_0 : decode cJ6_bitCount_0f7a4 0 = .ok (.iload_n 0, 1) := by decide +kernel
theorem dJ6_bitCount_0f7a4_1 : decode cJ6_bitCount_0f7a4 1 = .ok (.iload_n 0, 1) := by decide +kernel
theorem dJ6_bitCount_0f7a4_2 : decode cJ6_bitCount_0f7a4 2 = .ok (.iconst 1, 1) := by decide +kernel
theorem dJ6_bitCount_0f7a4_3 : decode cJ6_bitCount_0f7a4 3 = .ok (.iushr, 1) := by decide +kernel
theorem dJ6_bitCount_0f7a4_4 : decode cJ6_bitCount_0f7a4 4 = .ok (.ldc_w 265, 3) := by decide +kernel
theorem dJ6_bitCount_0f7a4_7 : decode cJ6_bitCount_0f7a4 7 = .ok (.iand, 1) := by decide +kernel
theorem dJ6_bitCount_0f7a4_8 : decode cJ6_bitCount_0f7a4 8 = .ok (.isub, 1) := by decide +kernel
theorem dJ6_bitCount_0f7a4_9 : decode cJ6_bitCount_0f7a4 9 = .ok (.istore_n 0, 1) := by decide +kernel
theorem dJ6_bitCount_0f7a4_10 : decode cJ6_bitCount_0f7a4 10 = .ok (.iload_n 0, 1) := by decide +kernel
theorem dJ6_bitCount_0f7a4_11 : decode cJ6_bitCount_0f7a4 11 = .ok (.ldc_w 266, 3) := by decide +kernel
theorem dJ6_bitCount_0f7a4_14 : decode cJ6_bitCount_0f7a4 14 = .ok (.iand, 1) := by decide +kernel
theorem dJ6_bitCount_0f7a4_15 : decode cJ6_bitCount_0f7a4 15 = .ok (.iload_n 0, 1) := by decide +kernel
theorem dJ6_bitCount_0f7a4_16 : decode cJ6_bitCount_0f7a4 16 = .ok (.iconst 2, 1) := by decide +kernel
theorem dJ6_bitCount_0f7a4_17 : decode cJ6_bitCount_0f7a4 17 = .ok (.iushr, 1) := by decide +kernel
theorem dJ6_bitCount_0f7a4_18 : decode cJ6_bitCount_0f7a4 18 = .ok (.ldc_w 266, 3) := by decide +kernel
theorem dJ6_bitCount_0f7a4_21 : decode cJ6_bitCount_0f7a4 21 = .ok (.iand, 1) := by decide +kernel
theorem dJ6_bitCount_0f7a4_22 : decode cJ6_bitCount_0f7a4 22 = .ok (.iadd, 1) := by decide +kernel
theorem dJ6_bitCount_0f7a4_23 : decode cJ6_bitCount_0f7a4 23 = .ok (.istore_n 0, 1) := by decide +kernel
theorem dJ6_bitCount_0f7a4_24 : decode cJ6_bitCount_0f7a4 24 = .ok (.iload_n 0, 1) := by decide +kernel
theorem dJ6_bitCount_0f7a4_25 : decode cJ6_bitCount_0f7a4 25 = .ok (.iload_n 0, 1) := by decide +kernel
theorem dJ6_bitCount_0f7a4_26 : decode cJ6_bitCount_0f7a4 26 = .ok (.iconst 4, 1) := by decide +kernel
theorem dJ6_bitCount_0f7a4_27 : decode cJ6_bitCount_0f7a4 27 = .ok (.iushr, 1) := by decide +kernel
theorem dJ6_bitCount_0f7a4_28 : decode cJ6_bitCount_0f7a4 28 = .ok (.iadd, 1) := by decide +kernel
theorem dJ6_bitCount_0f7a4_29 : decode cJ6_bitCount_0f7a4 29 = .ok (.ldc_w 267, 3) := by decide +kernel
theorem dJ6_bitCount_0f7a4_32 : decode cJ6_bitCount_0f7a4 32 = .ok (.iand, 1) := by decide +kernel
theorem dJ6_bitCount_0f7a4_33 : decode cJ6_bitCount_0f7a4 33 = .ok (.istore_n 0, 1) := by decide +kernel
theorem dJ6_bitCount_0f7a4_34 : decode cJ6_bitCount_0f7a4 34 = .ok (.iload_n 0, 1) := by decide +kernel
theorem dJ6_bitCount_0f7a4_35 : decode cJ6_bitCount_0f7a4 35 = .ok (.iload_n 0, 1) := by decide +kernel
theorem dJ6_bitCount_0f7a4_36 : decode cJ6_bitCount_0f7a4 36 = .ok (.bipush 8, 2) := by decide +kernel
theorem dJ6_bitCount_0f7a4_38 : decode cJ6_bitCount_0f7a4 38 = .ok (.iushr, 1) := by decide +kernel
theorem dJ6_bitCount_0f7a4_39 : decode cJ6_bitCount_0f7a4 39 = .ok (.iadd, 1) := by decide +kernel
theorem dJ6_bitCount_0f7a4_40 : decode cJ6_bitCount_0f7a4 40 = .ok (.istore_n 0, 1) := by decide +kernel
theorem dJ6_bitCount_0f7a4_41 : decode cJ6_bitCount_0f7a4 41 = .ok (.iload_n 0, 1) := by decide +kernel
theorem dJ6_bitCount_0f7a4_42 : decode cJ6_bitCount_0f7a4 42 = .ok (.iload_n 0, 1) := by decide +kernel
theorem dJ6_bitCount_0f7a4_43 : decode cJ6_bitCount_0f7a4 43 = .ok (.bipush 16, 2) := by decide +kernel
theorem dJ6_bitCount_0f7a4_45 : decode cJ6_bitCount_0f7a4 45 = .ok (.iushr, 1) := by decide +kernel
theorem dJ6_bitCount_0f7a4_46 : decode cJ6_bitCount_0f7a4 46 = .ok (.iadd, 1) := by decide +kernel
theorem dJ6_bitCount_0f7a4_47 : decode cJ6_bitCount_0f7a4 47 = .ok (.istore_n 0, 1) := by decide +kernel
theorem dJ6_bitCount_0f7a4_48 : decode cJ6_bitCount_0f7a4 48 = .ok (.iload_n 0, 1) := by decide +kernel
theorem dJ6_bitCount_0f7a4_49 : decode cJ6_bitCount_0f7a4 49 = .ok (.bipush 63, 2) := by decide +kernel
theorem dJ6_bitCount_0f7a4_51 : decode cJ6_bitCount_0f7a4 51 = .ok (.iand, 1) := by decide +kernel
theorem dJ6_bitCount_0f7a4_52 : decode cJ6_bitCount_0f7a4 52 = .ok (.ireturn, 1) := by decide +kernel
theorem dJ9_max_7cf53_0 : decode cJ9_max_7cf53 0 = .ok (.iload_n 0, 1) := by decide +kernel
theorem dJ9_max_7cf53_1 : decode cJ9_max_7cf53 1 = .ok (.iload_n 1, 1) := by decide +kernel
theorem dJ9_max_7cf53_2 : decode cJ9_max_7cf53 2 = .ok (.if_icmp .lt 7, 3) := by decide +kernel
theorem dJ9_max_7cf53_5 : decode cJ9_max_7cf53 5 = .ok (.iload_n 0, 1) := by decide +kernel
theorem dJ9_max_7cf53_6 : decode cJ9_max_7cf53 6 = .ok (.goto 4, 3) := by decide +kernel
theorem dJ9_max_7cf53_9 : decode cJ9_max_7cf53 9 = .ok (.iload_n 1, 1) := by decide +kernel
theorem dJ9_max_7cf53_10 : decode cJ9_max_7cf53 10 = .ok (.ireturn, 1) := by decide +kernel
theorem dJ9_max_f86c9_0 : decode cJ9_max_f86c9 0 = .ok (.lload_n 0, 1) := by decide +kernel
theorem dJ9_max_f86c9_1 : decode cJ9_max_f86c9 1 = .ok (.lload_n 2, 1) := by decide +kernel
theorem dJ9_max_f86c9_2 : decode cJ9_max_f86c9 2 = .ok (.lcmp, 1) := by decide +kernel
theorem dJ9_max_f86c9_3 : decode cJ9_max_f86c9 3 = .ok (.ifCond .lt 7, 3) := by decide +kernel
theorem dJ9_max_f86c9_6 : decode cJ9_max_f86c9 6 = .ok (.lload_n 0, 1) := by decide +kernel
theorem dJ9_max_f86c9_7 : decode cJ9_max_f86c9 7 = .ok (.goto 4, 3) := by decide +kernel
theorem dJ9_max_f86c9_10 : decode cJ9_max_f86c9 10 = .ok (.lload_n 2, 1) := by decide +kernel
theorem dJ9_max_f86c9_11 : decode cJ9_max_f86c9 11 = .ok (.lreturn, 1) := by decide +kernel
theorem dJ9_min_7cf53_0 : decode cJ9_min_7cf53 0 = .ok (.iload_n 0, 1) := by decide +kernel
theorem dJ9_min_7cf53_1 : decode cJ9_min_7cf53 1 = .ok (.iload_n 1, 1) := by decide +kernel
theorem dJ9_min_7cf53_2 : decode cJ9_min_7cf53 2 = .ok (.if_icmp .gt 7, 3) := by decide +kernel
theorem dJ9_min_7cf53_5 : decode cJ9_min_7cf53 5 = .ok (.iload_n 0, 1) := by decide +kernel
theorem dJ9_min_7cf53_6 : decode cJ9_min_7cf53 6 = .ok (.goto 4, 3) := by decide +kernel
theorem dJ9_min_7cf53_9 : decode cJ9_min_7cf53 9 = .ok (.iload_n 1, 1) := by decide +kernel
theorem dJ9_min_7cf53_10 : decode cJ9_min_7cf53 10 = .ok (.ireturn, 1) := by decide +kernel
set_option maxRecDepth 20000 in
theorem ggJ0_length_8abf5_J0_coder_7d493 : GoodIn wsJ0_length_8abf5 wsJ0_coder_7d493 := goodIn_r _ [6, 7, 8] (by decide +kernel) (by decide +kernel)
set_option maxRecDepth 20000 in
theorem gJ0_length_8abf5_J0_coder_7d493 : GoodIn wsJ0_length_8abf5 (wsV RJ0 335 RJ0 yJ0_coder_7d493 wsJ0_coder_7d493) := goodIn_app (goodIn_of _ (by decide +kernel)) ggJ0_length_8abf5_J0_coder_7d493
theorem dJ0_length_8abf5_0 : decode cJ0_length_8abf5 0 = .ok (.aload_n 0, 1) := by decide +kernel
theorem dJ0_length_8abf5_1 : decode cJ0_length_8abf5 1 = .ok (.getfield 9, 3) := by decide +kernel
theorem dJ0_length_8abf5_4 : decode cJ0_length_8abf5 4 = .ok (.arraylength, 1) := by decide +kernel
theorem dJ0_length_8abf5_5 : decode cJ0_length_8abf5 5 = .ok (.aload_n 0, 1) := by decide +kernel
theorem dJ0_length_8abf5_6 : decode cJ0_length_8abf5 6 = .ok (.invokevirtual 335, 3) := by decide +kernel
theorem dJ0_length_8abf5_9 : decode cJ0_length_8abf5 9 = .ok (.ishr, 1) := by decide +kernel
theorem dJ0_length_8abf5_10 : decode cJ0_length_8abf5 10 = .ok (.ireturn, 1) := by decide +kernel
set_option maxRecDepth 20000 in
theorem ggJ0_indexOf_0f7a4_J0_indexOf_7cf53 : GoodIn wsJ0_indexOf_0f7a4 wsJ0_indexOf_7cf53 := goodIn_r _ [5, 6, 7, 8, 9, 4, 10, 11, 12, 13, 14, 15, 16, 17, 18, 19, 20, 21, 22, 23, 24, 25, 26, 27, 28, 29, 30, 31, 32, 33, 34, 35, 36, 37, 38, 39, 40, 41, 42, 43, 44, 45, 46, 47, 48, 49, 50, 51, 52, 53, 54, 55, 56, 57, 58, 59, 60, 61, 62, 63, 64, 65, 66, 67, 68, 69, 70, 71, 72, 73, 74, 75, 76, 77, 78, 79, 80, 81, 82, 83, 84, 85] (by decide +kernel) (by decide +kernel)
set_option maxRecDepth 20000 in
theorem gJ0_indexOf_0f7a4_J0_indexOf_7cf53 : GoodIn wsJ0_indexOf_0f7a4 (wsV RJ0 633 RJ0 yJ0_indexOf_7cf53 wsJ0_indexOf_7cf53) := goodIn_app (goodIn_of _ (by decide +kernel)) ggJ0_indexOf_0f7a4_J0_indexOf_7cf53
theorem dJ0_indexOf_0f7a4_0 : decode cJ0_indexOf_0f7a4 0 = .ok (.aload_n 0, 1) := by decide +kernel
theorem dJ0_indexOf_0f7a4_1 : decode cJ0_indexOf_0f7a4 1 = .ok (.iload_n 1, 1) := by decide +kernel
theorem dJ0_indexOf_0f7a4_2 : decode cJ0_indexOf_0f7a4 2 = .ok (.iconst 0, 1) := by decide +kernel
theorem dJ0_indexOf_0f7a4_3 : decode cJ0_indexOf_0f7a4 3 = .ok (.invokevirtual 633, 3) := by decide +kernel
theorem dJ0_indexOf_0f7a4_6 : decode cJ0_indexOf_0f7a4 6 = .ok (.ireturn, 1) := by decide +kernel
set_option maxRecDepth 20000 in
theorem ggJ0_indexOf_7cf53_J0_isLatin1_aae02 : GoodIn wsJ0_indexOf_7cf53 wsJ0_isLatin1_aae02 := goodIn_r _ [6, 7, 8] (by decide +kernel) (by decide +kernel)
set_option maxRecDepth 20000 in
theorem gJ0_indexOf_7cf53_J0_isLatin1_aae02 : GoodIn wsJ0_indexOf_7cf53 (wsV RJ0 492 RJ0 yJ0_isLatin1_aae02 wsJ0_isLatin1_aae02) := goodIn_app (goodIn_of _ (by decide +kernel)) ggJ0_indexOf_7cf53_J0_isLatin1_aae02
set_option maxRecDepth 20000 in
theorem ggJ0_indexOf_7cf53_J0_length_8abf5 : GoodIn wsJ0_indexOf_7cf53 wsJ0_length_8abf5 := goodIn_r _ [12, 1, 13, 14, 15, 5, 16, 7, 8] (by decide +kernel) (by decide +kernel)
set_option maxRecDepth 20000 in
theorem gJ0_indexOf_7cf53_J0_length_8abf5 : GoodIn wsJ0_indexOf_7cf53 (wsV RJ0 505 RJ0 yJ0_length_8abf5 wsJ0_length_8abf5) := goodIn_app (goodIn_of _ (by decide +kernel)) ggJ0_indexOf_7cf53_J0_length_8abf5
set_option maxRecDepth 20000 in
theorem ggJ0_indexOf_7cf53_J1_indexOf_4cfef : GoodIn wsJ0_indexOf_7cf53 wsJ1_indexOf_4cfef := goodIn_r _ [20, 21, 22, 23, 24, 25, 26, 27, 28, 29, 19, 30, 31, 32, 33] (by decide +kernel) (by decide +kernel)
set_option maxRecDepth 20000 in
theorem gJ0_indexOf_7cf53_J1_indexOf_4cfef : GoodIn wsJ0_indexOf_7cf53 (va_wsS RJ0 637 yJ1_indexOf_4cfef wsJ1_indexOf_4cfef) := goodIn_app (goodIn_of _ (by decide +kernel)) ggJ0_indexOf_7cf53_J1_indexOf_4cfef
set_option maxRecDepth 20000 in
theorem ggJ0_indexOf_7cf53_J2_indexOf_4cfef : GoodIn wsJ0_indexOf_7cf53 wsJ2_indexOf_4cfef := goodIn_r _ [37, 38, 22, 23, 24, 39, 26, 27, 40, 41, 42, 36, 43, 44, 45, 46, 47, 48, 49, 50, 51, 5, 52, 53, 54, 55, 56, 57, 58, 59, 60, 61, 62, 63, 64, 65, 66, 67, 68, 69, 70, 71, 72, 73, 74, 75, 76, 77, 78, 79, 80, 81] (by decide +kernel) (by decide +kernel)
set_option maxRecDepth 20000 in
theorem gJ0_indexOf_7cf53_J2_indexOf_4cfef : GoodIn wsJ0_indexOf_7cf53 (va_wsS RJ0 640 yJ2_indexOf_4cfef wsJ2_indexOf_4cfef) := goodIn_app (goodIn_of _ (by decide +kernel)) ggJ0_indexOf_7cf53_J2_indexOf_4cfef
theorem dJ0_indexOf_7cf53_0 : decode cJ0_indexOf_7cf53 0 = .ok (.aload_n 0, 1) := by decide +kernel
theorem dJ0_indexOf_7cf53_1 : decode cJ0_indexOf_7cf53 1 = .ok (.invokevirtual 492, 3) := by decide +kernel
theorem dJ0_indexOf_7cf53_4 : decode cJ0_indexOf_7cf53 4 = .ok (.ifCond .eq 19, 3) := by decide +kernel
theorem dJ0_indexOf_7cf53_7 : decode cJ0_indexOf_7cf53 7 = .ok (.aload_n 0, 1) := by decide +kernel
theorem dJ0_indexOf_7cf53_8 : decode cJ0_indexOf_7cf53 8 = .ok (.getfield 9, 3) := by decide +kernel
theorem dJ0_indexOf_7cf53_11 : decode cJ0_indexOf_7cf53 11 = .ok (.iload_n 1, 1) := by decide +kernel
theorem dJ0_indexOf_7cf53_12 : decode cJ0_indexOf_7cf53 12 = .ok (.iload_n 2, 1) := by decide +kernel
theorem dJ0_indexOf_7cf53_13 : decode cJ0_indexOf_7cf53 13 = .ok (.aload_n 0, 1) := by decide +kernel
theorem dJ0_indexOf_7cf53_14 : decode cJ0_indexOf_7cf53 14 = .ok (.invokevirtual 505, 3) := by decide +kernel
theorem dJ0_indexOf_7cf53_17 : decode cJ0_indexOf_7cf53 17 = .ok (.invokestatic 637, 3) := by decide +kernel
theorem dJ0_indexOf_7cf53_20 : decode cJ0_indexOf_7cf53 20 = .ok (.goto 16, 3) := by decide +kernel
theorem dJ0_indexOf_7cf53_23 : decode cJ0_indexOf_7cf53 23 = .ok (.aload_n 0, 1) := by decide +kernel
theorem dJ0_indexOf_7cf53_24 : decode cJ0_indexOf_7cf53 24 = .ok (.getfield 9, 3) := by decide +kernel
theorem dJ0_indexOf_7cf53_27 : decode cJ0_indexOf_7cf53 27 = .ok (.iload_n 1, 1) := by decide +kernel
theorem dJ0_indexOf_7cf53_28 : decode cJ0_indexOf_7cf53 28 = .ok (.iload_n 2, 1) := by decide +kernel
theorem dJ0_indexOf_7cf53_29 : decode cJ0_indexOf_7cf53 29 = .ok (.aload_n 0, 1) := by decide +kernel
theorem dJ0_indexOf_7cf53_30 : decode cJ0_indexOf_7cf53 30 = .ok (.invokevirtual 505, 3) := by decide +kernel
theorem dJ0_indexOf_7cf53_33 : decode cJ0_indexOf_7cf53 33 = .ok (.invokestatic 640, 3) := by decide +kernel
theorem dJ0_indexOf_7cf53_36 : decode cJ0_indexOf_7cf53 36 = .ok (.ireturn, 1) := by decide +kernel
theorem dJ0_coder_7d493_0 : decode cJ0_coder_7d493 0 = .ok (.getstatic 38, 3) := by decide +kernel
theorem dJ0_coder_7d493_3 : decode cJ0_coder_7d493 3 = .ok (.ifCond .eq 10, 3) := by decide +kernel
theorem dJ0_coder_7d493_6 : decode cJ0_coder_7d493 6 = .ok (.aload_n 0, 1) := by decide +kernel
theorem dJ0_coder_7d493_7 : decode cJ0_coder_7d493 7 = .ok (.getfield 15, 3) := by decide +kernel
theorem dJ0_coder_7d493_10 : decode cJ0_coder_7d493 10 = .ok (.goto 4, 3) := by decide +kernel
theorem dJ0_coder_7d493_13 : decode cJ0_coder_7d493 13 = .ok (.iconst 1, 1) := by decide +kernel
theorem dJ0_coder_7d493_14 : decode cJ0_coder_7d493 14 = .ok (.ireturn, 1) := by decide +kernel
theorem dJ0_isLatin1_aae02_0 : decode cJ0_isLatin1_aae02 0 = .ok (.getstatic 38, 3) := by decide +kernel
theorem dJ0_isLatin1_aae02_3 : decode cJ0_isLatin1_aae02 3 = .ok (.ifCond .eq 14, 3) := by decide +kernel
theorem dJ0_isLatin1_aae02_6 : decode cJ0_isLatin1_aae02 6 = .ok (.aload_n 0, 1) := by decide +kernel
theorem dJ0_isLatin1_aae02_7 : decode cJ0_isLatin1_aae02 7 = .ok (.getfield 15, 3) := by decide +kernel
theorem dJ0_isLatin1_aae02_10 : decode cJ0_isLatin1_aae02 10 = .ok (.ifCond .ne 7, 3) := by decide +kernel
theorem dJ0_isLatin1_aae02_13 : decode cJ0_isLatin1_aae02 13 = .ok (.iconst 1, 1) := by decide +kernel
theorem dJ0_isLatin1_aae02_14 : decode cJ0_isLatin1_aae02 14 = .ok (.goto 4, 3) := by decide +kernel
theorem dJ0_isLatin1_aae02_17 : decode cJ0_isLatin1_aae02 17 = .ok (.iconst 0, 1) := by decide +kernel
theorem dJ0_isLatin1_aae02_18 : decode cJ0_isLatin1_aae02 18 = .ok (.ireturn, 1) := by decide +kernel
set_option maxRecDepth 20000 in
theorem ggJ0_checkBoundsBeginEnd_23922_J3_checkFromToIndex_8c36e : GoodIn wsJ0_checkBoundsBeginEnd_23922 wsJ3_checkFromToIndex_8c36e := goodIn_r _ [5] (by decide +kernel) (by decide +kernel)
set_option maxRecDepth 20000 in
theorem gJ0_checkBoundsBeginEnd_23922_J3_checkFromToIndex_8c36e : GoodIn wsJ0_checkBoundsBeginEnd_23922 (va_wsS RJ0 1062 yJ3_checkFromToIndex_8c36e wsJ3_checkFromToIndex_8c36e) := goodIn_app (goodIn_of _ (by decide +kernel)) ggJ0_checkBoundsBeginEnd_23922_J3_checkFromToIndex_8c36e
theorem dJ0_checkBoundsBeginEnd_23922_0 : decode cJ0_checkBoundsBeginEnd_23922 0 = .ok (.iload_n 0, 1) := by decide +kernel
theorem dJ0_checkBoundsBeginEnd_23922_1 : decode cJ0_checkBoundsBeginEnd_23922 1 = .ok (.iload_n 1, 1) := by decide +kernel
theorem dJ0_checkBoundsBeginEnd_23922_2 : decode cJ0_checkBoundsBeginEnd_23922 2 = .ok (.iload_n 2, 1) := by decide +kernel
theorem dJ0_checkBoundsBeginEnd_23922_3 : decode cJ0_checkBoundsBeginEnd_23922 3 = .ok (.getstatic 1053, 3) := by decide +kernel
theorem dJ0_checkBoundsBeginEnd_23922_6 : decode cJ0_checkBoundsBeginEnd_23922 6 = .ok (.invokestatic 1062, 3) := by decide +kernel
theorem dJ0_checkBoundsBeginEnd_23922_9 : decode cJ0_checkBoundsBeginEnd_23922 9 = .ok (.pop, 1) := by decide +kernel
theorem dJ0_checkBoundsBeginEnd_23922_10 : decode cJ0_checkBoundsBeginEnd_23922 10 = .ok (.return_, 1) := by decide +kernel
theorem dJ1_canEncode_9a6ad_0 : decode cJ1_canEncode_9a6ad 0 = .ok (.iload_n 0, 1) := by decide +kernel
theorem dJ1_canEncode_9a6ad_1 : decode cJ1_canEncode_9a6ad 1 = .ok (.ifCond .lt 14, 3) := by decide +kernel
theorem dJ1_canEncode_9a6ad_4 : decode cJ1_canEncode_9a6ad 4 = .ok (.iload_n 0, 1) := by decide +kernel
theorem dJ1_canEncode_9a6ad_5 : decode cJ1_canEncode_9a6ad 5 = .ok (.sipush 255, 3) := by decide +kernel
theorem dJ1_canEncode_9a6ad_8 : decode cJ1_canEncode_9a6ad 8 = .ok (.if_icmp .gt 7, 3) := by decide +kernel
theorem dJ1_canEncode_9a6ad_11 : decode cJ1_canEncode_9a6ad 11 = .ok (.iconst 1, 1) := by decide +kernel
theorem dJ1_canEncode_9a6ad_12 : decode cJ1_canEncode_9a6ad 12 = .ok (.goto 4, 3) := by decide +kernel
theorem dJ1_canEncode_9a6ad_15 : decode cJ1_canEncode_9a6ad 15 = .ok (.iconst 0, 1) := by decide +kernel
theorem dJ1_canEncode_9a6ad_16 : decode cJ1_canEncode_9a6ad 16 = .ok (.ireturn, 1) := by decide +kernel
set_option maxRecDepth 20000 in
theorem ggJ1_indexOf_4cfef_J1_canEncode_9a6ad : GoodIn wsJ1_indexOf_4cfef wsJ1_canEncode_9a6ad := goodIn_r _ [11] (by decide +kernel) (by decide +kernel)
set_option maxRecDepth 20000 in
theorem gJ1_indexOf_4cfef_J1_canEncode_9a6ad : GoodIn wsJ1_indexOf_4cfef (va_wsS RJ1 88 yJ1_canEncode_9a6ad wsJ1_canEncode_9a6ad) := goodIn_app (goodIn_of _ (by decide +kernel)) ggJ1_indexOf_4cfef_J1_canEncode_9a6ad
set_option maxRecDepth 20000 in
theorem ggJ1_indexOf_4cfef_J1_indexOfChar_4cfef : GoodIn wsJ1_indexOf_4cfef wsJ1_indexOfChar_4cfef := goodIn_r _ [14] (by decide +kernel) (by decide +kernel)
set_option maxRecDepth 20000 in
theorem gJ1_indexOf_4cfef_J1_indexOfChar_4cfef : GoodIn wsJ1_indexOf_4cfef (va_wsS RJ1 95 yJ1_indexOfChar_4cfef wsJ1_indexOfChar_4cfef) := goodIn_app (goodIn_of _ (by decide +kernel)) ggJ1_indexOf_4cfef_J1_indexOfChar_4cfef
theorem dJ1_indexOf_4cfef_0 : decode cJ1_indexOf_4cfef 0 = .ok (.iload_n 1, 1) := by decide +kernel
theorem dJ1_indexOf_4cfef_1 : decode cJ1_indexOf_4cfef 1 = .ok (.invokestatic 88, 3) := by decide +kernel
theorem dJ1_indexOf_4cfef_4 : decode cJ1_indexOf_4cfef 4 = .ok (.ifCond .ne 5, 3) := by decide +kernel
theorem dJ1_indexOf_4cfef_7 : decode cJ1_indexOf_4cfef 7 = .ok (.iconst (-1), 1) := by decide +kernel
theorem dJ1_indexOf_4cfef_8 : decode cJ1_indexOf_4cfef 8 = .ok (.ireturn, 1) := by decide +kernel
theorem dJ1_indexOf_4cfef_9 : decode cJ1_indexOf_4cfef 9 = .ok (.iload_n 2, 1) := by decide +kernel
theorem dJ1_indexOf_4cfef_10 : decode cJ1_indexOf_4cfef 10 = .ok (.iconst 0, 1) := by decide +kernel
theorem dJ1_indexOf_4cfef_11 : decode cJ1_indexOf_4cfef 11 = .ok (.invokestatic 92, 3) := by decide +kernel
theorem dJ1_indexOf_4cfef_14 : decode cJ1_indexOf_4cfef 14 = .ok (.istore_n 2, 1) := by decide +kernel
theorem dJ1_indexOf_4cfef_15 : decode cJ1_indexOf_4cfef 15 = .ok (.iload_n 3, 1) := by decide +kernel
theorem dJ1_indexOf_4cfef_16 : decode cJ1_indexOf_4cfef 16 = .ok (.aload_n 0, 1) := by decide +kernel
theorem dJ1_indexOf_4cfef_17 : decode cJ1_indexOf_4cfef 17 = .ok (.arraylength, 1) := by decide +kernel
theorem dJ1_indexOf_4cfef_18 : decode cJ1_indexOf_4cfef 18 = .ok (.invokestatic 38, 3) := by decide +kernel
theorem dJ1_indexOf_4cfef_21 : decode cJ1_indexOf_4cfef 21 = .ok (.istore_n 3, 1) := by decide +kernel
theorem dJ1_indexOf_4cfef_22 : decode cJ1_indexOf_4cfef 22 = .ok (.iload_n 2, 1) := by decide +kernel
theorem dJ1_indexOf_4cfef_23 : decode cJ1_indexOf_4cfef 23 = .ok (.iload_n 3, 1) := by decide +kernel
theorem dJ1_indexOf_4cfef_24 : decode cJ1_indexOf_4cfef 24 = .ok (.if_icmp .lt 5, 3) := by decide +kernel
theorem dJ1_indexOf_4cfef_27 : decode cJ1_indexOf_4cfef 27 = .ok (.iconst (-1), 1) := by decide +kernel
theorem dJ1_indexOf_4cfef_28 : decode cJ1_indexOf_4cfef 28 = .ok (.ireturn, 1) := by decide +kernel
theorem dJ1_indexOf_4cfef_29 : decode cJ1_indexOf_4cfef 29 = .ok (.aload_n 0, 1) := by decide +kernel
theorem dJ1_indexOf_4cfef_30 : decode cJ1_indexOf_4cfef 30 = .ok (.iload_n 1, 1) := by decide +kernel
theorem dJ1_indexOf_4cfef_31 : decode cJ1_indexOf_4cfef 31 = .ok (.iload_n 2, 1) := by decide +kernel
theorem dJ1_indexOf_4cfef_32 : decode cJ1_indexOf_4cfef 32 = .ok (.iload_n 3, 1) := by decide +kernel
theorem dJ1_indexOf_4cfef_33 : decode cJ1_indexOf_4cfef 33 = .ok (.invokestatic 95, 3) := by decide +kernel
theorem dJ1_indexOf_4cfef_36 : decode cJ1_indexOf_4cfef 36 = .ok (.ireturn, 1) := by decide +kernel
theorem dJ1_indexOfChar_4cfef_0 : decode cJ1_indexOfChar_4cfef 0 = .ok (.iload_n 1, 1) := by decide +kernel
theorem dJ1_indexOfChar_4cfef_1 : decode cJ1_indexOfChar_4cfef 1 = .ok (.i2b, 1) := by decide +kernel
theorem dJ1_indexOfChar_4cfef_2 : decode cJ1_indexOfChar_4cfef 2 = .ok (.istore 4, 2) := by decide +kernel
theorem dJ1_indexOfChar_4cfef_4 : decode cJ1_indexOfChar_4cfef 4 = .ok (.iload_n 2, 1) := by decide +kernel
theorem dJ1_indexOfChar_4cfef_5 : decode cJ1_indexOfChar_4cfef 5 = .ok (.istore 5, 2) := by decide +kernel
theorem dJ1_indexOfChar_4cfef_7 : decode cJ1_indexOfChar_4cfef 7 = .ok (.iload 5, 2) := by decide +kernel
theorem dJ1_indexOfChar_4cfef_9 : decode cJ1_indexOfChar_4cfef 9 = .ok (.iload_n 3, 1) := by decide +kernel
theorem dJ1_indexOfChar_4cfef_10 : decode cJ1_indexOfChar_4cfef 10 = .ok (.if_icmp .ge 21, 3) := by decide +kernel
theorem dJ1_indexOfChar_4cfef_13 : decode cJ1_indexOfChar_4cfef 13 = .ok (.aload_n 0, 1) := by decide +kernel
theorem dJ1_indexOfChar_4cfef_14 : decode cJ1_indexOfChar_4cfef 14 = .ok (.iload 5, 2) := by decide +kernel
theorem dJ1_indexOfChar_4cfef_16 : decode cJ1_indexOfChar_4cfef 16 = .ok (.baload, 1) := by decide +kernel
theorem dJ1_indexOfChar_4cfef_17 : decode cJ1_indexOfChar_4cfef 17 = .ok (.iload 4, 2) := by decide +kernel
theorem dJ1_indexOfChar_4cfef_19 : decode cJ1_indexOfChar_4cfef 19 = .ok (.if_icmp .ne 6, 3) := by decide +kernel
theorem dJ1_indexOfChar_4cfef_22 : decode cJ1_indexOfChar_4cfef 22 = .ok (.iload 5, 2) := by decide +kernel
theorem dJ1_indexOfChar_4cfef_24 : decode cJ1_indexOfChar_4cfef 24 = .ok (.ireturn, 1) := by decide +kernel
theorem dJ1_indexOfChar_4cfef_25 : decode cJ1_indexOfChar_4cfef 25 = .ok (.iinc 5 1, 3) := by decide +kernel
theorem dJ1_indexOfChar_4cfef_28 : decode cJ1_indexOfChar_4cfef 28 = .ok (.goto (-21), 3) := by decide +kernel
theorem dJ1_indexOfChar_4cfef_31 : decode cJ1_indexOfChar_4cfef 31 = .ok (.iconst (-1), 1) := by decide +kernel
theorem dJ1_indexOfChar_4cfef_32 : decode cJ1_indexOfChar_4cfef 32 = .ok (.ireturn, 1) := by decide +kernel
set_option maxRecDepth 20000 in
theorem ggJ2_getChar_3b067_J2_length_9d52b : GoodIn wsJ2_getChar_3b067 wsJ2_length_9d52b := goodIn_r _ [7] (by decide +kernel) (by decide +kernel)
set_option maxRecDepth 20000 in
theorem gJ2_getChar_3b067_J2_length_9d52b : GoodIn wsJ2_getChar_3b067 (va_wsS RJ2 48 yJ2_length_9d52b wsJ2_length_9d52b) := goodIn_app (goodIn_of _ (by decide +kernel)) ggJ2_getChar_3b067_J2_length_9d52b
theorem dJ2_getChar_3b067_0 : decode cJ2_getChar_3b067 0 = .ok (.getstatic 44, 3) := by decide +kernel
theorem dJ2_getChar_3b067_3 : decode cJ2_getChar_3b067 3 = .ok (.ifCond .ne 25, 3) := by decide +kernel
theorem dJ2_getChar_3b067_6 : decode cJ2_getChar_3b067 6 = .ok (.iload_n 1, 1) := by decide +kernel
theorem dJ2_getChar_3b067_7 : decode cJ2_getChar_3b067 7 = .ok (.ifCond .lt 11, 3) := by decide +kernel
theorem dJ2_getChar_3b067_10 : decode cJ2_getChar_3b067 10 = .ok (.iload_n 1, 1) := by decide +kernel
theorem dJ2_getChar_3b067_11 : decode cJ2_getChar_3b067 11 = .ok (.aload_n 0, 1) := by decide +kernel
theorem dJ2_getChar_3b067_12 : decode cJ2_getChar_3b067 12 = .ok (.invokestatic 48, 3) := by decide +kernel
theorem dJ2_getChar_3b067_15 : decode cJ2_getChar_3b067 15 = .ok (.if_icmp .lt 13, 3) := by decide +kernel
theorem dJ2_getChar_3b067_18 : decode cJ2_getChar_3b067 18 = .ok (.new 52, 3) := by decide +kernel
theorem dJ2_getChar_3b067_21 : decode cJ2_getChar_3b067 21 = .ok (.dup, 1) := by decide +kernel
theorem dJ2_getChar_3b067_22 : decode cJ2_getChar_3b067 22 = .ok (.ldc 54, 2) := by decide +kernel
theorem dJ2_getChar_3b067_24 : decode cJ2_getChar_3b067 24 = .ok (.invokespecial 56, 3) := by decide +kernel
theorem dJ2_getChar_3b067_27 : decode cJ2_getChar_3b067 27 = .ok (.athrow, 1) := by decide +kernel
theorem dJ2_getChar_3b067_28 : decode cJ2_getChar_3b067 28 = .ok (.iload_n 1, 1) := by decide +kernel
theorem dJ2_getChar_3b067_29 : decode cJ2_getChar_3b067 29 = .ok (.iconst 1, 1) := by decide +kernel
theorem dJ2_getChar_3b067_30 : decode cJ2_getChar_3b067 30 = .ok (.ishl, 1) := by decide +kernel
theorem dJ2_getChar_3b067_31 : decode cJ2_getChar_3b067 31 = .ok (.istore_n 1, 1) := by decide +kernel
theorem dJ2_getChar_3b067_32 : decode cJ2_getChar_3b067 32 = .ok (.aload_n 0, 1) := by decide +kernel
theorem dJ2_getChar_3b067_33 : decode cJ2_getChar_3b067 33 = .ok (.iload_n 1, 1) := by decide +kernel
theorem dJ2_getChar_3b067_34 : decode cJ2_getChar_3b067 34 = .ok (.iinc 1 1, 3) := by decide +kernel
theorem dJ2_getChar_3b067_37 : decode cJ2_getChar_3b067 37 = .ok (.baload, 1) := by decide +kernel
theorem dJ2_getChar_3b067_38 : decode cJ2_getChar_3b067 38 = .ok (.sipush 255, 3) := by decide +kernel
theorem dJ2_getChar_3b067_41 : decode cJ2_getChar_3b067 41 = .ok (.iand, 1) := by decide +kernel
theorem dJ2_getChar_3b067_42 : decode cJ2_getChar_3b067 42 = .ok (.getstatic 59, 3) := by decide +kernel
theorem dJ2_getChar_3b067_45 : decode cJ2_getChar_3b067 45 = .ok (.ishl, 1) := by decide +kernel
theorem dJ2_getChar_3b067_46 : decode cJ2_getChar_3b067 46 = .ok (.aload_n 0, 1) := by decide +kernel
theorem dJ2_getChar_3b067_47 : decode cJ2_getChar_3b067 47 = .ok (.iload_n 1, 1) := by decide +kernel
theorem dJ2_getChar_3b067_48 : decode cJ2_getChar_3b067 48 = .ok (.baload, 1) := by decide +kernel
theorem dJ2_getChar_3b067_49 : decode cJ2_getChar_3b067 49 = .ok (.sipush 255, 3) := by decide +kernel
theorem dJ2_getChar_3b067_52 : decode cJ2_getChar_3b067 52 = .ok (.iand, 1) := by decide +kernel
theorem dJ2_getChar_3b067_53 : decode cJ2_getChar_3b067 53 = .ok (.getstatic 63, 3) := by decide +kernel
theorem dJ2_getChar_3b067_56 : decode cJ2_getChar_3b067 56 = .ok (.ishl, 1) := by decide +kernel
theorem dJ2_getChar_3b067_57 : decode cJ2_getChar_3b067 57 = .ok (.ior, 1) := by decide +kernel
theorem dJ2_getChar_3b067_58 : decode cJ2_getChar_3b067 58 = .ok (.i2c, 1) := by decide +kernel
theorem dJ2_getChar_3b067_59 : decode cJ2_getChar_3b067 59 = .ok (.ireturn, 1) := by decide +kernel
theorem dJ2_length_9d52b_0 : decode cJ2_length_9d52b 0 = .ok (.aload_n 0, 1) := by decide +kernel
theorem dJ2_length_9d52b_1 : decode cJ2_length_9d52b 1 = .ok (.arraylength, 1) := by decide +kernel
theorem dJ2_length_9d52b_2 : decode cJ2_length_9d52b 2 = .ok (.iconst 1, 1) := by decide +kernel
theorem dJ2_length_9d52b_3 : decode cJ2_length_9d52b 3 = .ok (.ishr, 1) := by decide +kernel
theorem dJ2_length_9d52b_4 : decode cJ2_length_9d52b 4 = .ok (.ireturn, 1) := by decide +kernel
set_option maxRecDepth 20000 in
theorem ggJ2_indexOf_4cfef_J2_indexOfChar_4cfef : GoodIn wsJ2_indexOf_4cfef wsJ2_indexOfChar_4cfef := goodIn_r _ [12, 13, 14, 11, 15, 16, 17, 18, 19, 20, 21, 22, 23, 24, 25, 26, 27, 28, 29, 30, 31, 32, 33, 34, 35, 36] (by decide +kernel) (by decide +kernel)
set_option maxRecDepth 20000 in
theorem gJ2_indexOf_4cfef_J2_indexOfChar_4cfef : GoodIn wsJ2_indexOf_4cfef (va_wsS RJ2 228 yJ2_indexOfChar_4cfef wsJ2_indexOfChar_4cfef) := goodIn_app (goodIn_of _ (by decide +kernel)) ggJ2_indexOf_4cfef_J2_indexOfChar_4cfef
set_option maxRecDepth 20000 in
theorem ggJ2_indexOf_4cfef_J2_indexOfSupplementary_4cfef : GoodIn wsJ2_indexOf_4cfef wsJ2_indexOfSupplementary_4cfef := goodIn_r _ [39, 40, 41, 42, 43, 44, 45, 46, 47, 48, 49, 50, 51, 13, 14, 11, 15, 16, 17, 18, 19, 20, 21, 22, 23, 24, 25, 26, 27, 31, 32, 33, 34, 35, 36] (by decide +kernel) (by decide +kernel)
set_option maxRecDepth 20000 in
theorem gJ2_indexOf_4cfef_J2_indexOfSupplementary_4cfef : GoodIn wsJ2_indexOf_4cfef (va_wsS RJ2 232 yJ2_indexOfSupplementary_4cfef wsJ2_indexOfSupplementary_4cfef) := goodIn_app (goodIn_of _ (by decide +kernel)) ggJ2_indexOf_4cfef_J2_indexOfSupplementary_4cfef
theorem dJ2_indexOf_4cfef_0 : decode cJ2_indexOf_4cfef 0 = .ok (.iload_n 2, 1) := by decide +kernel
theorem dJ2_indexOf_4cfef_1 : decode cJ2_indexOf_4cfef 1 = .ok (.iconst 0, 1) := by decide +kernel
theorem dJ2_indexOf_4cfef_2 : decode cJ2_indexOf_4cfef 2 = .ok (.invokestatic 224, 3) := by decide +kernel
theorem dJ2_indexOf_4cfef_5 : decode cJ2_indexOf_4cfef 5 = .ok (.istore_n 2, 1) := by decide +kernel
theorem dJ2_indexOf_4cfef_6 : decode cJ2_indexOf_4cfef 6 = .ok (.iload_n 3, 1) := by decide +kernel
theorem dJ2_indexOf_4cfef_7 : decode cJ2_indexOf_4cfef 7 = .ok (.aload_n 0, 1) := by decide +kernel
theorem dJ2_indexOf_4cfef_8 : decode cJ2_indexOf_4cfef 8 = .ok (.arraylength, 1) := by decide +kernel
theorem dJ2_indexOf_4cfef_9 : decode cJ2_indexOf_4cfef 9 = .ok (.iconst 1, 1) := by decide +kernel
theorem dJ2_indexOf_4cfef_10 : decode cJ2_indexOf_4cfef 10 = .ok (.ishr, 1) := by decide +kernel
theorem dJ2_indexOf_4cfef_11 : decode cJ2_indexOf_4cfef 11 = .ok (.invokestatic 183, 3) := by decide +kernel
theorem dJ2_indexOf_4cfef_14 : decode cJ2_indexOf_4cfef 14 = .ok (.istore_n 3, 1) := by decide +kernel
theorem dJ2_indexOf_4cfef_15 : decode cJ2_indexOf_4cfef 15 = .ok (.iload_n 2, 1) := by decide +kernel
theorem dJ2_indexOf_4cfef_16 : decode cJ2_indexOf_4cfef 16 = .ok (.iload_n 3, 1) := by decide +kernel
theorem dJ2_indexOf_4cfef_17 : decode cJ2_indexOf_4cfef 17 = .ok (.if_icmp .lt 5, 3) := by decide +kernel
theorem dJ2_indexOf_4cfef_20 : decode cJ2_indexOf_4cfef 20 = .ok (.iconst (-1), 1) := by decide +kernel
theorem dJ2_indexOf_4cfef_21 : decode cJ2_indexOf_4cfef 21 = .ok (.ireturn, 1) := by decide +kernel
theorem dJ2_indexOf_4cfef_22 : decode cJ2_indexOf_4cfef 22 = .ok (.iload_n 1, 1) := by decide +kernel
theorem dJ2_indexOf_4cfef_23 : decode cJ2_indexOf_4cfef 23 = .ok (.ldc 227, 2) := by decide +kernel
theorem dJ2_indexOf_4cfef_25 : decode cJ2_indexOf_4cfef 25 = .ok (.if_icmp .ge 11, 3) := by decide +kernel
theorem dJ2_indexOf_4cfef_28 : decode cJ2_indexOf_4cfef 28 = .ok (.aload_n 0, 1) := by decide +kernel
theorem dJ2_indexOf_4cfef_29 : decode cJ2_indexOf_4cfef 29 = .ok (.iload_n 1, 1) := by decide +kernel
theorem dJ2_indexOf_4cfef_30 : decode cJ2_indexOf_4cfef 30 = .ok (.iload_n 2, 1) := by decide +kernel
theorem dJ2_indexOf_4cfef_31 : decode cJ2_indexOf_4cfef 31 = .ok (.iload_n 3, 1) := by decide +kernel
theorem dJ2_indexOf_4cfef_32 : decode cJ2_indexOf_4cfef 32 = .ok (.invokestatic 228, 3) := by decide +kernel
theorem dJ2_indexOf_4cfef_35 : decode cJ2_indexOf_4cfef 35 = .ok (.ireturn, 1) := by decide +kernel
theorem dJ2_indexOf_4cfef_36 : decode cJ2_indexOf_4cfef 36 = .ok (.aload_n 0, 1) := by decide +kernel
theorem dJ2_indexOf_4cfef_37 : decode cJ2_indexOf_4cfef 37 = .ok (.iload_n 1, 1) := by decide +kernel
theorem dJ2_indexOf_4cfef_38 : decode cJ2_indexOf_4cfef 38 = .ok (.iload_n 2, 1) := by decide +kernel
theorem dJ2_indexOf_4cfef_39 : decode cJ2_indexOf_4cfef 39 = .ok (.iload_n 3, 1) := by decide +kernel
theorem dJ2_indexOf_4cfef_40 : decode cJ2_indexOf_4cfef 40 = .ok (.invokestatic 232, 3) := by decide +kernel
theorem dJ2_indexOf_4cfef_43 : decode cJ2_indexOf_4cfef 43 = .ok (.ireturn, 1) := by decide +kernel
set_option maxRecDepth 20000 in
theorem ggJ2_indexOfChar_4cfef_J2_checkBoundsBeginEnd_d044e : GoodIn wsJ2_indexOfChar_4cfef wsJ2_checkBoundsBeginEnd_d044e := goodIn_r _ [4, 5, 6, 3, 7, 8, 9, 10, 11, 12, 13, 14, 15, 16] (by decide +kernel) (by decide +kernel)
set_option maxRecDepth 20000 in
theorem gJ2_indexOfChar_4cfef_J2_checkBoundsBeginEnd_d044e : GoodIn wsJ2_indexOfChar_4cfef (va_wsS RJ2 96 yJ2_checkBoundsBeginEnd_d044e wsJ2_checkBoundsBeginEnd_d044e) := goodIn_app (goodIn_of _ (by decide +kernel)) ggJ2_indexOfChar_4cfef_J2_checkBoundsBeginEnd_d044e
set_option maxRecDepth 20000 in
theorem ggJ2_indexOfChar_4cfef_J2_indexOfCharUnsafe_4cfef : GoodIn wsJ2_indexOfChar_4cfef wsJ2_indexOfCharUnsafe_4cfef := goodIn_r _ [19, 20, 21, 3, 22, 23, 24, 25, 5, 6, 7] (by decide +kernel) (by decide +kernel)
set_option maxRecDepth 20000 in
theorem gJ2_indexOfChar_4cfef_J2_indexOfCharUnsafe_4cfef : GoodIn wsJ2_indexOfChar_4cfef (va_wsS RJ2 244 yJ2_indexOfCharUnsafe_4cfef wsJ2_indexOfCharUnsafe_4cfef) := goodIn_app (goodIn_of _ (by decide +kernel)) ggJ2_indexOfChar_4cfef_J2_indexOfCharUnsafe_4cfef
theorem dJ2_indexOfChar_4cfef_0 : decode cJ2_indexOfChar_4cfef 0 = .ok (.iload_n 2, 1) := by decide +kernel
theorem dJ2_indexOfChar_4cfef_1 : decode cJ2_indexOfChar_4cfef 1 = .ok (.iload_n 3, 1) := by decide +kernel
theorem dJ2_indexOfChar_4cfef_2 : decode cJ2_indexOfChar_4cfef 2 = .ok (.aload_n 0, 1) := by decide +kernel
theorem dJ2_indexOfChar_4cfef_3 : decode cJ2_indexOfChar_4cfef 3 = .ok (.invokestatic 96, 3) := by decide +kernel
theorem dJ2_indexOfChar_4cfef_6 : decode cJ2_indexOfChar_4cfef 6 = .ok (.aload_n 0, 1) := by decide +kernel
theorem dJ2_indexOfChar_4cfef_7 : decode cJ2_indexOfChar_4cfef 7 = .ok (.iload_n 1, 1) := by decide +kernel
theorem dJ2_indexOfChar_4cfef_8 : decode cJ2_indexOfChar_4cfef 8 = .ok (.iload_n 2, 1) := by decide +kernel
theorem dJ2_indexOfChar_4cfef_9 : decode cJ2_indexOfChar_4cfef 9 = .ok (.iload_n 3, 1) := by decide +kernel
theorem dJ2_indexOfChar_4cfef_10 : decode cJ2_indexOfChar_4cfef 10 = .ok (.invokestatic 244, 3) := by decide +kernel
theorem dJ2_indexOfChar_4cfef_13 : decode cJ2_indexOfChar_4cfef 13 = .ok (.ireturn, 1) := by decide +kernel
set_option maxRecDepth 20000 in
theorem ggJ2_indexOfCharUnsafe_4cfef_J2_getChar_3b067 : GoodIn wsJ2_indexOfCharUnsafe_4cfef wsJ2_getChar_3b067 := goodIn_r _ [4, 5, 6, 7, 8, 9, 3, 10] (by decide +kernel) (by decide +kernel)
set_option maxRecDepth 20000 in
theorem gJ2_indexOfCharUnsafe_4cfef_J2_getChar_3b067 : GoodIn wsJ2_indexOfCharUnsafe_4cfef (va_wsS RJ2 71 yJ2_getChar_3b067 wsJ2_getChar_3b067) := goodIn_app (goodIn_of _ (by decide +kernel)) ggJ2_indexOfCharUnsafe_4cfef_J2_getChar_3b067
theorem dJ2_indexOfCharUnsafe_4cfef_0 : decode cJ2_indexOfCharUnsafe_4cfef 0 = .ok (.iload_n 2, 1) := by decide +kernel
theorem dJ2_indexOfCharUnsafe_4cfef_1 : decode cJ2_indexOfCharUnsafe_4cfef 1 = .ok (.istore 4, 2) := by decide +kernel
theorem dJ2_indexOfCharUnsafe_4cfef_3 : decode cJ2_indexOfCharUnsafe_4cfef 3 = .ok (.iload 4, 2) := by decide +kernel
theorem dJ2_indexOfCharUnsafe_4cfef_5 : decode cJ2_indexOfCharUnsafe_4cfef 5 = .ok (.iload_n 3, 1) := by decide +kernel
theorem dJ2_indexOfCharUnsafe_4cfef_6 : decode cJ2_indexOfCharUnsafe_4cfef 6 = .ok (.if_icmp .ge 22, 3) := by decide +kernel
theorem dJ2_indexOfCharUnsafe_4cfef_9 : decode cJ2_indexOfCharUnsafe_4cfef 9 = .ok (.aload_n 0, 1) := by decide +kernel
theorem dJ2_indexOfCharUnsafe_4cfef_10 : decode cJ2_indexOfCharUnsafe_4cfef 10 = .ok (.iload 4, 2) := by decide +kernel
theorem dJ2_indexOfCharUnsafe_4cfef_12 : decode cJ2_indexOfCharUnsafe_4cfef 12 = .ok (.invokestatic 71, 3) := by decide +kernel
theorem dJ2_indexOfCharUnsafe_4cfef_15 : decode cJ2_indexOfCharUnsafe_4cfef 15 = .ok (.iload_n 1, 1) := by decide +kernel
theorem dJ2_indexOfCharUnsafe_4cfef_16 : decode cJ2_indexOfCharUnsafe_4cfef 16 = .ok (.if_icmp .ne 6, 3) := by decide +kernel
theorem dJ2_indexOfCharUnsafe_4cfef_19 : decode cJ2_indexOfCharUnsafe_4cfef 19 = .ok (.iload 4, 2) := by decide +kernel
theorem dJ2_indexOfCharUnsafe_4cfef_21 : decode cJ2_indexOfCharUnsafe_4cfef 21 = .ok (.ireturn, 1) := by decide +kernel
theorem dJ2_indexOfCharUnsafe_4cfef_22 : decode cJ2_indexOfCharUnsafe_4cfef 22 = .ok (.iinc 4 1, 3) := by decide +kernel
theorem dJ2_indexOfCharUnsafe_4cfef_25 : decode cJ2_indexOfCharUnsafe_4cfef 25 = .ok (.goto (-22), 3) := by decide +kernel
theorem dJ2_indexOfCharUnsafe_4cfef_28 : decode cJ2_indexOfCharUnsafe_4cfef 28 = .ok (.iconst (-1), 1) := by decide +kernel
theorem dJ2_indexOfCharUnsafe_4cfef_29 : decode cJ2_indexOfCharUnsafe_4cfef 29 = .ok (.ireturn, 1) := by decide +kernel
set_option maxRecDepth 20000 in
theorem ggJ2_indexOfSupplementary_4cfef_J11_isValidCodePoint_9a6ad : GoodIn wsJ2_indexOfSupplementary_4cfef wsJ11_isValidCodePoint_9a6ad := goodIn_r _ [4] (by decide +kernel) (by decide +kernel)
set_option maxRecDepth 20000 in
theorem gJ2_indexOfSupplementary_4cfef_J11_isValidCodePoint_9a6ad : GoodIn wsJ2_indexOfSupplementary_4cfef (va_wsS RJ2 164 yJ11_isValidCodePoint_9a6ad wsJ11_isValidCodePoint_9a6ad) := goodIn_app (goodIn_of _ (by decide +kernel)) ggJ2_indexOfSupplementary_4cfef_J11_isValidCodePoint_9a6ad
set_option maxRecDepth 20000 in
theorem ggJ2_indexOfSupplementary_4cfef_J11_highSurrogate_5068e : GoodIn wsJ2_indexOfSupplementary_4cfef wsJ11_highSurrogate_5068e := goodIn_r _ [7, 8] (by decide +kernel) (by decide +kernel)
set_option maxRecDepth 20000 in
theorem gJ2_indexOfSupplementary_4cfef_J11_highSurrogate_5068e : GoodIn wsJ2_indexOfSupplementary_4cfef (va_wsS RJ2 157 yJ11_highSurrogate_5068e wsJ11_highSurrogate_5068e) := goodIn_app (goodIn_of _ (by decide +kernel)) ggJ2_indexOfSupplementary_4cfef_J11_highSurrogate_5068e
set_option maxRecDepth 20000 in
theorem ggJ2_indexOfSupplementary_4cfef_J11_lowSurrogate_5068e : GoodIn wsJ2_indexOfSupplementary_4cfef wsJ11_lowSurrogate_5068e := goodIn_r _ [11, 12] (by decide +kernel) (by decide +kernel)
set_option maxRecDepth 20000 in
theorem gJ2_indexOfSupplementary_4cfef_J11_lowSurrogate_5068e : GoodIn wsJ2_indexOfSupplementary_4cfef (va_wsS RJ2 161 yJ11_lowSurrogate_5068e wsJ11_lowSurrogate_5068e) := goodIn_app (goodIn_of _ (by decide +kernel)) ggJ2_indexOfSupplementary_4cfef_J11_lowSurrogate_5068e
set_option maxRecDepth 20000 in
theorem ggJ2_indexOfSupplementary_4cfef_J2_checkBoundsBeginEnd_d044e : GoodIn wsJ2_indexOfSupplementary_4cfef wsJ2_checkBoundsBeginEnd_d044e := goodIn_r _ [16, 17, 18, 15, 19, 20, 21, 22, 23, 24, 25, 26, 27, 28] (by decide +kernel) (by decide +kernel)
set_option maxRecDepth 20000 in
theorem gJ2_indexOfSupplementary_4cfef_J2_checkBoundsBeginEnd_d044e : GoodIn wsJ2_indexOfSupplementary_4cfef (va_wsS RJ2 96 yJ2_checkBoundsBeginEnd_d044e wsJ2_checkBoundsBeginEnd_d044e) := goodIn_app (goodIn_of _ (by decide +kernel)) ggJ2_indexOfSupplementary_4cfef_J2_checkBoundsBeginEnd_d044e
set_option maxRecDepth 20000 in
theorem ggJ2_indexOfSupplementary_4cfef_J2_getChar_3b067 : GoodIn wsJ2_indexOfSupplementary_4cfef wsJ2_getChar_3b067 := goodIn_r _ [31, 32, 33, 34, 17, 18, 15, 19] (by decide +kernel) (by decide +kernel)
set_option maxRecDepth 20000 in
theorem gJ2_indexOfSupplementary_4cfef_J2_getChar_3b067 : GoodIn wsJ2_indexOfSupplementary_4cfef (va_wsS RJ2 71 yJ2_getChar_3b067 wsJ2_getChar_3b067) := goodIn_app (goodIn_of _ (by decide +kernel)) ggJ2_indexOfSupplementary_4cfef_J2_getChar_3b067
theorem dJ2_indexOfSupplementary_4cfef_0 : decode cJ2_indexOfSupplementary_4cfef 0 = .ok (.iload_n 1, 1) := by decide +kernel
theorem dJ2_indexOfSupplementary_4cfef_1 : decode cJ2_indexOfSupplementary_4cfef 1 = .ok (.invokestatic 164, 3) := by decide +kernel
theorem dJ2_indexOfSupplementary_4cfef_4 : decode cJ2_indexOfSupplementary_4cfef 4 = .ok (.ifCond .eq 65, 3) := by decide +kernel
theorem dJ2_indexOfSupplementary_4cfef_7 : decode cJ2_indexOfSupplementary_4cfef 7 = .ok (.iload_n 1, 1) := by decide +kernel
theorem dJ2_indexOfSupplementary_4cfef_8 : decode cJ2_indexOfSupplementary_4cfef 8 = .ok (.invokestatic 157, 3) := by decide +kernel
theorem dJ2_indexOfSupplementary_4cfef_11 : decode cJ2_indexOfSupplementary_4cfef 11 = .ok (.istore 4, 2) := by decide +kernel
theorem dJ2_indexOfSupplementary_4cfef_13 : decode cJ2_indexOfSupplementary_4cfef 13 = .ok (.iload_n 1, 1) := by decide +kernel
theorem dJ2_indexOfSupplementary_4cfef_14 : decode cJ2_indexOfSupplementary_4cfef 14 = .ok (.invokestatic 161, 3) := by decide +kernel
theorem dJ2_indexOfSupplementary_4cfef_17 : decode cJ2_indexOfSupplementary_4cfef 17 = .ok (.istore 5, 2) := by decide +kernel
theorem dJ2_indexOfSupplementary_4cfef_19 : decode cJ2_indexOfSupplementary_4cfef 19 = .ok (.iload_n 2, 1) := by decide +kernel
theorem dJ2_indexOfSupplementary_4cfef_20 : decode cJ2_indexOfSupplementary_4cfef 20 = .ok (.iload_n 3, 1) := by decide +kernel
theorem dJ2_indexOfSupplementary_4cfef_21 : decode cJ2_indexOfSupplementary_4cfef 21 = .ok (.aload_n 0, 1) := by decide +kernel
theorem dJ2_indexOfSupplementary_4cfef_22 : decode cJ2_indexOfSupplementary_4cfef 22 = .ok (.invokestatic 96, 3) := by decide +kernel
theorem dJ2_indexOfSupplementary_4cfef_25 : decode cJ2_indexOfSupplementary_4cfef 25 = .ok (.iload_n 2, 1) := by decide +kernel
theorem dJ2_indexOfSupplementary_4cfef_26 : decode cJ2_indexOfSupplementary_4cfef 26 = .ok (.istore 6, 2) := by decide +kernel
theorem dJ2_indexOfSupplementary_4cfef_28 : decode cJ2_indexOfSupplementary_4cfef 28 = .ok (.iload 6, 2) := by decide +kernel
theorem dJ2_indexOfSupplementary_4cfef_30 : decode cJ2_indexOfSupplementary_4cfef 30 = .ok (.iload_n 3, 1) := by decide +kernel
theorem dJ2_indexOfSupplementary_4cfef_31 : decode cJ2_indexOfSupplementary_4cfef 31 = .ok (.iconst 1, 1) := by decide +kernel
theorem dJ2_indexOfSupplementary_4cfef_32 : decode cJ2_indexOfSupplementary_4cfef 32 = .ok (.isub, 1) := by decide +kernel
theorem dJ2_indexOfSupplementary_4cfef_33 : decode cJ2_indexOfSupplementary_4cfef 33 = .ok (.if_icmp .ge 36, 3) := by decide +kernel
theorem dJ2_indexOfSupplementary_4cfef_36 : decode cJ2_indexOfSupplementary_4cfef 36 = .ok (.aload_n 0, 1) := by decide +kernel
theorem dJ2_indexOfSupplementary_4cfef_37 : decode cJ2_indexOfSupplementary_4cfef 37 = .ok (.iload 6, 2) := by decide +kernel
theorem dJ2_indexOfSupplementary_4cfef_39 : decode cJ2_indexOfSupplementary_4cfef 39 = .ok (.invokestatic 71, 3) := by decide +kernel
theorem dJ2_indexOfSupplementary_4cfef_42 : decode cJ2_indexOfSupplementary_4cfef 42 = .ok (.iload 4, 2) := by decide +kernel
theorem dJ2_indexOfSupplementary_4cfef_44 : decode cJ2_indexOfSupplementary_4cfef 44 = .ok (.if_icmp .ne 19, 3) := by decide +kernel
theorem dJ2_indexOfSupplementary_4cfef_47 : decode cJ2_indexOfSupplementary_4cfef 47 = .ok (.aload_n 0, 1) := by decide +kernel
theorem dJ2_indexOfSupplementary_4cfef_48 : decode cJ2_indexOfSupplementary_4cfef 48 = .ok (.iload 6, 2) := by decide +kernel
theorem dJ2_indexOfSupplementary_4cfef_50 : decode cJ2_indexOfSupplementary_4cfef 50 = .ok (.iconst 1, 1) := by decide +kernel
theorem dJ2_indexOfSupplementary_4cfef_51 : decode cJ2_indexOfSupplementary_4cfef 51 = .ok (.iadd, 1) := by decide +kernel
theorem dJ2_indexOfSupplementary_4cfef_52 : decode cJ2_indexOfSupplementary_4cfef 52 = .ok (.invokestatic 71, 3) := by decide +kernel
theorem dJ2_indexOfSupplementary_4cfef_55 : decode cJ2_indexOfSupplementary_4cfef 55 = .ok (.iload 5, 2) := by decide +kernel
theorem dJ2_indexOfSupplementary_4cfef_57 : decode cJ2_indexOfSupplementary_4cfef 57 = .ok (.if_icmp .ne 6, 3) := by decide +kernel
theorem dJ2_indexOfSupplementary_4cfef_60 : decode cJ2_indexOfSupplementary_4cfef 60 = .ok (.iload 6, 2) := by decide +kernel
theorem dJ2_indexOfSupplementary_4cfef_62 : decode cJ2_indexOfSupplementary_4cfef 62 = .ok (.ireturn, 1) := by decide +kernel
theorem dJ2_indexOfSupplementary_4cfef_63 : decode cJ2_indexOfSupplementary_4cfef 63 = .ok (.iinc 6 1, 3) := by decide +kernel
theorem dJ2_indexOfSupplementary_4cfef_66 : decode cJ2_indexOfSupplementary_4cfef 66 = .ok (.goto (-38), 3) := by decide +kernel
theorem dJ2_indexOfSupplementary_4cfef_69 : decode cJ2_indexOfSupplementary_4cfef 69 = .ok (.iconst (-1), 1) := by decide +kernel
theorem dJ2_indexOfSupplementary_4cfef_70 : decode cJ2_indexOfSupplementary_4cfef 70 = .ok (.ireturn, 1) := by decide +kernel
set_option maxRecDepth 20000 in
theorem ggJ2_checkBoundsBeginEnd_d044e_J2_length_9d52b : GoodIn wsJ2_checkBoundsBeginEnd_d044e wsJ2_length_9d52b := goodIn_r _ [4] (by decide +kernel) (by decide +kernel)
set_option maxRecDepth 20000 in
theorem gJ2_checkBoundsBeginEnd_d044e_J2_length_9d52b : GoodIn wsJ2_checkBoundsBeginEnd_d044e (va_wsS RJ2 48 yJ2_length_9d52b wsJ2_length_9d52b) := goodIn_app (goodIn_of _ (by decide +kernel)) ggJ2_checkBoundsBeginEnd_d044e_J2_length_9d52b
set_option maxRecDepth 20000 in
theorem ggJ2_checkBoundsBeginEnd_d044e_J0_checkBoundsBeginEnd_23922 : GoodIn wsJ2_checkBoundsBeginEnd_d044e wsJ0_checkBoundsBeginEnd_23922 := goodIn_r _ [8, 9, 10, 11, 12, 13] (by decide +kernel) (by decide +kernel)
set_option maxRecDepth 20000 in
theorem gJ2_checkBoundsBeginEnd_d044e_J0_checkBoundsBeginEnd_23922 : GoodIn wsJ2_checkBoundsBeginEnd_d044e (va_wsS RJ2 241 yJ0_checkBoundsBeginEnd_23922 wsJ0_checkBoundsBeginEnd_23922) := goodIn_app (goodIn_of _ (by decide +kernel)) ggJ2_checkBoundsBeginEnd_d044e_J0_checkBoundsBeginEnd_23922
theorem dJ2_checkBoundsBeginEnd_d044e_0 : decode cJ2_checkBoundsBeginEnd_d044e 0 = .ok (.iload_n 0, 1) := by decide +kernel
theorem dJ2_checkBoundsBeginEnd_d044e_1 : decode cJ2_checkBoundsBeginEnd_d044e 1 = .ok (.iload_n 1, 1) := by decide +kernel
theorem dJ2_checkBoundsBeginEnd_d044e_2 : decode cJ2_checkBoundsBeginEnd_d044e 2 = .ok (.aload_n 2, 1) := by decide +kernel
theorem dJ2_checkBoundsBeginEnd_d044e_3 : decode cJ2_checkBoundsBeginEnd_d044e 3 = .ok (.invokestatic 48, 3) := by decide +kernel
theorem dJ2_checkBoundsBeginEnd_d044e_6 : decode cJ2_checkBoundsBeginEnd_d044e 6 = .ok (.invokestatic 241, 3) := by decide +kernel
theorem dJ2_checkBoundsBeginEnd_d044e_9 : decode cJ2_checkBoundsBeginEnd_d044e 9 = .ok (.return_, 1) := by decide +kernel
theorem dJ3_checkFromToIndex_8c36e_0 : decode cJ3_checkFromToIndex_8c36e 0 = .ok (.iload_n 0, 1) := by decide +kernel
theorem dJ3_checkFromToIndex_8c36e_1 : decode cJ3_checkFromToIndex_8c36e 1 = .ok (.ifCond .lt 13, 3) := by decide +kernel
theorem dJ3_checkFromToIndex_8c36e_4 : decode cJ3_checkFromToIndex_8c36e 4 = .ok (.iload_n 0, 1) := by decide +kernel
theorem dJ3_checkFromToIndex_8c36e_5 : decode cJ3_checkFromToIndex_8c36e 5 = .ok (.iload_n 1, 1) := by decide +kernel
theorem dJ3_checkFromToIndex_8c36e_6 : decode cJ3_checkFromToIndex_8c36e 6 = .ok (.if_icmp .gt 8, 3) := by decide +kernel
theorem dJ3_checkFromToIndex_8c36e_9 : decode cJ3_checkFromToIndex_8c36e 9 = .ok (.iload_n 1, 1) := by decide +kernel
theorem dJ3_checkFromToIndex_8c36e_10 : decode cJ3_checkFromToIndex_8c36e 10 = .ok (.iload_n 2, 1) := by decide +kernel
theorem dJ3_checkFromToIndex_8c36e_11 : decode cJ3_checkFromToIndex_8c36e 11 = .ok (.if_icmp .le 11, 3) := by decide +kernel
theorem dJ3_checkFromToIndex_8c36e_14 : decode cJ3_checkFromToIndex_8c36e 14 = .ok (.aload_n 3, 1) := by decide +kernel
theorem dJ3_checkFromToIndex_8c36e_15 : decode cJ3_checkFromToIndex_8c36e 15 = .ok (.iload_n 0, 1) := by decide +kernel
theorem dJ3_checkFromToIndex_8c36e_16 : decode cJ3_checkFromToIndex_8c36e 16 = .ok (.iload_n 1, 1) := by decide +kernel
theorem dJ3_checkFromToIndex_8c36e_17 : decode cJ3_checkFromToIndex_8c36e 17 = .ok (.iload_n 2, 1) := by decide +kernel
theorem dJ3_checkFromToIndex_8c36e_18 : decode cJ3_checkFromToIndex_8c36e 18 = .ok (.invokestatic 99, 3) := by decide +kernel
theorem dJ3_checkFromToIndex_8c36e_21 : decode cJ3_checkFromToIndex_8c36e 21 = .ok (.athrow, 1) := by decide +kernel
theorem dJ3_checkFromToIndex_8c36e_22 : decode cJ3_checkFromToIndex_8c36e 22 = .ok (.iload_n 0, 1) := by decide +kernel
theorem dJ3_checkFromToIndex_8c36e_23 : decode cJ3_checkFromToIndex_8c36e 23 = .ok (.ireturn, 1) := by decide +kernel
abbrev vwCl : List vw_C := [(RX0, TX0, 9), (RX1, TX1, 4), (RX2, TX2, 9), (RX3, TX3, 4), (RX4, TX4, 3), (RX5, TX5, 9), (RX6, TX6, 2), (RX7, TX7, 8), (RX8, TX8, 18)]
