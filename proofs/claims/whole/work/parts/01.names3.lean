theorem dX7_answer_38 : decode cX7_answer 38 = .ok (.if_icmp .lt 6, 3) := by decide +kernel
theorem dX7_answer_41 : decode cX7_answer 41 = .ok (.bipush (-3), 2) := by decide +kernel
theorem dX7_answer_43 : decode cX7_answer 43 = .ok (.ireturn, 1) := by decide +kernel
theorem dX7_answer_44 : decode cX7_answer 44 = .ok (.aload_n 0, 1) := by decide +kernel
theorem dX7_answer_45 : decode cX7_answer 45 = .ok (.getfield 12, 3) := by decide +kernel
theorem dX7_answer_48 : decode cX7_answer 48 = .ok (.invokevirtual 144, 3) := by decide +kernel
theorem dX7_answer_51 : decode cX7_answer 51 = .ok (.aload_n 0, 1) := by decide +kernel
theorem dX7_answer_52 : decode cX7_answer 52 = .ok (.getfield 12, 3) := by decide +kernel
theorem dX7_answer_55 : decode cX7_answer 55 = .ok (.aload_n 0, 1) := by decide +kernel
theorem dX7_answer_56 : decode cX7_answer 56 = .ok (.getfield 12, 3) := by decide +kernel
theorem dX7_answer_59 : decode cX7_answer 59 = .ok (.aload_n 0, 1) := by decide +kernel
theorem dX7_answer_60 : decode cX7_answer 60 = .ok (.getfield 12, 3) := by decide +kernel
theorem dX7_answer_63 : decode cX7_answer 63 = .ok (.getfield 103, 3) := by decide +kernel
theorem dX7_answer_66 : decode cX7_answer 66 = .ok (.iload_n 1, 1) := by decide +kernel
theorem dX7_answer_67 : decode cX7_answer 67 = .ok (.iaload, 1) := by decide +kernel
theorem dX7_answer_68 : decode cX7_answer 68 = .ok (.aload_n 0, 1) := by decide +kernel
theorem dX7_answer_69 : decode cX7_answer 69 = .ok (.getfield 12, 3) := by decide +kernel
theorem dX7_answer_72 : decode cX7_answer 72 = .ok (.getfield 106, 3) := by decide +kernel
theorem dX7_answer_75 : decode cX7_answer 75 = .ok (.iload_n 1, 1) := by decide +kernel
theorem dX7_answer_76 : decode cX7_answer 76 = .ok (.iaload, 1) := by decide +kernel
theorem dX7_answer_77 : decode cX7_answer 77 = .ok (.iload_n 2, 1) := by decide +kernel
theorem dX7_answer_78 : decode cX7_answer 78 = .ok (.iload_n 3, 1) := by decide +kernel
theorem dX7_answer_79 : decode cX7_answer 79 = .ok (.invokevirtual 147, 3) := by decide +kernel
theorem dX7_answer_82 : decode cX7_answer 82 = .ok (.invokevirtual 151, 3) := by decide +kernel
theorem dX7_answer_85 : decode cX7_answer 85 = .ok (.aload_n 0, 1) := by decide +kernel
theorem dX7_answer_86 : decode cX7_answer 86 = .ok (.getfield 12, 3) := by decide +kernel
theorem dX7_answer_89 : decode cX7_answer 89 = .ok (.getfield 66, 3) := by decide +kernel
theorem dX7_answer_92 : decode cX7_answer 92 = .ok (.getfield 74, 3) := by decide +kernel
theorem dX7_answer_95 : decode cX7_answer 95 = .ok (.ireturn, 1) := by decide +kernel
set_option maxRecDepth 20000 in
theorem ggX7_drink_X7_isTaster : GoodIn wsX7_drink wsX7_isTaster := goodIn_r _ [9, 1, 10, 84, 85, 86, 87, 88, 89, 90, 91, 92, 93, 94, 95, 96, 97, 98, 99, 100] (by decide +kernel) (by decide +kernel)
set_option maxRecDepth 20000 in
theorem gX7_drink_X7_isTaster : GoodIn wsX7_drink (wsV RX7 97 RX7 yX7_isTaster wsX7_isTaster) := goodIn_app (goodIn_of _ (by decide +kernel)) ggX7_drink_X7_isTaster
set_option maxRecDepth 20000 in
theorem ggX7_drink_X7_isMix : GoodIn wsX7_drink wsX7_isMix := goodIn_r _ [14, 1, 15, 16, 17, 18, 19, 20, 84, 85, 86, 87, 88, 89, 90, 91, 92, 93, 94, 95, 96, 97, 98, 99, 100] (by decide +kernel) (by decide +kernel)
set_option maxRecDepth 20000 in
theorem gX7_drink_X7_isMix : GoodIn wsX7_drink (wsV RX7 109 RX7 yX7_isMix wsX7_isMix) := goodIn_app (goodIn_of _ (by decide +kernel)) ggX7_drink_X7_isMix
set_option maxRecDepth 20000 in
theorem ggX7_drink_X0_remember : GoodIn wsX7_drink wsX0_remember := goodIn_r _ [24, 25, 26, 27, 28, 29, 30, 31, 32, 33, 34, 35, 36, 37, 38, 39, 40, 41, 92, 93, 94, 95, 96, 97, 98, 99, 100, 101, 102, 103, 104] (by decide +kernel) (by decide +kernel)
set_option maxRecDepth 20000 in
theorem gX7_drink_X0_remember : GoodIn wsX7_drink (wsV RX7 144 RX0 yX0_remember wsX0_remember) := goodIn_app (goodIn_of _ (by decide +kernel)) ggX7_drink_X0_remember
set_option maxRecDepth 20000 in
theorem ggX7_drink_X0_swallow : GoodIn wsX7_drink wsX0_swallow := goodIn_r _ [45, 27, 46, 47, 48, 49, 18, 50, 51, 52, 53, 54, 55, 56, 57, 58, 59, 60, 61, 20, 62, 63, 64, 65, 66, 67, 68, 69, 70, 71, 72, 73, 74, 75, 76, 77, 78, 16, 17, 19, 79, 80, 81, 82, 83, 92, 93, 94, 95, 96, 97, 98, 99, 100, 101, 102, 103, 104] (by decide +kernel) (by decide +kernel)
set_option maxRecDepth 20000 in
theorem gX7_drink_X0_swallow : GoodIn wsX7_drink (wsV RX7 154 RX0 yX0_swallow wsX0_swallow) := goodIn_app (goodIn_of _ (by decide +kernel)) ggX7_drink_X0_swallow
theorem dX7_drink_0 : decode cX7_drink 0 = .ok (.aload_n 0, 1) := by decide +kernel
theorem dX7_drink_1 : decode cX7_drink 1 = .ok (.iload_n 1, 1) := by decide +kernel
theorem dX7_drink_2 : decode cX7_drink 2 = .ok (.invokevirtual 97, 3) := by decide +kernel
theorem dX7_drink_5 : decode cX7_drink 5 = .ok (.ifCond .eq 11, 3) := by decide +kernel
theorem dX7_drink_8 : decode cX7_drink 8 = .ok (.aload_n 0, 1) := by decide +kernel
theorem dX7_drink_9 : decode cX7_drink 9 = .ok (.iload_n 2, 1) := by decide +kernel
theorem dX7_drink_10 : decode cX7_drink 10 = .ok (.invokevirtual 109, 3) := by decide +kernel
theorem dX7_drink_13 : decode cX7_drink 13 = .ok (.ifCond .ne 5, 3) := by decide +kernel
theorem dX7_drink_16 : decode cX7_drink 16 = .ok (.iconst (-1), 1) := by decide +kernel
theorem dX7_drink_17 : decode cX7_drink 17 = .ok (.ireturn, 1) := by decide +kernel
theorem dX7_drink_18 : decode cX7_drink 18 = .ok (.aload_n 0, 1) := by decide +kernel
theorem dX7_drink_19 : decode cX7_drink 19 = .ok (.getfield 12, 3) := by decide +kernel
theorem dX7_drink_22 : decode cX7_drink 22 = .ok (.getfield 66, 3) := by decide +kernel
theorem dX7_drink_25 : decode cX7_drink 25 = .ok (.getfield 134, 3) := by decide +kernel
theorem dX7_drink_28 : decode cX7_drink 28 = .ok (.sipush 9999, 3) := by decide +kernel
theorem dX7_drink_31 : decode cX7_drink 31 = .ok (.if_icmp .lt 6, 3) := by decide +kernel
theorem dX7_drink_34 : decode cX7_drink 34 = .ok (.bipush (-3), 2) := by decide +kernel
theorem dX7_drink_36 : decode cX7_drink 36 = .ok (.ireturn, 1) := by decide +kernel
theorem dX7_drink_37 : decode cX7_drink 37 = .ok (.aload_n 0, 1) := by decide +kernel
theorem dX7_drink_38 : decode cX7_drink 38 = .ok (.getfield 12, 3) := by decide +kernel
theorem dX7_drink_41 : decode cX7_drink 41 = .ok (.getfield 66, 3) := by decide +kernel
theorem dX7_drink_44 : decode cX7_drink 44 = .ok (.getfield 137, 3) := by decide +kernel
theorem dX7_drink_47 : decode cX7_drink 47 = .ok (.bipush (-4), 2) := by decide +kernel
theorem dX7_drink_49 : decode cX7_drink 49 = .ok (.if_icmp .ne 6, 3) := by decide +kernel
theorem dX7_drink_52 : decode cX7_drink 52 = .ok (.bipush (-2), 2) := by decide +kernel
theorem dX7_drink_54 : decode cX7_drink 54 = .ok (.ireturn, 1) := by decide +kernel
theorem dX7_drink_55 : decode cX7_drink 55 = .ok (.aload_n 0, 1) := by decide +kernel
theorem dX7_drink_56 : decode cX7_drink 56 = .ok (.getfield 12, 3) := by decide +kernel
theorem dX7_drink_59 : decode cX7_drink 59 = .ok (.invokevirtual 144, 3) := by decide +kernel
theorem dX7_drink_62 : decode cX7_drink 62 = .ok (.aload_n 0, 1) := by decide +kernel
theorem dX7_drink_63 : decode cX7_drink 63 = .ok (.getfield 12, 3) := by decide +kernel
theorem dX7_drink_66 : decode cX7_drink 66 = .ok (.iload_n 1, 1) := by decide +kernel
theorem dX7_drink_67 : decode cX7_drink 67 = .ok (.iload_n 2, 1) := by decide +kernel
theorem dX7_drink_68 : decode cX7_drink 68 = .ok (.invokevirtual 154, 3) := by decide +kernel
theorem dX7_drink_71 : decode cX7_drink 71 = .ok (.ireturn, 1) := by decide +kernel
set_option maxRecDepth 20000 in
theorem ggX7_forget_X0_allCows : GoodIn wsX7_forget wsX0_allCows := goodIn_r _ [9, 10, 40, 41, 42, 43, 44, 45, 46, 47, 48] (by decide +kernel) (by decide +kernel)
set_option maxRecDepth 20000 in
theorem gX7_forget_X0_allCows : GoodIn wsX7_forget (wsV RX7 70 RX0 yX0_allCows wsX0_allCows) := goodIn_app (goodIn_of _ (by decide +kernel)) ggX7_forget_X0_allCows
set_option maxRecDepth 20000 in
theorem ggX7_forget_X0_remember : GoodIn wsX7_forget wsX0_remember := goodIn_r _ [14, 15, 16, 17, 18, 19, 20, 21, 22, 23, 24, 25, 26, 27, 28, 29, 30, 31, 40, 41, 42, 43, 44, 45, 46, 47, 48, 49, 50, 51, 52] (by decide +kernel) (by decide +kernel)
set_option maxRecDepth 20000 in
theorem gX7_forget_X0_remember : GoodIn wsX7_forget (wsV RX7 144 RX0 yX0_remember wsX0_remember) := goodIn_app (goodIn_of _ (by decide +kernel)) ggX7_forget_X0_remember
theorem dX7_forget_0 : decode cX7_forget 0 = .ok (.aload_n 0, 1) := by decide +kernel
theorem dX7_forget_1 : decode cX7_forget 1 = .ok (.getfield 12, 3) := by decide +kernel
theorem dX7_forget_4 : decode cX7_forget 4 = .ok (.getfield 66, 3) := by decide +kernel
theorem dX7_forget_7 : decode cX7_forget 7 = .ok (.getfield 74, 3) := by decide +kernel
theorem dX7_forget_10 : decode cX7_forget 10 = .ok (.aload_n 0, 1) := by decide +kernel
theorem dX7_forget_11 : decode cX7_forget 11 = .ok (.getfield 12, 3) := by decide +kernel
theorem dX7_forget_14 : decode cX7_forget 14 = .ok (.invokevirtual 70, 3) := by decide +kernel
theorem dX7_forget_17 : decode cX7_forget 17 = .ok (.if_icmp .ne 6, 3) := by decide +kernel
theorem dX7_forget_20 : decode cX7_forget 20 = .ok (.bipush (-2), 2) := by decide +kernel
theorem dX7_forget_22 : decode cX7_forget 22 = .ok (.ireturn, 1) := by decide +kernel
theorem dX7_forget_23 : decode cX7_forget 23 = .ok (.aload_n 0, 1) := by decide +kernel
theorem dX7_forget_24 : decode cX7_forget 24 = .ok (.getfield 12, 3) := by decide +kernel
theorem dX7_forget_27 : decode cX7_forget 27 = .ok (.invokevirtual 144, 3) := by decide +kernel
theorem dX7_forget_30 : decode cX7_forget 30 = .ok (.aload_n 0, 1) := by decide +kernel
theorem dX7_forget_31 : decode cX7_forget 31 = .ok (.getfield 12, 3) := by decide +kernel
theorem dX7_forget_34 : decode cX7_forget 34 = .ok (.getfield 66, 3) := by decide +kernel
theorem dX7_forget_37 : decode cX7_forget 37 = .ok (.aload_n 0, 1) := by decide +kernel
theorem dX7_forget_38 : decode cX7_forget 38 = .ok (.getfield 12, 3) := by decide +kernel
theorem dX7_forget_41 : decode cX7_forget 41 = .ok (.invokevirtual 70, 3) := by decide +kernel
theorem dX7_forget_44 : decode cX7_forget 44 = .ok (.putfield 74, 3) := by decide +kernel
theorem dX7_forget_47 : decode cX7_forget 47 = .ok (.aload_n 0, 1) := by decide +kernel
theorem dX7_forget_48 : decode cX7_forget 48 = .ok (.getfield 12, 3) := by decide +kernel
theorem dX7_forget_51 : decode cX7_forget 51 = .ok (.getfield 58, 3) := by decide +kernel
theorem dX7_forget_54 : decode cX7_forget 54 = .ok (.ireturn, 1) := by decide +kernel
set_option maxRecDepth 20000 in
theorem ggX7_bear_X7_isCow : GoodIn wsX7_bear wsX7_isCow := goodIn_r _ [8, 1, 9, 32, 33, 34, 35, 36, 37, 38, 39, 40, 41, 42, 43, 44, 45, 46, 47, 48] (by decide +kernel) (by decide +kernel)
set_option maxRecDepth 20000 in
theorem gX7_bear_X7_isCow : GoodIn wsX7_bear (wsV RX7 89 RX7 yX7_isCow wsX7_isCow) := goodIn_app (goodIn_of _ (by decide +kernel)) ggX7_bear_X7_isCow
set_option maxRecDepth 20000 in
theorem ggX7_bear_X0_remember : GoodIn wsX7_bear wsX0_remember := goodIn_r _ [14, 15, 16, 17, 18, 19, 20, 21, 22, 23, 24, 25, 26, 27, 28, 29, 30, 31, 40, 41, 42, 43, 44, 45, 46, 47, 48, 49, 50, 51, 52] (by decide +kernel) (by decide +kernel)
set_option maxRecDepth 20000 in
theorem gX7_bear_X0_remember : GoodIn wsX7_bear (wsV RX7 144 RX0 yX0_remember wsX0_remember) := goodIn_app (goodIn_of _ (by decide +kernel)) ggX7_bear_X0_remember
theorem dX7_bear_0 : decode cX7_bear 0 = .ok (.iload_n 1, 1) := by decide +kernel
theorem dX7_bear_1 : decode cX7_bear 1 = .ok (.bipush (-4), 2) := by decide +kernel
theorem dX7_bear_3 : decode cX7_bear 3 = .ok (.if_icmp .eq 13, 3) := by decide +kernel
theorem dX7_bear_6 : decode cX7_bear 6 = .ok (.aload_n 0, 1) := by decide +kernel
theorem dX7_bear_7 : decode cX7_bear 7 = .ok (.iload_n 1, 1) := by decide +kernel
theorem dX7_bear_8 : decode cX7_bear 8 = .ok (.invokevirtual 89, 3) := by decide +kernel
theorem dX7_bear_11 : decode cX7_bear 11 = .ok (.ifCond .ne 5, 3) := by decide +kernel
theorem dX7_bear_14 : decode cX7_bear 14 = .ok (.iconst (-1), 1) := by decide +kernel
theorem dX7_bear_15 : decode cX7_bear 15 = .ok (.ireturn, 1) := by decide +kernel
theorem dX7_bear_16 : decode cX7_bear 16 = .ok (.aload_n 0, 1) := by decide +kernel
theorem dX7_bear_17 : decode cX7_bear 17 = .ok (.getfield 12, 3) := by decide +kernel
theorem dX7_bear_20 : decode cX7_bear 20 = .ok (.getfield 66, 3) := by decide +kernel
theorem dX7_bear_23 : decode cX7_bear 23 = .ok (.getfield 137, 3) := by decide +kernel
theorem dX7_bear_26 : decode cX7_bear 26 = .ok (.istore_n 2, 1) := by decide +kernel
theorem dX7_bear_27 : decode cX7_bear 27 = .ok (.iload_n 2, 1) := by decide +kernel
theorem dX7_bear_28 : decode cX7_bear 28 = .ok (.iload_n 1, 1) := by decide +kernel
theorem dX7_bear_29 : decode cX7_bear 29 = .ok (.if_icmp .ne 6, 3) := by decide +kernel
theorem dX7_bear_32 : decode cX7_bear 32 = .ok (.bipush (-2), 2) := by decide +kernel
theorem dX7_bear_34 : decode cX7_bear 34 = .ok (.ireturn, 1) := by decide +kernel
theorem dX7_bear_35 : decode cX7_bear 35 = .ok (.aload_n 0, 1) := by decide +kernel
theorem dX7_bear_36 : decode cX7_bear 36 = .ok (.getfield 12, 3) := by decide +kernel
theorem dX7_bear_39 : decode cX7_bear 39 = .ok (.invokevirtual 144, 3) := by decide +kernel
theorem dX7_bear_42 : decode cX7_bear 42 = .ok (.aload_n 0, 1) := by decide +kernel
theorem dX7_bear_43 : decode cX7_bear 43 = .ok (.getfield 12, 3) := by decide +kernel
theorem dX7_bear_46 : decode cX7_bear 46 = .ok (.getfield 66, 3) := by decide +kernel
theorem dX7_bear_49 : decode cX7_bear 49 = .ok (.iload_n 1, 1) := by decide +kernel
theorem dX7_bear_50 : decode cX7_bear 50 = .ok (.putfield 137, 3) := by decide +kernel
theorem dX7_bear_53 : decode cX7_bear 53 = .ok (.iload_n 2, 1) := by decide +kernel
theorem dX7_bear_54 : decode cX7_bear 54 = .ok (.ireturn, 1) := by decide +kernel
set_option maxRecDepth 20000 in
theorem ggX7_drift_X0_driftOnce : GoodIn wsX7_drift wsX0_driftOnce := goodIn_r _ [9, 10, 11, 12, 13, 14, 15, 16, 17, 18, 19, 8, 20, 21, 22, 23, 24, 25, 26, 27, 28, 29, 30, 31, 32, 33, 34, 35, 36, 37, 38, 39, 40, 41, 42, 43, 44, 45, 46, 47, 48, 49, 50, 51, 52, 53, 54, 55, 56, 57, 58, 59, 60, 61, 62, 63, 64, 65, 66, 67, 68, 69, 70, 71, 72, 73, 74, 75, 76, 77, 78, 79, 80, 81, 90, 91, 92, 93, 94, 95, 96, 97, 98, 99, 100, 101, 102] (by decide +kernel) (by decide +kernel)
set_option maxRecDepth 20000 in
theorem gX7_drift_X0_driftOnce : GoodIn wsX7_drift (wsV RX7 157 RX0 yX0_driftOnce wsX0_driftOnce) := goodIn_app (goodIn_of _ (by decide +kernel)) ggX7_drift_X0_driftOnce
theorem dX7_drift_0 : decode cX7_drift 0 = .ok (.iload_n 1, 1) := by decide +kernel
theorem dX7_drift_1 : decode cX7_drift 1 = .ok (.iconst 1, 1) := by decide +kernel
theorem dX7_drift_2 : decode cX7_drift 2 = .ok (.if_icmp .lt 9, 3) := by decide +kernel
theorem dX7_drift_5 : decode cX7_drift 5 = .ok (.iload_n 1, 1) := by decide +kernel
theorem dX7_drift_6 : decode cX7_drift 6 = .ok (.bipush 40, 2) := by decide +kernel
theorem dX7_drift_8 : decode cX7_drift 8 = .ok (.if_icmp .le 5, 3) := by decide +kernel
theorem dX7_drift_11 : decode cX7_drift 11 = .ok (.iconst (-1), 1) := by decide +kernel
theorem dX7_drift_12 : decode cX7_drift 12 = .ok (.ireturn, 1) := by decide +kernel
theorem dX7_drift_13 : decode cX7_drift 13 = .ok (.aload_n 0, 1) := by decide +kernel
theorem dX7_drift_14 : decode cX7_drift 14 = .ok (.getfield 12, 3) := by decide +kernel
theorem dX7_drift_17 : decode cX7_drift 17 = .ok (.getfield 66, 3) := by decide +kernel
theorem dX7_drift_20 : decode cX7_drift 20 = .ok (.getfield 134, 3) := by decide +kernel
theorem dX7_drift_23 : decode cX7_drift 23 = .ok (.iload_n 1, 1) := by decide +kernel
theorem dX7_drift_24 : decode cX7_drift 24 = .ok (.iadd, 1) := by decide +kernel
theorem dX7_drift_25 : decode cX7_drift 25 = .ok (.sipush 9999, 3) := by decide +kernel
theorem dX7_drift_28 : decode cX7_drift 28 = .ok (.if_icmp .le 6, 3) := by decide +kernel
theorem dX7_drift_31 : decode cX7_drift 31 = .ok (.bipush (-3), 2) := by decide +kernel
theorem dX7_drift_33 : decode cX7_drift 33 = .ok (.ireturn, 1) := by decide +kernel
theorem dX7_drift_34 : decode cX7_drift 34 = .ok (.iconst 0, 1) := by decide +kernel
theorem dX7_drift_35 : decode cX7_drift 35 = .ok (.istore_n 2, 1) := by decide +kernel
theorem dX7_drift_36 : decode cX7_drift 36 = .ok (.iload_n 2, 1) := by decide +kernel
theorem dX7_drift_37 : decode cX7_drift 37 = .ok (.iload_n 1, 1) := by decide +kernel
theorem dX7_drift_38 : decode cX7_drift 38 = .ok (.if_icmp .ge 16, 3) := by decide +kernel
theorem dX7_drift_41 : decode cX7_drift 41 = .ok (.aload_n 0, 1) := by decide +kernel
theorem dX7_drift_42 : decode cX7_drift 42 = .ok (.getfield 12, 3) := by decide +kernel
theorem dX7_drift_45 : decode cX7_drift 45 = .ok (.invokevirtual 157, 3) := by decide +kernel
theorem dX7_drift_48 : decode cX7_drift 48 = .ok (.iinc 2 1, 3) := by decide +kernel
theorem dX7_drift_51 : decode cX7_drift 51 = .ok (.goto (-15), 3) := by decide +kernel
theorem dX7_drift_54 : decode cX7_drift 54 = .ok (.aload_n 0, 1) := by decide +kernel
theorem dX7_drift_55 : decode cX7_drift 55 = .ok (.getfield 12, 3) := by decide +kernel
theorem dX7_drift_58 : decode cX7_drift 58 = .ok (.getfield 66, 3) := by decide +kernel
theorem dX7_drift_61 : decode cX7_drift 61 = .ok (.getfield 74, 3) := by decide +kernel
theorem dX7_drift_64 : decode cX7_drift 64 = .ok (.ireturn, 1) := by decide +kernel
set_option maxRecDepth 20000 in
theorem ggX7_undo_X0_goBack : GoodIn wsX7_undo wsX0_goBack := goodIn_r _ [7, 8, 9, 10, 11, 12, 13, 14, 15, 16, 17, 18, 19, 20, 29, 30, 31, 32, 33, 34, 35, 36, 37, 38, 39, 40, 41] (by decide +kernel) (by decide +kernel)
set_option maxRecDepth 20000 in
theorem gX7_undo_X0_goBack : GoodIn wsX7_undo (wsV RX7 160 RX0 yX0_goBack wsX0_goBack) := goodIn_app (goodIn_of _ (by decide +kernel)) ggX7_undo_X0_goBack
theorem dX7_undo_0 : decode cX7_undo 0 = .ok (.aload_n 0, 1) := by decide +kernel
theorem dX7_undo_1 : decode cX7_undo 1 = .ok (.getfield 12, 3) := by decide +kernel
theorem dX7_undo_4 : decode cX7_undo 4 = .ok (.getfield 79, 3) := by decide +kernel
theorem dX7_undo_7 : decode cX7_undo 7 = .ok (.ifCond .ne 6, 3) := by decide +kernel
theorem dX7_undo_10 : decode cX7_undo 10 = .ok (.bipush (-4), 2) := by decide +kernel
theorem dX7_undo_12 : decode cX7_undo 12 = .ok (.ireturn, 1) := by decide +kernel
theorem dX7_undo_13 : decode cX7_undo 13 = .ok (.aload_n 0, 1) := by decide +kernel
theorem dX7_undo_14 : decode cX7_undo 14 = .ok (.getfield 12, 3) := by decide +kernel
theorem dX7_undo_17 : decode cX7_undo 17 = .ok (.invokevirtual 160, 3) := by decide +kernel
theorem dX7_undo_20 : decode cX7_undo 20 = .ok (.aload_n 0, 1) := by decide +kernel
theorem dX7_undo_21 : decode cX7_undo 21 = .ok (.getfield 12, 3) := by decide +kernel
theorem dX7_undo_24 : decode cX7_undo 24 = .ok (.getfield 79, 3) := by decide +kernel
theorem dX7_undo_27 : decode cX7_undo 27 = .ok (.ireturn, 1) := by decide +kernel
theorem dX7_seed_0 : decode cX7_seed 0 = .ok (.iload_n 1, 1) := by decide +kernel
theorem dX7_seed_1 : decode cX7_seed 1 = .ok (.ifCond .ge 5, 3) := by decide +kernel
theorem dX7_seed_4 : decode cX7_seed 4 = .ok (.iconst (-1), 1) := by decide +kernel
theorem dX7_seed_5 : decode cX7_seed 5 = .ok (.ireturn, 1) := by decide +kernel
theorem dX7_seed_6 : decode cX7_seed 6 = .ok (.aload_n 0, 1) := by decide +kernel
theorem dX7_seed_7 : decode cX7_seed 7 = .ok (.getfield 12, 3) := by decide +kernel
theorem dX7_seed_10 : decode cX7_seed 10 = .ok (.getfield 66, 3) := by decide +kernel
theorem dX7_seed_13 : decode cX7_seed 13 = .ok (.getfield 163, 3) := by decide +kernel
theorem dX7_seed_16 : decode cX7_seed 16 = .ok (.istore_n 2, 1) := by decide +kernel
theorem dX7_seed_17 : decode cX7_seed 17 = .ok (.aload_n 0, 1) := by decide +kernel
theorem dX7_seed_18 : decode cX7_seed 18 = .ok (.getfield 12, 3) := by decide +kernel
theorem dX7_seed_21 : decode cX7_seed 21 = .ok (.getfield 66, 3) := by decide +kernel
theorem dX7_seed_24 : decode cX7_seed 24 = .ok (.iload_n 1, 1) := by decide +kernel
theorem dX7_seed_25 : decode cX7_seed 25 = .ok (.putfield 163, 3) := by decide +kernel
theorem dX7_seed_28 : decode cX7_seed 28 = .ok (.iload_n 2, 1) := by decide +kernel
theorem dX7_seed_29 : decode cX7_seed 29 = .ok (.ireturn, 1) := by decide +kernel
set_option maxRecDepth 20000 in
theorem ggX7_tells_X7_isTaster : GoodIn wsX7_tells wsX7_isTaster := goodIn_r _ [8, 1, 9, 53, 54, 55, 56, 57, 58, 59, 60, 61, 62, 63, 64, 65, 66, 67, 68, 69] (by decide +kernel) (by decide +kernel)
set_option maxRecDepth 20000 in
theorem gX7_tells_X7_isTaster : GoodIn wsX7_tells (wsV RX7 97 RX7 yX7_isTaster wsX7_isTaster) := goodIn_app (goodIn_of _ (by decide +kernel)) ggX7_tells_X7_isTaster
set_option maxRecDepth 20000 in
theorem ggX7_tells_X7_isMix : GoodIn wsX7_tells wsX7_isMix := goodIn_r _ [13, 1, 14, 15, 16, 17, 18, 19, 53, 54, 55, 56, 57, 58, 59, 60, 61, 62, 63, 64, 65, 66, 67, 68, 69] (by decide +kernel) (by decide +kernel)
set_option maxRecDepth 20000 in
theorem gX7_tells_X7_isMix : GoodIn wsX7_tells (wsV RX7 109 RX7 yX7_isMix wsX7_isMix) := goodIn_app (goodIn_of _ (by decide +kernel)) ggX7_tells_X7_isMix
set_option maxRecDepth 20000 in
theorem ggX7_tells_X0_noticedBy : GoodIn wsX7_tells wsX0_noticedBy := goodIn_r _ [23, 24, 25, 26, 27, 28, 17, 29, 30, 31, 32, 33, 34, 35, 19, 36, 37, 38, 39, 40, 41, 42, 43, 44, 45, 46, 47, 48, 49, 50, 51, 52, 15, 16, 18, 61, 62, 63, 64, 65, 66, 67, 68, 69, 70, 71, 72, 73] (by decide +kernel) (by decide +kernel)
set_option maxRecDepth 20000 in
theorem gX7_tells_X0_noticedBy : GoodIn wsX7_tells (wsV RX7 112 RX0 yX0_noticedBy wsX0_noticedBy) := goodIn_app (goodIn_of _ (by decide +kernel)) ggX7_tells_X0_noticedBy
theorem dX7_tells_0 : decode cX7_tells 0 = .ok (.aload_n 0, 1) := by decide +kernel
theorem dX7_tells_1 : decode cX7_tells 1 = .ok (.iload_n 1, 1) := by decide +kernel
theorem dX7_tells_2 : decode cX7_tells 2 = .ok (.invokevirtual 97, 3) := by decide +kernel
theorem dX7_tells_5 : decode cX7_tells 5 = .ok (.ifCond .eq 11, 3) := by decide +kernel
theorem dX7_tells_8 : decode cX7_tells 8 = .ok (.aload_n 0, 1) := by decide +kernel
theorem dX7_tells_9 : decode cX7_tells 9 = .ok (.iload_n 2, 1) := by decide +kernel
theorem dX7_tells_10 : decode cX7_tells 10 = .ok (.invokevirtual 109, 3) := by decide +kernel
theorem dX7_tells_13 : decode cX7_tells 13 = .ok (.ifCond .ne 5, 3) := by decide +kernel
theorem dX7_tells_16 : decode cX7_tells 16 = .ok (.iconst (-1), 1) := by decide +kernel
theorem dX7_tells_17 : decode cX7_tells 17 = .ok (.ireturn, 1) := by decide +kernel
theorem dX7_tells_18 : decode cX7_tells 18 = .ok (.aload_n 0, 1) := by decide +kernel
theorem dX7_tells_19 : decode cX7_tells 19 = .ok (.getfield 12, 3) := by decide +kernel
theorem dX7_tells_22 : decode cX7_tells 22 = .ok (.iload_n 1, 1) := by decide +kernel
theorem dX7_tells_23 : decode cX7_tells 23 = .ok (.iload_n 2, 1) := by decide +kernel
theorem dX7_tells_24 : decode cX7_tells 24 = .ok (.invokevirtual 112, 3) := by decide +kernel
theorem dX7_tells_27 : decode cX7_tells 27 = .ok (.aload_n 0, 1) := by decide +kernel
theorem dX7_tells_28 : decode cX7_tells 28 = .ok (.getfield 12, 3) := by decide +kernel
theorem dX7_tells_31 : decode cX7_tells 31 = .ok (.getfield 66, 3) := by decide +kernel
theorem dX7_tells_34 : decode cX7_tells 34 = .ok (.getfield 74, 3) := by decide +kernel
theorem dX7_tells_37 : decode cX7_tells 37 = .ok (.iand, 1) := by decide +kernel
theorem dX7_tells_38 : decode cX7_tells 38 = .ok (.ireturn, 1) := by decide +kernel
set_option maxRecDepth 20000 in
theorem ggX7_fewest_X7_isTaster : GoodIn wsX7_fewest wsX7_isTaster := goodIn_r _ [7, 2, 8, 96, 97, 98, 99, 100, 101, 102, 103, 104, 105, 106, 107, 108, 109, 110, 111, 112] (by decide +kernel) (by decide +kernel)
set_option maxRecDepth 20000 in
theorem gX7_fewest_X7_isTaster : GoodIn wsX7_fewest (wsV RX7 97 RX7 yX7_isTaster wsX7_isTaster) := goodIn_app (goodIn_of _ (by decide +kernel)) ggX7_fewest_X7_isTaster
set_option maxRecDepth 20000 in
theorem ggX7_fewest_X2_lookAhead : GoodIn wsX7_fewest wsX2_lookAhead := goodIn_r _ [13, 14, 15, 16, 17, 18, 19, 20, 21, 22, 23, 24, 25, 26, 27, 28, 29, 30, 31, 32, 33, 34, 35, 36, 37, 38, 39, 40, 41, 42, 43, 44, 45, 46, 47, 48, 49, 50, 51, 52, 53, 54, 55, 56, 57, 104, 105, 106, 107, 108, 109, 110, 111, 112, 113, 114, 115, 116, 117, 118, 119, 120, 121, 122, 123, 124, 125] (by decide +kernel) (by decide +kernel)
set_option maxRecDepth 20000 in
theorem gX7_fewest_X2_lookAhead : GoodIn wsX7_fewest (wsV RX7 166 RX2 yX2_lookAhead wsX2_lookAhead) := goodIn_app (goodIn_of _ (by decide +kernel)) ggX7_fewest_X2_lookAhead
set_option maxRecDepth 20000 in
theorem ggX7_fewest_X2_fewestMixes : GoodIn wsX7_fewest wsX2_fewestMixes := goodIn_r _ [61, 62, 16, 63, 64, 65, 12, 66, 67, 68, 69, 70, 71, 72, 17, 18, 73, 74, 75, 76, 77, 78, 79, 80, 81, 82, 83, 84, 85, 51, 52, 53, 54, 55, 56, 86, 87, 88, 89, 90, 91, 92, 93, 94, 95, 117, 118, 119, 120, 121, 122, 123, 124, 125] (by decide +kernel) (by decide +kernel)
set_option maxRecDepth 20000 in
theorem gX7_fewest_X2_fewestMixes : GoodIn wsX7_fewest (wsV RX7 170 RX2 yX2_fewestMixes wsX2_fewestMixes) := goodIn_app (goodIn_of _ (by decide +kernel)) ggX7_fewest_X2_fewestMixes
theorem dX7_fewest_0 : decode cX7_fewest 0 = .ok (.aload_n 0, 1) := by decide +kernel
theorem dX7_fewest_1 : decode cX7_fewest 1 = .ok (.iload_n 1, 1) := by decide +kernel
theorem dX7_fewest_2 : decode cX7_fewest 2 = .ok (.invokevirtual 97, 3) := by decide +kernel
theorem dX7_fewest_5 : decode cX7_fewest 5 = .ok (.ifCond .ne 5, 3) := by decide +kernel
theorem dX7_fewest_8 : decode cX7_fewest 8 = .ok (.iconst (-1), 1) := by decide +kernel
theorem dX7_fewest_9 : decode cX7_fewest 9 = .ok (.ireturn, 1) := by decide +kernel
theorem dX7_fewest_10 : decode cX7_fewest 10 = .ok (.aload_n 0, 1) := by decide +kernel
theorem dX7_fewest_11 : decode cX7_fewest 11 = .ok (.getfield 33, 3) := by decide +kernel
theorem dX7_fewest_14 : decode cX7_fewest 14 = .ok (.aload_n 0, 1) := by decide +kernel
theorem dX7_fewest_15 : decode cX7_fewest 15 = .ok (.getfield 12, 3) := by decide +kernel
theorem dX7_fewest_18 : decode cX7_fewest 18 = .ok (.iload_n 1, 1) := by decide +kernel
theorem dX7_fewest_19 : decode cX7_fewest 19 = .ok (.invokevirtual 166, 3) := by decide +kernel
theorem dX7_fewest_22 : decode cX7_fewest 22 = .ok (.aload_n 0, 1) := by decide +kernel
theorem dX7_fewest_23 : decode cX7_fewest 23 = .ok (.getfield 33, 3) := by decide +kernel
theorem dX7_fewest_26 : decode cX7_fewest 26 = .ok (.invokevirtual 170, 3) := by decide +kernel
theorem dX7_fewest_29 : decode cX7_fewest 29 = .ok (.ireturn, 1) := by decide +kernel
set_option maxRecDepth 20000 in
theorem ggX7_next_X7_isTaster : GoodIn wsX7_next wsX7_isTaster := goodIn_r _ [7, 2, 8, 100, 101, 102, 103, 104, 105, 106, 107, 108, 109, 110, 111, 112, 113, 114, 115, 116] (by decide +kernel) (by decide +kernel)
set_option maxRecDepth 20000 in
theorem gX7_next_X7_isTaster : GoodIn wsX7_next (wsV RX7 97 RX7 yX7_isTaster wsX7_isTaster) := goodIn_app (goodIn_of _ (by decide +kernel)) ggX7_next_X7_isTaster
set_option maxRecDepth 20000 in
theorem ggX7_next_X2_lookAhead : GoodIn wsX7_next wsX2_lookAhead := goodIn_r _ [13, 14, 15, 16, 17, 18, 19, 20, 21, 22, 23, 24, 25, 26, 27, 28, 29, 30, 31, 32, 33, 34, 35, 36, 37, 38, 39, 40, 41, 42, 43, 44, 45, 46, 47, 48, 49, 50, 51, 52, 53, 54, 55, 56, 57, 108, 109, 110, 111, 112, 113, 114, 115, 116, 117, 118, 119, 120, 121, 122, 123, 124, 125, 126, 127, 128, 129] (by decide +kernel) (by decide +kernel)
set_option maxRecDepth 20000 in
theorem gX7_next_X2_lookAhead : GoodIn wsX7_next (wsV RX7 166 RX2 yX2_lookAhead wsX2_lookAhead) := goodIn_app (goodIn_of _ (by decide +kernel)) ggX7_next_X2_lookAhead
set_option maxRecDepth 20000 in
theorem ggX7_next_X2_firstMix : GoodIn wsX7_next wsX2_firstMix := goodIn_r _ [61, 17, 16, 18, 62, 63, 64, 12, 65, 66, 67, 68, 69, 70, 71, 72, 73, 74, 75, 76, 77, 78, 79, 80, 81, 82, 83, 84, 85, 86, 87, 88, 89, 51, 52, 53, 54, 55, 56, 90, 91, 92, 93, 94, 95, 96, 97, 98, 99, 121, 122, 123, 124, 125, 126, 127, 128, 129] (by decide +kernel) (by decide +kernel)
set_option maxRecDepth 20000 in
theorem gX7_next_X2_firstMix : GoodIn wsX7_next (wsV RX7 173 RX2 yX2_firstMix wsX2_firstMix) := goodIn_app (goodIn_of _ (by decide +kernel)) ggX7_next_X2_firstMix
theorem dX7_next_0 : decode cX7_next 0 = .ok (.aload_n 0, 1) := by decide +kernel
theorem dX7_next_1 : decode cX7_next 1 = .ok (.iload_n 1, 1) := by decide +kernel
theorem dX7_next_2 : decode cX7_next 2 = .ok (.invokevirtual 97, 3) := by decide +kernel
theorem dX7_next_5 : decode cX7_next 5 = .ok (.ifCond .ne 5, 3) := by decide +kernel
theorem dX7_next_8 : decode cX7_next 8 = .ok (.iconst (-1), 1) := by decide +kernel
theorem dX7_next_9 : decode cX7_next 9 = .ok (.ireturn, 1) := by decide +kernel
theorem dX7_next_10 : decode cX7_next 10 = .ok (.aload_n 0, 1) := by decide +kernel
theorem dX7_next_11 : decode cX7_next 11 = .ok (.getfield 33, 3) := by decide +kernel
theorem dX7_next_14 : decode cX7_next 14 = .ok (.aload_n 0, 1) := by decide +kernel
theorem dX7_next_15 : decode cX7_next 15 = .ok (.getfield 12, 3) := by decide +kernel
theorem dX7_next_18 : decode cX7_next 18 = .ok (.iload_n 1, 1) := by decide +kernel
theorem dX7_next_19 : decode cX7_next 19 = .ok (.invokevirtual 166, 3) := by decide +kernel
theorem dX7_next_22 : decode cX7_next 22 = .ok (.aload_n 0, 1) := by decide +kernel
theorem dX7_next_23 : decode cX7_next 23 = .ok (.getfield 33, 3) := by decide +kernel
theorem dX7_next_26 : decode cX7_next 26 = .ok (.invokevirtual 173, 3) := by decide +kernel
theorem dX7_next_29 : decode cX7_next 29 = .ok (.ireturn, 1) := by decide +kernel
set_option maxRecDepth 20000 in
theorem ggX7_once_X7_isTaster : GoodIn wsX7_once wsX7_isTaster := goodIn_r _ [9, 2, 10, 77, 78, 79, 80, 81, 82, 83, 84, 94, 95, 96, 97, 98, 99, 100, 101, 102] (by decide +kernel) (by decide +kernel)
set_option maxRecDepth 20000 in
theorem gX7_once_X7_isTaster : GoodIn wsX7_once (wsV RX7 97 RX7 yX7_isTaster wsX7_isTaster) := goodIn_app (goodIn_of _ (by decide +kernel)) ggX7_once_X7_isTaster
set_option maxRecDepth 20000 in
theorem ggX7_once_X2_lookAhead : GoodIn wsX7_once wsX2_lookAhead := goodIn_r _ [15, 16, 17, 18, 19, 20, 21, 22, 23, 24, 25, 26, 27, 28, 29, 30, 31, 32, 33, 34, 35, 36, 37, 38, 39, 40, 41, 42, 43, 44, 45, 46, 47, 48, 49, 50, 51, 52, 53, 54, 55, 56, 57, 58, 59, 94, 95, 96, 97, 98, 99, 100, 101, 102, 103, 104, 105, 106, 85, 86, 87, 88, 89, 90, 91, 92, 93] (by decide +kernel) (by decide +kernel)
set_option maxRecDepth 20000 in
theorem gX7_once_X2_lookAhead : GoodIn wsX7_once (wsV RX7 166 RX2 yX2_lookAhead wsX2_lookAhead) := goodIn_app (goodIn_of _ (by decide +kernel)) ggX7_once_X2_lookAhead
set_option maxRecDepth 20000 in
theorem ggX7_once_X2_chooseAhead : GoodIn wsX7_once wsX2_chooseAhead := goodIn_r _ [63, 18, 19, 20, 64, 65, 66, 67, 14, 68, 69, 70, 71, 72, 73, 53, 54, 55, 56, 57, 58, 74, 75, 76, 85, 86, 87, 88, 89, 90, 91, 92, 93] (by decide +kernel) (by decide +kernel)
set_option maxRecDepth 20000 in
theorem gX7_once_X2_chooseAhead : GoodIn wsX7_once (wsV RX7 176 RX2 yX2_chooseAhead wsX2_chooseAhead) := goodIn_app (goodIn_of _ (by decide +kernel)) ggX7_once_X2_chooseAhead
theorem dX7_once_0 : decode cX7_once 0 = .ok (.aload_n 0, 1) := by decide +kernel
theorem dX7_once_1 : decode cX7_once 1 = .ok (.iload_n 1, 1) := by decide +kernel
theorem dX7_once_2 : decode cX7_once 2 = .ok (.invokevirtual 97, 3) := by decide +kernel
theorem dX7_once_5 : decode cX7_once 5 = .ok (.ifCond .eq 8, 3) := by decide +kernel
theorem dX7_once_8 : decode cX7_once 8 = .ok (.iload_n 2, 1) := by decide +kernel
theorem dX7_once_9 : decode cX7_once 9 = .ok (.iconst (-1), 1) := by decide +kernel
theorem dX7_once_10 : decode cX7_once 10 = .ok (.if_icmp .ge 5, 3) := by decide +kernel
theorem dX7_once_13 : decode cX7_once 13 = .ok (.iconst (-1), 1) := by decide +kernel
theorem dX7_once_14 : decode cX7_once 14 = .ok (.ireturn, 1) := by decide +kernel
theorem dX7_once_15 : decode cX7_once 15 = .ok (.aload_n 0, 1) := by decide +kernel
theorem dX7_once_16 : decode cX7_once 16 = .ok (.getfield 33, 3) := by decide +kernel
theorem dX7_once_19 : decode cX7_once 19 = .ok (.aload_n 0, 1) := by decide +kernel
theorem dX7_once_20 : decode cX7_once 20 = .ok (.getfield 12, 3) := by decide +kernel
theorem dX7_once_23 : decode cX7_once 23 = .ok (.iload_n 1, 1) := by decide +kernel
theorem dX7_once_24 : decode cX7_once 24 = .ok (.invokevirtual 166, 3) := by decide +kernel
theorem dX7_once_27 : decode cX7_once 27 = .ok (.aload_n 0, 1) := by decide +kernel
theorem dX7_once_28 : decode cX7_once 28 = .ok (.getfield 33, 3) := by decide +kernel
theorem dX7_once_31 : decode cX7_once 31 = .ok (.invokevirtual 176, 3) := by decide +kernel
theorem dX7_once_34 : decode cX7_once 34 = .ok (.istore_n 3, 1) := by decide +kernel
theorem dX7_once_35 : decode cX7_once 35 = .ok (.iload_n 2, 1) := by decide +kernel
theorem dX7_once_36 : decode cX7_once 36 = .ok (.iconst (-1), 1) := by decide +kernel
theorem dX7_once_37 : decode cX7_once 37 = .ok (.if_icmp .eq 9, 3) := by decide +kernel
theorem dX7_once_40 : decode cX7_once 40 = .ok (.iload_n 3, 1) := by decide +kernel
theorem dX7_once_41 : decode cX7_once 41 = .ok (.bipush (-4), 2) := by decide +kernel
theorem dX7_once_43 : decode cX7_once 43 = .ok (.if_icmp .ne 5, 3) := by decide +kernel
theorem dX7_once_46 : decode cX7_once 46 = .ok (.iload_n 3, 1) := by decide +kernel
theorem dX7_once_47 : decode cX7_once 47 = .ok (.ireturn, 1) := by decide +kernel
theorem dX7_once_48 : decode cX7_once 48 = .ok (.iload_n 2, 1) := by decide +kernel
theorem dX7_once_49 : decode cX7_once 49 = .ok (.iload_n 3, 1) := by decide +kernel
theorem dX7_once_50 : decode cX7_once 50 = .ok (.if_icmp .lt 8, 3) := by decide +kernel
theorem dX7_once_53 : decode cX7_once 53 = .ok (.bipush (-4), 2) := by decide +kernel
theorem dX7_once_55 : decode cX7_once 55 = .ok (.goto 24, 3) := by decide +kernel
theorem dX7_once_58 : decode cX7_once 58 = .ok (.iload_n 2, 1) := by decide +kernel
theorem dX7_once_59 : decode cX7_once 59 = .ok (.ifCond .ne 13, 3) := by decide +kernel
theorem dX7_once_62 : decode cX7_once 62 = .ok (.aload_n 0, 1) := by decide +kernel
theorem dX7_once_63 : decode cX7_once 63 = .ok (.getfield 33, 3) := by decide +kernel
theorem dX7_once_66 : decode cX7_once 66 = .ok (.getfield 179, 3) := by decide +kernel
theorem dX7_once_69 : decode cX7_once 69 = .ok (.goto 10, 3) := by decide +kernel
theorem dX7_once_72 : decode cX7_once 72 = .ok (.aload_n 0, 1) := by decide +kernel
theorem dX7_once_73 : decode cX7_once 73 = .ok (.getfield 33, 3) := by decide +kernel
theorem dX7_once_76 : decode cX7_once 76 = .ok (.getfield 182, 3) := by decide +kernel
theorem dX7_once_79 : decode cX7_once 79 = .ok (.ireturn, 1) := by decide +kernel
set_option maxRecDepth 20000 in
theorem ggX7_halves_X7_isTaster : GoodIn wsX7_halves wsX7_isTaster := goodIn_r _ [7, 2, 8, 78, 79, 80, 81, 82, 83, 84, 85, 86, 87, 88, 89, 90, 91, 92, 93, 94] (by decide +kernel) (by decide +kernel)
set_option maxRecDepth 20000 in
theorem gX7_halves_X7_isTaster : GoodIn wsX7_halves (wsV RX7 97 RX7 yX7_isTaster wsX7_isTaster) := goodIn_app (goodIn_of _ (by decide +kernel)) ggX7_halves_X7_isTaster
set_option maxRecDepth 20000 in
theorem ggX7_halves_X7_isEither : GoodIn wsX7_halves wsX7_isEither := goodIn_r _ [11] (by decide +kernel) (by decide +kernel)
set_option maxRecDepth 20000 in
theorem gX7_halves_X7_isEither : GoodIn wsX7_halves (va_wsS RX7 100 yX7_isEither wsX7_isEither) := goodIn_app (goodIn_of _ (by decide +kernel)) ggX7_halves_X7_isEither
set_option maxRecDepth 20000 in
theorem ggX7_halves_X2_lookAhead : GoodIn wsX7_halves wsX2_lookAhead := goodIn_r _ [16, 17, 18, 19, 20, 21, 22, 23, 24, 25, 26, 27, 28, 29, 30, 31, 32, 33, 34, 35, 36, 37, 38, 39, 40, 41, 42, 43, 44, 45, 46, 47, 48, 49, 50, 51, 52, 53, 54, 55, 56, 57, 58, 59, 60, 86, 87, 88, 89, 90, 91, 92, 93, 94, 95, 96, 97, 98, 99, 100, 101, 102, 103, 104, 105, 106, 107] (by decide +kernel) (by decide +kernel)
set_option maxRecDepth 20000 in
theorem gX7_halves_X2_lookAhead : GoodIn wsX7_halves (wsV RX7 166 RX2 yX2_lookAhead wsX2_lookAhead) := goodIn_app (goodIn_of _ (by decide +kernel)) ggX7_halves_X2_lookAhead
set_option maxRecDepth 20000 in
theorem ggX7_halves_X2_evenestMix : GoodIn wsX7_halves wsX2_evenestMix := goodIn_r _ [64, 19, 20, 65, 66, 15, 67, 68, 69, 70, 71, 21, 72, 73, 74, 75, 76, 54, 55, 56, 57, 58, 59, 99, 100, 101, 102, 103, 104, 105, 106, 107] (by decide +kernel) (by decide +kernel)
set_option maxRecDepth 20000 in
theorem gX7_halves_X2_evenestMix : GoodIn wsX7_halves (wsV RX7 185 RX2 yX2_evenestMix wsX2_evenestMix) := goodIn_app (goodIn_of _ (by decide +kernel)) ggX7_halves_X2_evenestMix
set_option maxRecDepth 20000 in
theorem ggX7_halves_X2_greaterPart : GoodIn wsX7_halves wsX2_greaterPart := goodIn_r _ [71, 21, 19, 72, 73, 74, 75, 76, 54, 55, 56, 57, 58, 59, 99, 100, 101, 102, 103, 104, 105, 106, 107] (by decide +kernel) (by decide +kernel)
set_option maxRecDepth 20000 in
theorem gX7_halves_X2_greaterPart : GoodIn wsX7_halves (wsV RX7 188 RX2 yX2_greaterPart wsX2_greaterPart) := goodIn_app (goodIn_of _ (by decide +kernel)) ggX7_halves_X2_greaterPart
theorem dX7_halves_0 : decode cX7_halves 0 = .ok (.aload_n 0, 1) := by decide +kernel
theorem dX7_halves_1 : decode cX7_halves 1 = .ok (.iload_n 1, 1) := by decide +kernel
theorem dX7_halves_2 : decode cX7_halves 2 = .ok (.invokevirtual 97, 3) := by decide +kernel
theorem dX7_halves_5 : decode cX7_halves 5 = .ok (.ifCond .eq 10, 3) := by decide +kernel
theorem dX7_halves_8 : decode cX7_halves 8 = .ok (.iload_n 2, 1) := by decide +kernel
theorem dX7_halves_9 : decode cX7_halves 9 = .ok (.invokestatic 100, 3) := by decide +kernel
theorem dX7_halves_12 : decode cX7_halves 12 = .ok (.ifCond .ne 5, 3) := by decide +kernel
theorem dX7_halves_15 : decode cX7_halves 15 = .ok (.iconst (-1), 1) := by decide +kernel
theorem dX7_halves_16 : decode cX7_halves 16 = .ok (.ireturn, 1) := by decide +kernel
theorem dX7_halves_17 : decode cX7_halves 17 = .ok (.aload_n 0, 1) := by decide +kernel
theorem dX7_halves_18 : decode cX7_halves 18 = .ok (.getfield 33, 3) := by decide +kernel
theorem dX7_halves_21 : decode cX7_halves 21 = .ok (.aload_n 0, 1) := by decide +kernel
theorem dX7_halves_22 : decode cX7_halves 22 = .ok (.getfield 12, 3) := by decide +kernel
theorem dX7_halves_25 : decode cX7_halves 25 = .ok (.iload_n 1, 1) := by decide +kernel
theorem dX7_halves_26 : decode cX7_halves 26 = .ok (.invokevirtual 166, 3) := by decide +kernel
theorem dX7_halves_29 : decode cX7_halves 29 = .ok (.aload_n 0, 1) := by decide +kernel
theorem dX7_halves_30 : decode cX7_halves 30 = .ok (.getfield 33, 3) := by decide +kernel
theorem dX7_halves_33 : decode cX7_halves 33 = .ok (.invokevirtual 185, 3) := by decide +kernel
theorem dX7_halves_36 : decode cX7_halves 36 = .ok (.istore_n 3, 1) := by decide +kernel
theorem dX7_halves_37 : decode cX7_halves 37 = .ok (.iload_n 3, 1) := by decide +kernel
theorem dX7_halves_38 : decode cX7_halves 38 = .ok (.bipush (-4), 2) := by decide +kernel
theorem dX7_halves_40 : decode cX7_halves 40 = .ok (.if_icmp .eq 7, 3) := by decide +kernel
theorem dX7_halves_43 : decode cX7_halves 43 = .ok (.iload_n 2, 1) := by decide +kernel
theorem dX7_halves_44 : decode cX7_halves 44 = .ok (.ifCond .ne 7, 3) := by decide +kernel
theorem dX7_halves_47 : decode cX7_halves 47 = .ok (.iload_n 3, 1) := by decide +kernel
theorem dX7_halves_48 : decode cX7_halves 48 = .ok (.goto 11, 3) := by decide +kernel
theorem dX7_halves_51 : decode cX7_halves 51 = .ok (.aload_n 0, 1) := by decide +kernel
theorem dX7_halves_52 : decode cX7_halves 52 = .ok (.getfield 33, 3) := by decide +kernel
theorem dX7_halves_55 : decode cX7_halves 55 = .ok (.iload_n 3, 1) := by decide +kernel
theorem dX7_halves_56 : decode cX7_halves 56 = .ok (.invokevirtual 188, 3) := by decide +kernel
theorem dX7_halves_59 : decode cX7_halves 59 = .ok (.ireturn, 1) := by decide +kernel
set_option maxRecDepth 20000 in
theorem ggX7_likely_X7_isCow : GoodIn wsX7_likely wsX7_isCow := goodIn_r _ [8, 1, 9, 34, 35, 36, 37, 38, 39, 40, 41, 42, 43, 44, 45, 46, 47, 48, 49, 50] (by decide +kernel) (by decide +kernel)
set_option maxRecDepth 20000 in
theorem gX7_likely_X7_isCow : GoodIn wsX7_likely (wsV RX7 89 RX7 yX7_isCow wsX7_isCow) := goodIn_app (goodIn_of _ (by decide +kernel)) ggX7_likely_X7_isCow
set_option maxRecDepth 20000 in
theorem ggX7_likely_X7_isEither : GoodIn wsX7_likely wsX7_isEither := goodIn_r _ [12] (by decide +kernel) (by decide +kernel)
set_option maxRecDepth 20000 in
theorem gX7_likely_X7_isEither : GoodIn wsX7_likely (va_wsS RX7 100 yX7_isEither wsX7_isEither) := goodIn_app (goodIn_of _ (by decide +kernel)) ggX7_likely_X7_isEither
set_option maxRecDepth 20000 in
theorem ggX7_likely_X7_milkFraction : GoodIn wsX7_likely wsX7_milkFraction := goodIn_r _ [16, 1, 17, 18, 19, 20, 21, 22, 23, 24, 25, 7, 26, 27, 28, 29, 30, 31, 32, 33, 34, 35, 36, 37, 38, 39, 40, 41, 42, 43, 44, 45, 46, 47, 48, 49, 50] (by decide +kernel) (by decide +kernel)
set_option maxRecDepth 20000 in
theorem gX7_likely_X7_milkFraction : GoodIn wsX7_likely (wsV RX7 191 RX7 yX7_milkFraction wsX7_milkFraction) := goodIn_app (goodIn_of _ (by decide +kernel)) ggX7_likely_X7_milkFraction
theorem dX7_likely_0 : decode cX7_likely 0 = .ok (.aload_n 0, 1) := by decide +kernel
theorem dX7_likely_1 : decode cX7_likely 1 = .ok (.iload_n 1, 1) := by decide +kernel
theorem dX7_likely_2 : decode cX7_likely 2 = .ok (.invokevirtual 89, 3) := by decide +kernel
theorem dX7_likely_5 : decode cX7_likely 5 = .ok (.ifCond .eq 10, 3) := by decide +kernel
theorem dX7_likely_8 : decode cX7_likely 8 = .ok (.iload_n 2, 1) := by decide +kernel
theorem dX7_likely_9 : decode cX7_likely 9 = .ok (.invokestatic 100, 3) := by decide +kernel
theorem dX7_likely_12 : decode cX7_likely 12 = .ok (.ifCond .ne 5, 3) := by decide +kernel
theorem dX7_likely_15 : decode cX7_likely 15 = .ok (.iconst (-1), 1) := by decide +kernel
theorem dX7_likely_16 : decode cX7_likely 16 = .ok (.ireturn, 1) := by decide +kernel
theorem dX7_likely_17 : decode cX7_likely 17 = .ok (.aload_n 0, 1) := by decide +kernel
theorem dX7_likely_18 : decode cX7_likely 18 = .ok (.iconst 1, 1) := by decide +kernel
theorem dX7_likely_19 : decode cX7_likely 19 = .ok (.iload_n 1, 1) := by decide +kernel
theorem dX7_likely_20 : decode cX7_likely 20 = .ok (.ishl, 1) := by decide +kernel
theorem dX7_likely_21 : decode cX7_likely 21 = .ok (.aload_n 0, 1) := by decide +kernel
theorem dX7_likely_22 : decode cX7_likely 22 = .ok (.getfield 12, 3) := by decide +kernel
theorem dX7_likely_25 : decode cX7_likely 25 = .ok (.getfield 66, 3) := by decide +kernel
theorem dX7_likely_28 : decode cX7_likely 28 = .ok (.getfield 74, 3) := by decide +kernel
theorem dX7_likely_31 : decode cX7_likely 31 = .ok (.iand, 1) := by decide +kernel
theorem dX7_likely_32 : decode cX7_likely 32 = .ok (.aload_n 0, 1) := by decide +kernel
theorem dX7_likely_33 : decode cX7_likely 33 = .ok (.getfield 12, 3) := by decide +kernel
theorem dX7_likely_36 : decode cX7_likely 36 = .ok (.getfield 66, 3) := by decide +kernel
theorem dX7_likely_39 : decode cX7_likely 39 = .ok (.getfield 74, 3) := by decide +kernel
theorem dX7_likely_42 : decode cX7_likely 42 = .ok (.iload_n 2, 1) := by decide +kernel
theorem dX7_likely_43 : decode cX7_likely 43 = .ok (.invokevirtual 191, 3) := by decide +kernel
theorem dX7_likely_46 : decode cX7_likely 46 = .ok (.ireturn, 1) := by decide +kernel
set_option maxRecDepth 20000 in
theorem ggX7_noticed_X7_isTaster : GoodIn wsX7_noticed wsX7_isTaster := goodIn_r _ [8, 1, 9, 71, 72, 73, 74, 75, 76, 77, 78, 79, 80, 81, 82, 83, 84, 85, 86, 87] (by decide +kernel) (by decide +kernel)
set_option maxRecDepth 20000 in
theorem gX7_noticed_X7_isTaster : GoodIn wsX7_noticed (wsV RX7 97 RX7 yX7_isTaster wsX7_isTaster) := goodIn_app (goodIn_of _ (by decide +kernel)) ggX7_noticed_X7_isTaster
set_option maxRecDepth 20000 in
theorem ggX7_noticed_X7_isMix : GoodIn wsX7_noticed wsX7_isMix := goodIn_r _ [13, 1, 14, 15, 16, 17, 18, 19, 71, 72, 73, 74, 75, 76, 77, 78, 79, 80, 81, 82, 83, 84, 85, 86, 87] (by decide +kernel) (by decide +kernel)
set_option maxRecDepth 20000 in
theorem gX7_noticed_X7_isMix : GoodIn wsX7_noticed (wsV RX7 109 RX7 yX7_isMix wsX7_isMix) := goodIn_app (goodIn_of _ (by decide +kernel)) ggX7_noticed_X7_isMix
set_option maxRecDepth 20000 in
theorem ggX7_noticed_X7_isEither : GoodIn wsX7_noticed wsX7_isEither := goodIn_r _ [22] (by decide +kernel) (by decide +kernel)
set_option maxRecDepth 20000 in
theorem gX7_noticed_X7_isEither : GoodIn wsX7_noticed (va_wsS RX7 100 yX7_isEither wsX7_isEither) := goodIn_app (goodIn_of _ (by decide +kernel)) ggX7_noticed_X7_isEither
set_option maxRecDepth 20000 in
theorem ggX7_noticed_X0_noticedBy : GoodIn wsX7_noticed wsX0_noticedBy := goodIn_r _ [26, 27, 28, 29, 30, 31, 17, 32, 33, 34, 35, 36, 37, 38, 19, 39, 40, 41, 42, 43, 44, 45, 46, 47, 48, 49, 50, 51, 52, 53, 54, 55, 15, 16, 18, 79, 80, 81, 82, 83, 84, 85, 86, 87, 88, 89, 90, 91] (by decide +kernel) (by decide +kernel)
set_option maxRecDepth 20000 in
theorem gX7_noticed_X0_noticedBy : GoodIn wsX7_noticed (wsV RX7 112 RX0 yX0_noticedBy wsX0_noticedBy) := goodIn_app (goodIn_of _ (by decide +kernel)) ggX7_noticed_X0_noticedBy
set_option maxRecDepth 20000 in
theorem ggX7_noticed_X7_milkFraction : GoodIn wsX7_noticed wsX7_milkFraction := goodIn_r _ [59, 1, 60, 41, 42, 17, 43, 19, 39, 61, 62, 7, 63, 64, 65, 66, 67, 68, 69, 70, 71, 72, 73, 74, 75, 76, 77, 78, 79, 80, 81, 82, 83, 84, 85, 86, 87] (by decide +kernel) (by decide +kernel)
set_option maxRecDepth 20000 in
theorem gX7_noticed_X7_milkFraction : GoodIn wsX7_noticed (wsV RX7 191 RX7 yX7_milkFraction wsX7_milkFraction) := goodIn_app (goodIn_of _ (by decide +kernel)) ggX7_noticed_X7_milkFraction
theorem dX7_noticed_0 : decode cX7_noticed 0 = .ok (.aload_n 0, 1) := by decide +kernel
theorem dX7_noticed_1 : decode cX7_noticed 1 = .ok (.iload_n 1, 1) := by decide +kernel
theorem dX7_noticed_2 : decode cX7_noticed 2 = .ok (.invokevirtual 97, 3) := by decide +kernel
theorem dX7_noticed_5 : decode cX7_noticed 5 = .ok (.ifCond .eq 18, 3) := by decide +kernel
theorem dX7_noticed_8 : decode cX7_noticed 8 = .ok (.aload_n 0, 1) := by decide +kernel
theorem dX7_noticed_9 : decode cX7_noticed 9 = .ok (.iload_n 2, 1) := by decide +kernel
theorem dX7_noticed_10 : decode cX7_noticed 10 = .ok (.invokevirtual 109, 3) := by decide +kernel
theorem dX7_noticed_13 : decode cX7_noticed 13 = .ok (.ifCond .eq 10, 3) := by decide +kernel
theorem dX7_noticed_16 : decode cX7_noticed 16 = .ok (.iload_n 3, 1) := by decide +kernel
theorem dX7_noticed_17 : decode cX7_noticed 17 = .ok (.invokestatic 100, 3) := by decide +kernel
theorem dX7_noticed_20 : decode cX7_noticed 20 = .ok (.ifCond .ne 5, 3) := by decide +kernel
theorem dX7_noticed_23 : decode cX7_noticed 23 = .ok (.iconst (-1), 1) := by decide +kernel
theorem dX7_noticed_24 : decode cX7_noticed 24 = .ok (.ireturn, 1) := by decide +kernel
theorem dX7_noticed_25 : decode cX7_noticed 25 = .ok (.aload_n 0, 1) := by decide +kernel
theorem dX7_noticed_26 : decode cX7_noticed 26 = .ok (.aload_n 0, 1) := by decide +kernel
theorem dX7_noticed_27 : decode cX7_noticed 27 = .ok (.getfield 12, 3) := by decide +kernel
theorem dX7_noticed_30 : decode cX7_noticed 30 = .ok (.iload_n 1, 1) := by decide +kernel
theorem dX7_noticed_31 : decode cX7_noticed 31 = .ok (.iload_n 2, 1) := by decide +kernel
theorem dX7_noticed_32 : decode cX7_noticed 32 = .ok (.invokevirtual 112, 3) := by decide +kernel
theorem dX7_noticed_35 : decode cX7_noticed 35 = .ok (.aload_n 0, 1) := by decide +kernel
theorem dX7_noticed_36 : decode cX7_noticed 36 = .ok (.getfield 12, 3) := by decide +kernel
theorem dX7_noticed_39 : decode cX7_noticed 39 = .ok (.getfield 66, 3) := by decide +kernel
theorem dX7_noticed_42 : decode cX7_noticed 42 = .ok (.getfield 74, 3) := by decide +kernel
theorem dX7_noticed_45 : decode cX7_noticed 45 = .ok (.iand, 1) := by decide +kernel
theorem dX7_noticed_46 : decode cX7_noticed 46 = .ok (.aload_n 0, 1) := by decide +kernel
theorem dX7_noticed_47 : decode cX7_noticed 47 = .ok (.getfield 12, 3) := by decide +kernel
theorem dX7_noticed_50 : decode cX7_noticed 50 = .ok (.getfield 66, 3) := by decide +kernel
theorem dX7_noticed_53 : decode cX7_noticed 53 = .ok (.getfield 74, 3) := by decide +kernel
theorem dX7_noticed_56 : decode cX7_noticed 56 = .ok (.iload_n 3, 1) := by decide +kernel
theorem dX7_noticed_57 : decode cX7_noticed 57 = .ok (.invokevirtual 191, 3) := by decide +kernel
theorem dX7_noticed_60 : decode cX7_noticed 60 = .ok (.ireturn, 1) := by decide +kernel
set_option maxRecDepth 20000 in
theorem ggX7_single_X6_arrange : GoodIn wsX7_single wsX6_arrange := goodIn_r _ [11, 12, 13, 14, 15, 16, 17, 18, 10, 19, 20, 21, 22, 23, 24, 25, 72, 73, 59, 60, 61, 62, 63, 64, 65, 66, 67, 68, 69, 70, 71] (by decide +kernel) (by decide +kernel)
set_option maxRecDepth 20000 in
theorem gX7_single_X6_arrange : GoodIn wsX7_single (wsV RX7 195 RX6 yX6_arrange wsX6_arrange) := goodIn_app (goodIn_of _ (by decide +kernel)) ggX7_single_X6_arrange
set_option maxRecDepth 20000 in
theorem ggX7_single_X6_allTrials : GoodIn wsX7_single wsX6_allTrials := goodIn_r _ [29, 12, 20, 21, 30, 31, 32, 33, 72, 73, 59, 60, 61, 62, 63, 64, 65, 66, 67] (by decide +kernel) (by decide +kernel)
set_option maxRecDepth 20000 in
theorem gX7_single_X6_allTrials : GoodIn wsX7_single (wsV RX7 199 RX6 yX6_allTrials wsX6_allTrials) := goodIn_app (goodIn_of _ (by decide +kernel)) ggX7_single_X6_allTrials
set_option maxRecDepth 20000 in
theorem ggX7_single_X0_milkOf : GoodIn wsX7_single wsX0_milkOf := goodIn_r _ [38, 39, 40, 59, 60, 61, 62, 63, 64, 65, 66, 67] (by decide +kernel) (by decide +kernel)
set_option maxRecDepth 20000 in
theorem gX7_single_X0_milkOf : GoodIn wsX7_single (wsV RX7 140 RX0 yX0_milkOf wsX0_milkOf) := goodIn_app (goodIn_of _ (by decide +kernel)) ggX7_single_X0_milkOf
set_option maxRecDepth 20000 in
theorem ggX7_single_X7_fraction : GoodIn wsX7_single wsX7_fraction := goodIn_r _ [44, 45, 46, 43, 47, 48, 49, 32, 50] (by decide +kernel) (by decide +kernel)
set_option maxRecDepth 20000 in
theorem gX7_single_X7_fraction : GoodIn wsX7_single (va_wsS RX7 203 yX7_fraction wsX7_fraction) := goodIn_app (goodIn_of _ (by decide +kernel)) ggX7_single_X7_fraction
theorem dX7_single_0 : decode cX7_single 0 = .ok (.iload_n 1, 1) := by decide +kernel
theorem dX7_single_1 : decode cX7_single 1 = .ok (.bipush (-2), 2) := by decide +kernel
theorem dX7_single_3 : decode cX7_single 3 = .ok (.if_icmp .ge 5, 3) := by decide +kernel
theorem dX7_single_6 : decode cX7_single 6 = .ok (.iconst (-1), 1) := by decide +kernel
theorem dX7_single_7 : decode cX7_single 7 = .ok (.ireturn, 1) := by decide +kernel
theorem dX7_single_8 : decode cX7_single 8 = .ok (.aload_n 0, 1) := by decide +kernel
theorem dX7_single_9 : decode cX7_single 9 = .ok (.getfield 40, 3) := by decide +kernel
theorem dX7_single_12 : decode cX7_single 12 = .ok (.aload_n 0, 1) := by decide +kernel
theorem dX7_single_13 : decode cX7_single 13 = .ok (.getfield 12, 3) := by decide +kernel
theorem dX7_single_16 : decode cX7_single 16 = .ok (.invokevirtual 195, 3) := by decide +kernel
theorem dX7_single_19 : decode cX7_single 19 = .ok (.iload_n 1, 1) := by decide +kernel
theorem dX7_single_20 : decode cX7_single 20 = .ok (.ifCond .ge 41, 3) := by decide +kernel
theorem dX7_single_23 : decode cX7_single 23 = .ok (.aload_n 0, 1) := by decide +kernel
theorem dX7_single_24 : decode cX7_single 24 = .ok (.getfield 40, 3) := by decide +kernel
theorem dX7_single_27 : decode cX7_single 27 = .ok (.aload_n 0, 1) := by decide +kernel
theorem dX7_single_28 : decode cX7_single 28 = .ok (.getfield 12, 3) := by decide +kernel
theorem dX7_single_31 : decode cX7_single 31 = .ok (.invokevirtual 199, 3) := by decide +kernel
theorem dX7_single_34 : decode cX7_single 34 = .ok (.i2l, 1) := by decide +kernel
theorem dX7_single_35 : decode cX7_single 35 = .ok (.aload_n 0, 1) := by decide +kernel
theorem dX7_single_36 : decode cX7_single 36 = .ok (.getfield 12, 3) := by decide +kernel
theorem dX7_single_39 : decode cX7_single 39 = .ok (.aload_n 0, 1) := by decide +kernel
theorem dX7_single_40 : decode cX7_single 40 = .ok (.getfield 12, 3) := by decide +kernel
theorem dX7_single_43 : decode cX7_single 43 = .ok (.getfield 66, 3) := by decide +kernel
theorem dX7_single_46 : decode cX7_single 46 = .ok (.getfield 74, 3) := by decide +kernel
theorem dX7_single_49 : decode cX7_single 49 = .ok (.invokevirtual 140, 3) := by decide +kernel
theorem dX7_single_52 : decode cX7_single 52 = .ok (.i2l, 1) := by decide +kernel
theorem dX7_single_53 : decode cX7_single 53 = .ok (.iconst (-1), 1) := by decide +kernel
theorem dX7_single_54 : decode cX7_single 54 = .ok (.iload_n 1, 1) := by decide +kernel
theorem dX7_single_55 : decode cX7_single 55 = .ok (.isub, 1) := by decide +kernel
theorem dX7_single_56 : decode cX7_single 56 = .ok (.invokestatic 203, 3) := by decide +kernel
theorem dX7_single_59 : decode cX7_single 59 = .ok (.l2i, 1) := by decide +kernel
theorem dX7_single_60 : decode cX7_single 60 = .ok (.ireturn, 1) := by decide +kernel
theorem dX7_single_61 : decode cX7_single 61 = .ok (.iload_n 1, 1) := by decide +kernel
theorem dX7_single_62 : decode cX7_single 62 = .ok (.aload_n 0, 1) := by decide +kernel
theorem dX7_single_63 : decode cX7_single 63 = .ok (.getfield 40, 3) := by decide +kernel
theorem dX7_single_66 : decode cX7_single 66 = .ok (.getfield 207, 3) := by decide +kernel
theorem dX7_single_69 : decode cX7_single 69 = .ok (.if_icmp .ge 15, 3) := by decide +kernel
theorem dX7_single_72 : decode cX7_single 72 = .ok (.aload_n 0, 1) := by decide +kernel
theorem dX7_single_73 : decode cX7_single 73 = .ok (.getfield 40, 3) := by decide +kernel
theorem dX7_single_76 : decode cX7_single 76 = .ok (.getfield 208, 3) := by decide +kernel
theorem dX7_single_79 : decode cX7_single 79 = .ok (.iload_n 1, 1) := by decide +kernel
theorem dX7_single_80 : decode cX7_single 80 = .ok (.iaload, 1) := by decide +kernel
theorem dX7_single_81 : decode cX7_single 81 = .ok (.goto 5, 3) := by decide +kernel
theorem dX7_single_84 : decode cX7_single 84 = .ok (.bipush (-4), 2) := by decide +kernel
theorem dX7_single_86 : decode cX7_single 86 = .ok (.ireturn, 1) := by decide +kernel
set_option maxRecDepth 20000 in
theorem ggX7_share_X7_isCow : GoodIn wsX7_share wsX7_isCow := goodIn_r _ [5, 6, 7, 40, 41, 42, 43, 44, 45, 46, 47, 48, 49, 50, 51, 52, 53, 54, 55, 56] (by decide +kernel) (by decide +kernel)
set_option maxRecDepth 20000 in
theorem gX7_share_X7_isCow : GoodIn wsX7_share (wsV RX7 89 RX7 yX7_isCow wsX7_isCow) := goodIn_app (goodIn_of _ (by decide +kernel)) ggX7_share_X7_isCow
set_option maxRecDepth 20000 in
theorem ggX7_share_X7_isMix : GoodIn wsX7_share wsX7_isMix := goodIn_r _ [11, 6, 12, 13, 14, 15, 16, 17, 40, 41, 42, 43, 44, 45, 46, 47, 48, 49, 50, 51, 52, 53, 54, 55, 56] (by decide +kernel) (by decide +kernel)
set_option maxRecDepth 20000 in
theorem gX7_share_X7_isMix : GoodIn wsX7_share (wsV RX7 109 RX7 yX7_isMix wsX7_isMix) := goodIn_app (goodIn_of _ (by decide +kernel)) ggX7_share_X7_isMix
set_option maxRecDepth 20000 in
theorem ggX7_share_X7_isEither : GoodIn wsX7_share wsX7_isEither := goodIn_r _ [20] (by decide +kernel) (by decide +kernel)
set_option maxRecDepth 20000 in
theorem gX7_share_X7_isEither : GoodIn wsX7_share (va_wsS RX7 100 yX7_isEither wsX7_isEither) := goodIn_app (goodIn_of _ (by decide +kernel)) ggX7_share_X7_isEither
set_option maxRecDepth 20000 in
theorem ggX7_share_X7_milkFraction : GoodIn wsX7_share wsX7_milkFraction := goodIn_r _ [24, 6, 25, 26, 27, 15, 28, 17, 29, 30, 31, 4, 32, 33, 34, 35, 36, 37, 38, 39, 40, 41, 42, 43, 44, 45, 46, 47, 48, 49, 50, 51, 52, 53, 54, 55, 56] (by decide +kernel) (by decide +kernel)
set_option maxRecDepth 20000 in
theorem gX7_share_X7_milkFraction : GoodIn wsX7_share (wsV RX7 191 RX7 yX7_milkFraction wsX7_milkFraction) := goodIn_app (goodIn_of _ (by decide +kernel)) ggX7_share_X7_milkFraction
theorem dX7_share_0 : decode cX7_share 0 = .ok (.aload_n 0, 1) := by decide +kernel
theorem dX7_share_1 : decode cX7_share 1 = .ok (.iload_n 1, 1) := by decide +kernel
theorem dX7_share_2 : decode cX7_share 2 = .ok (.invokevirtual 89, 3) := by decide +kernel
theorem dX7_share_5 : decode cX7_share 5 = .ok (.ifCond .eq 18, 3) := by decide +kernel
theorem dX7_share_8 : decode cX7_share 8 = .ok (.aload_n 0, 1) := by decide +kernel
theorem dX7_share_9 : decode cX7_share 9 = .ok (.iload_n 2, 1) := by decide +kernel
theorem dX7_share_10 : decode cX7_share 10 = .ok (.invokevirtual 109, 3) := by decide +kernel
theorem dX7_share_13 : decode cX7_share 13 = .ok (.ifCond .eq 10, 3) := by decide +kernel
theorem dX7_share_16 : decode cX7_share 16 = .ok (.iload_n 3, 1) := by decide +kernel
theorem dX7_share_17 : decode cX7_share 17 = .ok (.invokestatic 100, 3) := by decide +kernel
theorem dX7_share_20 : decode cX7_share 20 = .ok (.ifCond .ne 5, 3) := by decide +kernel
theorem dX7_share_23 : decode cX7_share 23 = .ok (.iconst (-1), 1) := by decide +kernel
theorem dX7_share_24 : decode cX7_share 24 = .ok (.ireturn, 1) := by decide +kernel
theorem dX7_share_25 : decode cX7_share 25 = .ok (.aload_n 0, 1) := by decide +kernel
theorem dX7_share_26 : decode cX7_share 26 = .ok (.iconst 1, 1) := by decide +kernel
theorem dX7_share_27 : decode cX7_share 27 = .ok (.iload_n 1, 1) := by decide +kernel
theorem dX7_share_28 : decode cX7_share 28 = .ok (.ishl, 1) := by decide +kernel
theorem dX7_share_29 : decode cX7_share 29 = .ok (.iload_n 2, 1) := by decide +kernel
theorem dX7_share_30 : decode cX7_share 30 = .ok (.iand, 1) := by decide +kernel
theorem dX7_share_31 : decode cX7_share 31 = .ok (.iload_n 2, 1) := by decide +kernel
theorem dX7_share_32 : decode cX7_share 32 = .ok (.iload_n 3, 1) := by decide +kernel
theorem dX7_share_33 : decode cX7_share 33 = .ok (.invokevirtual 191, 3) := by decide +kernel
theorem dX7_share_36 : decode cX7_share 36 = .ok (.ireturn, 1) := by decide +kernel
set_option maxRecDepth 20000 in
theorem ggX7_image_X0_becomeLike : GoodIn wsX7_image wsX0_becomeLike := goodIn_r _ [8, 9, 10, 11, 12, 13, 14, 15, 16, 17, 18, 19, 20, 21, 22, 23, 24, 25, 26, 27, 28, 29, 30, 39, 40, 41, 42, 43, 44, 45, 46, 47, 48, 49, 50, 51] (by decide +kernel) (by decide +kernel)
set_option maxRecDepth 20000 in
theorem gX7_image_X0_becomeLike : GoodIn wsX7_image (wsV RX7 211 RX0 yX0_becomeLike wsX0_becomeLike) := goodIn_app (goodIn_of _ (by decide +kernel)) ggX7_image_X0_becomeLike
theorem dX7_image_0 : decode cX7_image 0 = .ok (.aload_n 0, 1) := by decide +kernel
theorem dX7_image_1 : decode cX7_image 1 = .ok (.getfield 16, 3) := by decide +kernel
theorem dX7_image_4 : decode cX7_image 4 = .ok (.aload_n 0, 1) := by decide +kernel
theorem dX7_image_5 : decode cX7_image 5 = .ok (.getfield 12, 3) := by decide +kernel
theorem dX7_image_8 : decode cX7_image 8 = .ok (.invokevirtual 211, 3) := by decide +kernel
theorem dX7_image_11 : decode cX7_image 11 = .ok (.aload_n 0, 1) := by decide +kernel
theorem dX7_image_12 : decode cX7_image 12 = .ok (.iconst 1, 1) := by decide +kernel
theorem dX7_image_13 : decode cX7_image 13 = .ok (.putfield 19, 3) := by decide +kernel
theorem dX7_image_16 : decode cX7_image 16 = .ok (.iconst 1, 1) := by decide +kernel
theorem dX7_image_17 : decode cX7_image 17 = .ok (.ireturn, 1) := by decide +kernel
set_option maxRecDepth 20000 in
theorem ggX7_restore_X0_becomeLike : GoodIn wsX7_restore wsX0_becomeLike := goodIn_r _ [8, 9, 10, 11, 12, 13, 14, 15, 16, 17, 18, 19, 20, 21, 22, 23, 24, 25, 26, 27, 28, 29, 30, 39, 40, 41, 42, 43, 44, 45, 46, 47, 48, 49, 50, 51] (by decide +kernel) (by decide +kernel)
set_option maxRecDepth 20000 in
theorem gX7_restore_X0_becomeLike : GoodIn wsX7_restore (wsV RX7 211 RX0 yX0_becomeLike wsX0_becomeLike) := goodIn_app (goodIn_of _ (by decide +kernel)) ggX7_restore_X0_becomeLike
theorem dX7_restore_0 : decode cX7_restore 0 = .ok (.aload_n 0, 1) := by decide +kernel
theorem dX7_restore_1 : decode cX7_restore 1 = .ok (.getfield 19, 3) := by decide +kernel
theorem dX7_restore_4 : decode cX7_restore 4 = .ok (.ifCond .ne 6, 3) := by decide +kernel
theorem dX7_restore_7 : decode cX7_restore 7 = .ok (.bipush (-4), 2) := by decide +kernel
theorem dX7_restore_9 : decode cX7_restore 9 = .ok (.ireturn, 1) := by decide +kernel
theorem dX7_restore_10 : decode cX7_restore 10 = .ok (.aload_n 0, 1) := by decide +kernel
theorem dX7_restore_11 : decode cX7_restore 11 = .ok (.getfield 12, 3) := by decide +kernel
theorem dX7_restore_14 : decode cX7_restore 14 = .ok (.aload_n 0, 1) := by decide +kernel
theorem dX7_restore_15 : decode cX7_restore 15 = .ok (.getfield 16, 3) := by decide +kernel
theorem dX7_restore_18 : decode cX7_restore 18 = .ok (.invokevirtual 211, 3) := by decide +kernel
theorem dX7_restore_21 : decode cX7_restore 21 = .ok (.iconst 1, 1) := by decide +kernel
theorem dX7_restore_22 : decode cX7_restore 22 = .ok (.ireturn, 1) := by decide +kernel
set_option maxRecDepth 20000 in
theorem ggX7_fits_X7_isTaster : GoodIn wsX7_fits wsX7_isTaster := goodIn_r _ [9, 1, 10, 101, 102, 103, 104, 105, 106, 107, 108, 109, 110, 111, 112, 113, 114, 115, 116, 117] (by decide +kernel) (by decide +kernel)
set_option maxRecDepth 20000 in
theorem gX7_fits_X7_isTaster : GoodIn wsX7_fits (wsV RX7 97 RX7 yX7_isTaster wsX7_isTaster) := goodIn_app (goodIn_of _ (by decide +kernel)) ggX7_fits_X7_isTaster
set_option maxRecDepth 20000 in
theorem ggX7_fits_X7_isLaneOfSheet : GoodIn wsX7_fits wsX7_isLaneOfSheet := goodIn_r _ [13, 14, 15, 8, 16] (by decide +kernel) (by decide +kernel)
set_option maxRecDepth 20000 in
theorem gX7_fits_X7_isLaneOfSheet : GoodIn wsX7_fits (va_wsS RX7 214 yX7_isLaneOfSheet wsX7_isLaneOfSheet) := goodIn_app (goodIn_of _ (by decide +kernel)) ggX7_fits_X7_isLaneOfSheet
set_option maxRecDepth 20000 in
theorem ggX7_fits_X7_readRow : GoodIn wsX7_fits wsX7_readRow := goodIn_r _ [20, 21, 4, 1, 22, 23, 24, 25, 26, 27, 28, 29, 30, 31, 32, 33, 34, 35, 36, 37, 38, 39, 40, 41, 42, 43, 44, 45, 46, 47, 48, 49, 50, 51, 101, 102, 103, 104, 105, 106, 107, 108, 118, 119, 120, 109, 110, 111, 112, 113, 114, 115, 116, 117, 121, 122, 123, 124] (by decide +kernel) (by decide +kernel)
set_option maxRecDepth 20000 in
theorem gX7_fits_X7_readRow : GoodIn wsX7_fits (wsV RX7 218 RX7 yX7_readRow wsX7_readRow) := goodIn_app (goodIn_of _ (by decide +kernel)) ggX7_fits_X7_readRow
set_option maxRecDepth 20000 in
theorem ggX7_fits_X3_fitting : GoodIn wsX7_fits wsX3_fitting := goodIn_r _ [55, 44, 45, 46, 56, 34, 35, 36, 37, 38, 57, 58, 59, 60, 61, 62, 63, 64, 65, 66, 67, 68, 69, 70, 71, 72, 73, 74, 75, 76, 77, 78, 79, 80, 81, 82, 83, 84, 85, 86, 87, 121, 122, 123, 124, 109, 110, 111, 112, 113, 114, 115, 116, 117, 125, 126, 127, 128] (by decide +kernel) (by decide +kernel)
set_option maxRecDepth 20000 in
theorem gX7_fits_X3_fitting : GoodIn wsX7_fits (wsV RX7 221 RX3 yX3_fitting wsX3_fitting) := goodIn_app (goodIn_of _ (by decide +kernel)) ggX7_fits_X3_fitting
set_option maxRecDepth 20000 in
theorem ggX7_fits_X3_fittingButOne : GoodIn wsX7_fits wsX3_fittingButOne := goodIn_r _ [91, 44, 45, 46, 56, 34, 35, 36, 37, 38, 57, 58, 59, 60, 61, 62, 63, 64, 65, 66, 67, 68, 69, 70, 71, 72, 73, 74, 75, 76, 77, 78, 79, 80, 81, 82, 83, 84, 85, 86, 87, 121, 122, 123, 124, 109, 110, 111, 112, 113, 114, 115, 116, 117, 125, 126, 127, 128] (by decide +kernel) (by decide +kernel)
set_option maxRecDepth 20000 in
theorem gX7_fits_X3_fittingButOne : GoodIn wsX7_fits (wsV RX7 225 RX3 yX3_fittingButOne wsX3_fittingButOne) := goodIn_app (goodIn_of _ (by decide +kernel)) ggX7_fits_X3_fittingButOne
set_option maxRecDepth 20000 in
theorem ggX7_fits_X3_kindsThatFit : GoodIn wsX7_fits wsX3_kindsThatFit := goodIn_r _ [95, 96, 53, 54, 42, 55, 44, 45, 46, 56, 34, 35, 36, 37, 38, 57, 58, 59, 60, 61, 62, 63, 64, 65, 66, 67, 68, 69, 70, 71, 72, 73, 74, 75, 76, 77, 78, 79, 80, 81, 82, 83, 84, 85, 86, 87, 121, 122, 123, 124, 109, 110, 111, 112, 113, 114, 115, 116, 117, 125, 126, 127, 128] (by decide +kernel) (by decide +kernel)
set_option maxRecDepth 20000 in
theorem gX7_fits_X3_kindsThatFit : GoodIn wsX7_fits (wsV RX7 228 RX3 yX3_kindsThatFit wsX3_kindsThatFit) := goodIn_app (goodIn_of _ (by decide +kernel)) ggX7_fits_X3_kindsThatFit
set_option maxRecDepth 20000 in
theorem ggX7_fits_X3_finesThatFit : GoodIn wsX7_fits wsX3_finesThatFit := goodIn_r _ [100, 96, 53, 54, 42, 55, 44, 45, 46, 56, 34, 35, 36, 37, 38, 57, 58, 59, 60, 61, 62, 63, 64, 65, 66, 67, 68, 69, 70, 71, 72, 73, 74, 75, 76, 77, 78, 79, 80, 81, 82, 83, 84, 85, 86, 87, 121, 122, 123, 124, 109, 110, 111, 112, 113, 114, 115, 116, 117, 125, 126, 127, 128] (by decide +kernel) (by decide +kernel)
set_option maxRecDepth 20000 in
theorem gX7_fits_X3_finesThatFit : GoodIn wsX7_fits (wsV RX7 232 RX3 yX3_finesThatFit wsX3_finesThatFit) := goodIn_app (goodIn_of _ (by decide +kernel)) ggX7_fits_X3_finesThatFit
theorem dX7_fits_0 : decode cX7_fits 0 = .ok (.aload_n 0, 1) := by decide +kernel
theorem dX7_fits_1 : decode cX7_fits 1 = .ok (.iload_n 1, 1) := by decide +kernel
theorem dX7_fits_2 : decode cX7_fits 2 = .ok (.invokevirtual 97, 3) := by decide +kernel
theorem dX7_fits_5 : decode cX7_fits 5 = .ok (.ifCond .eq 35, 3) := by decide +kernel
theorem dX7_fits_8 : decode cX7_fits 8 = .ok (.iload_n 2, 1) := by decide +kernel
theorem dX7_fits_9 : decode cX7_fits 9 = .ok (.iload_n 3, 1) := by decide +kernel
theorem dX7_fits_10 : decode cX7_fits 10 = .ok (.invokestatic 214, 3) := by decide +kernel
theorem dX7_fits_13 : decode cX7_fits 13 = .ok (.ifCond .eq 27, 3) := by decide +kernel
theorem dX7_fits_16 : decode cX7_fits 16 = .ok (.iload 5, 2) := by decide +kernel
theorem dX7_fits_18 : decode cX7_fits 18 = .ok (.iconst 1, 1) := by decide +kernel
theorem dX7_fits_19 : decode cX7_fits 19 = .ok (.if_icmp .lt 21, 3) := by decide +kernel
theorem dX7_fits_22 : decode cX7_fits 22 = .ok (.iload 5, 2) := by decide +kernel
theorem dX7_fits_24 : decode cX7_fits 24 = .ok (.bipush 6, 2) := by decide +kernel
theorem dX7_fits_26 : decode cX7_fits 26 = .ok (.if_icmp .gt 14, 3) := by decide +kernel
theorem dX7_fits_29 : decode cX7_fits 29 = .ok (.iload 6, 2) := by decide +kernel
theorem dX7_fits_31 : decode cX7_fits 31 = .ok (.ifCond .lt 9, 3) := by decide +kernel
theorem dX7_fits_34 : decode cX7_fits 34 = .ok (.iload 6, 2) := by decide +kernel
theorem dX7_fits_36 : decode cX7_fits 36 = .ok (.iconst 3, 1) := by decide +kernel
theorem dX7_fits_37 : decode cX7_fits 37 = .ok (.if_icmp .le 5, 3) := by decide +kernel
theorem dX7_fits_40 : decode cX7_fits 40 = .ok (.iconst (-1), 1) := by decide +kernel
theorem dX7_fits_41 : decode cX7_fits 41 = .ok (.ireturn, 1) := by decide +kernel
theorem dX7_fits_42 : decode cX7_fits 42 = .ok (.aload_n 0, 1) := by decide +kernel
theorem dX7_fits_43 : decode cX7_fits 43 = .ok (.iload_n 2, 1) := by decide +kernel
theorem dX7_fits_44 : decode cX7_fits 44 = .ok (.iload_n 3, 1) := by decide +kernel
theorem dX7_fits_45 : decode cX7_fits 45 = .ok (.iload 4, 2) := by decide +kernel
theorem dX7_fits_47 : decode cX7_fits 47 = .ok (.iload 5, 2) := by decide +kernel
theorem dX7_fits_49 : decode cX7_fits 49 = .ok (.invokevirtual 218, 3) := by decide +kernel
theorem dX7_fits_52 : decode cX7_fits 52 = .ok (.istore 7, 2) := by decide +kernel
theorem dX7_fits_54 : decode cX7_fits 54 = .ok (.iload 7, 2) := by decide +kernel
theorem dX7_fits_56 : decode cX7_fits 56 = .ok (.ifCond .eq 6, 3) := by decide +kernel
theorem dX7_fits_59 : decode cX7_fits 59 = .ok (.iload 7, 2) := by decide +kernel
theorem dX7_fits_61 : decode cX7_fits 61 = .ok (.ireturn, 1) := by decide +kernel
theorem dX7_fits_62 : decode cX7_fits 62 = .ok (.aload_n 0, 1) := by decide +kernel
theorem dX7_fits_63 : decode cX7_fits 63 = .ok (.getfield 12, 3) := by decide +kernel
theorem dX7_fits_66 : decode cX7_fits 66 = .ok (.getfield 103, 3) := by decide +kernel
theorem dX7_fits_69 : decode cX7_fits 69 = .ok (.iload_n 1, 1) := by decide +kernel
theorem dX7_fits_70 : decode cX7_fits 70 = .ok (.iaload, 1) := by decide +kernel
theorem dX7_fits_71 : decode cX7_fits 71 = .ok (.istore 8, 2) := by decide +kernel
theorem dX7_fits_73 : decode cX7_fits 73 = .ok (.aload_n 0, 1) := by decide +kernel
theorem dX7_fits_74 : decode cX7_fits 74 = .ok (.getfield 12, 3) := by decide +kernel
theorem dX7_fits_77 : decode cX7_fits 77 = .ok (.getfield 106, 3) := by decide +kernel
theorem dX7_fits_80 : decode cX7_fits 80 = .ok (.iload_n 1, 1) := by decide +kernel
theorem dX7_fits_81 : decode cX7_fits 81 = .ok (.iaload, 1) := by decide +kernel
theorem dX7_fits_82 : decode cX7_fits 82 = .ok (.istore 9, 2) := by decide +kernel
theorem dX7_fits_84 : decode cX7_fits 84 = .ok (.iload 6, 2) := by decide +kernel
theorem dX7_fits_86 : decode cX7_fits 86 = .ok (.tableswitch 72 0 2 #[26, 42, 58], 26) := by decide +kernel
theorem dX7_fits_112 : decode cX7_fits 112 = .ok (.aload_n 0, 1) := by decide +kernel
theorem dX7_fits_113 : decode cX7_fits 113 = .ok (.getfield 47, 3) := by decide +kernel
theorem dX7_fits_116 : decode cX7_fits 116 = .ok (.aload_n 0, 1) := by decide +kernel
theorem dX7_fits_117 : decode cX7_fits 117 = .ok (.getfield 12, 3) := by decide +kernel
theorem dX7_fits_120 : decode cX7_fits 120 = .ok (.iload 8, 2) := by decide +kernel
theorem dX7_fits_122 : decode cX7_fits 122 = .ok (.iload 9, 2) := by decide +kernel
theorem dX7_fits_124 : decode cX7_fits 124 = .ok (.invokevirtual 221, 3) := by decide +kernel
theorem dX7_fits_127 : decode cX7_fits 127 = .ok (.ireturn, 1) := by decide +kernel
theorem dX7_fits_128 : decode cX7_fits 128 = .ok (.aload_n 0, 1) := by decide +kernel
theorem dX7_fits_129 : decode cX7_fits 129 = .ok (.getfield 47, 3) := by decide +kernel
theorem dX7_fits_132 : decode cX7_fits 132 = .ok (.aload_n 0, 1) := by decide +kernel
theorem dX7_fits_133 : decode cX7_fits 133 = .ok (.getfield 12, 3) := by decide +kernel
theorem dX7_fits_136 : decode cX7_fits 136 = .ok (.iload 8, 2) := by decide +kernel
theorem dX7_fits_138 : decode cX7_fits 138 = .ok (.iload 9, 2) := by decide +kernel
theorem dX7_fits_140 : decode cX7_fits 140 = .ok (.invokevirtual 225, 3) := by decide +kernel
theorem dX7_fits_143 : decode cX7_fits 143 = .ok (.ireturn, 1) := by decide +kernel
theorem dX7_fits_144 : decode cX7_fits 144 = .ok (.aload_n 0, 1) := by decide +kernel
theorem dX7_fits_145 : decode cX7_fits 145 = .ok (.getfield 47, 3) := by decide +kernel
theorem dX7_fits_148 : decode cX7_fits 148 = .ok (.aload_n 0, 1) := by decide +kernel
theorem dX7_fits_149 : decode cX7_fits 149 = .ok (.getfield 12, 3) := by decide +kernel
theorem dX7_fits_152 : decode cX7_fits 152 = .ok (.iload 9, 2) := by decide +kernel
theorem dX7_fits_154 : decode cX7_fits 154 = .ok (.invokevirtual 228, 3) := by decide +kernel
theorem dX7_fits_157 : decode cX7_fits 157 = .ok (.ireturn, 1) := by decide +kernel
theorem dX7_fits_158 : decode cX7_fits 158 = .ok (.aload_n 0, 1) := by decide +kernel
theorem dX7_fits_159 : decode cX7_fits 159 = .ok (.getfield 47, 3) := by decide +kernel
theorem dX7_fits_162 : decode cX7_fits 162 = .ok (.aload_n 0, 1) := by decide +kernel
theorem dX7_fits_163 : decode cX7_fits 163 = .ok (.getfield 12, 3) := by decide +kernel
theorem dX7_fits_166 : decode cX7_fits 166 = .ok (.iload 8, 2) := by decide +kernel
theorem dX7_fits_168 : decode cX7_fits 168 = .ok (.invokevirtual 232, 3) := by decide +kernel
theorem dX7_fits_171 : decode cX7_fits 171 = .ok (.ireturn, 1) := by decide +kernel
set_option maxRecDepth 20000 in
theorem ggX7_slips_X7_isCow : GoodIn wsX7_slips wsX7_isCow := goodIn_r _ [12, 3, 13, 119, 120, 121, 122, 123, 124, 125, 126, 127, 128, 129, 130, 131, 132, 133, 134, 135] (by decide +kernel) (by decide +kernel)
set_option maxRecDepth 20000 in
theorem gX7_slips_X7_isCow : GoodIn wsX7_slips (wsV RX7 89 RX7 yX7_isCow wsX7_isCow) := goodIn_app (goodIn_of _ (by decide +kernel)) ggX7_slips_X7_isCow
set_option maxRecDepth 20000 in
theorem ggX7_slips_X7_isTaster : GoodIn wsX7_slips wsX7_isTaster := goodIn_r _ [17, 3, 18, 119, 120, 121, 122, 123, 124, 125, 126, 127, 128, 129, 130, 131, 132, 133, 134, 135] (by decide +kernel) (by decide +kernel)
set_option maxRecDepth 20000 in
theorem gX7_slips_X7_isTaster : GoodIn wsX7_slips (wsV RX7 97 RX7 yX7_isTaster wsX7_isTaster) := goodIn_app (goodIn_of _ (by decide +kernel)) ggX7_slips_X7_isTaster
set_option maxRecDepth 20000 in
theorem ggX7_slips_X7_isLaneOfSheet : GoodIn wsX7_slips wsX7_isLaneOfSheet := goodIn_r _ [21, 22, 23, 11, 24] (by decide +kernel) (by decide +kernel)
set_option maxRecDepth 20000 in
theorem gX7_slips_X7_isLaneOfSheet : GoodIn wsX7_slips (va_wsS RX7 214 yX7_isLaneOfSheet wsX7_isLaneOfSheet) := goodIn_app (goodIn_of _ (by decide +kernel)) ggX7_slips_X7_isLaneOfSheet
set_option maxRecDepth 20000 in
theorem ggX7_slips_X7_isEither : GoodIn wsX7_slips wsX7_isEither := goodIn_r _ [27] (by decide +kernel) (by decide +kernel)
set_option maxRecDepth 20000 in
theorem gX7_slips_X7_isEither : GoodIn wsX7_slips (va_wsS RX7 100 yX7_isEither wsX7_isEither) := goodIn_app (goodIn_of _ (by decide +kernel)) ggX7_slips_X7_isEither
set_option maxRecDepth 20000 in
theorem ggX7_slips_X7_readRow : GoodIn wsX7_slips wsX7_readRow := goodIn_r _ [31, 32, 2, 3, 33, 34, 35, 36, 37, 38, 39, 40, 41, 42, 43, 44, 45, 46, 47, 48, 49, 50, 51, 52, 53, 54, 55, 56, 57, 58, 59, 60, 61, 62, 119, 120, 121, 122, 123, 124, 125, 126, 140, 141, 142, 127, 128, 129, 130, 131, 132, 133, 134, 135, 143, 144, 145, 146] (by decide +kernel) (by decide +kernel)
set_option maxRecDepth 20000 in
theorem gX7_slips_X7_readRow : GoodIn wsX7_slips (wsV RX7 218 RX7 yX7_readRow wsX7_readRow) := goodIn_app (goodIn_of _ (by decide +kernel)) ggX7_slips_X7_readRow
set_option maxRecDepth 20000 in
theorem ggX7_slips_X3_compare : GoodIn wsX7_slips wsX3_compare := goodIn_r _ [66, 55, 67, 56, 57, 68, 69, 70, 47, 71, 72, 73, 74, 75, 76, 77, 78, 79, 80, 81, 49, 82, 83, 84, 85, 86, 87, 88, 89, 90, 91, 92, 93, 94, 95, 96, 97, 98, 45, 46, 48, 143, 144, 145, 146, 127, 128, 129, 130, 131, 132, 133, 134, 135, 136, 137, 138, 139] (by decide +kernel) (by decide +kernel)
set_option maxRecDepth 20000 in
theorem gX7_slips_X3_compare : GoodIn wsX7_slips (wsV RX7 237 RX3 yX3_compare wsX3_compare) := goodIn_app (goodIn_of _ (by decide +kernel)) ggX7_slips_X3_compare
set_option maxRecDepth 20000 in
theorem ggX7_slips_X3_weightOf : GoodIn wsX7_slips wsX3_weightOf := goodIn_r _ [102, 103, 104, 105, 106, 107, 53, 108, 55, 67, 127, 128, 129, 130, 131, 132, 133, 134, 135, 143, 144, 145, 146] (by decide +kernel) (by decide +kernel)
set_option maxRecDepth 20000 in
theorem gX7_slips_X3_weightOf : GoodIn wsX7_slips (wsV RX7 241 RX3 yX3_weightOf wsX3_weightOf) := goodIn_app (goodIn_of _ (by decide +kernel)) ggX7_slips_X3_weightOf
set_option maxRecDepth 20000 in
theorem ggX7_slips_X7_fraction : GoodIn wsX7_slips wsX7_fraction := goodIn_r _ [111, 112, 113, 11, 114, 115, 116, 117, 118] (by decide +kernel) (by decide +kernel)
set_option maxRecDepth 20000 in
theorem gX7_slips_X7_fraction : GoodIn wsX7_slips (va_wsS RX7 203 yX7_fraction wsX7_fraction) := goodIn_app (goodIn_of _ (by decide +kernel)) ggX7_slips_X7_fraction
theorem dX7_slips_0 : decode cX7_slips 0 = .ok (.aload_n 0, 1) := by decide +kernel
theorem dX7_slips_1 : decode cX7_slips 1 = .ok (.iload_n 1, 1) := by decide +kernel
theorem dX7_slips_2 : decode cX7_slips 2 = .ok (.invokevirtual 89, 3) := by decide +kernel
theorem dX7_slips_5 : decode cX7_slips 5 = .ok (.ifCond .eq 21, 3) := by decide +kernel
theorem dX7_slips_8 : decode cX7_slips 8 = .ok (.aload_n 0, 1) := by decide +kernel
theorem dX7_slips_9 : decode cX7_slips 9 = .ok (.iload_n 2, 1) := by decide +kernel
theorem dX7_slips_10 : decode cX7_slips 10 = .ok (.invokevirtual 97, 3) := by decide +kernel
theorem dX7_slips_13 : decode cX7_slips 13 = .ok (.ifCond .eq 13, 3) := by decide +kernel
theorem dX7_slips_16 : decode cX7_slips 16 = .ok (.iload_n 3, 1) := by decide +kernel
theorem dX7_slips_17 : decode cX7_slips 17 = .ok (.ifCond .lt 9, 3) := by decide +kernel
theorem dX7_slips_20 : decode cX7_slips 20 = .ok (.iload_n 3, 1) := by decide +kernel
theorem dX7_slips_21 : decode cX7_slips 21 = .ok (.bipush 10, 2) := by decide +kernel
theorem dX7_slips_23 : decode cX7_slips 23 = .ok (.if_icmp .le 7, 3) := by decide +kernel
theorem dX7_slips_26 : decode cX7_slips 26 = .ok (.ldc2_w 235, 3) := by decide +kernel
theorem dX7_slips_29 : decode cX7_slips 29 = .ok (.lreturn, 1) := by decide +kernel
theorem dX7_slips_30 : decode cX7_slips 30 = .ok (.iload 4, 2) := by decide +kernel
theorem dX7_slips_32 : decode cX7_slips 32 = .ok (.iload 5, 2) := by decide +kernel
theorem dX7_slips_34 : decode cX7_slips 34 = .ok (.invokestatic 214, 3) := by decide +kernel
theorem dX7_slips_37 : decode cX7_slips 37 = .ok (.ifCond .eq 24, 3) := by decide +kernel
theorem dX7_slips_40 : decode cX7_slips 40 = .ok (.iload 7, 2) := by decide +kernel
theorem dX7_slips_42 : decode cX7_slips 42 = .ok (.iconst 1, 1) := by decide +kernel
theorem dX7_slips_43 : decode cX7_slips 43 = .ok (.if_icmp .lt 18, 3) := by decide +kernel
theorem dX7_slips_46 : decode cX7_slips 46 = .ok (.iload 7, 2) := by decide +kernel
theorem dX7_slips_48 : decode cX7_slips 48 = .ok (.bipush 6, 2) := by decide +kernel
theorem dX7_slips_50 : decode cX7_slips 50 = .ok (.if_icmp .gt 11, 3) := by decide +kernel
theorem dX7_slips_53 : decode cX7_slips 53 = .ok (.iload 8, 2) := by decide +kernel
theorem dX7_slips_55 : decode cX7_slips 55 = .ok (.invokestatic 100, 3) := by decide +kernel
theorem dX7_slips_58 : decode cX7_slips 58 = .ok (.ifCond .ne 7, 3) := by decide +kernel
theorem dX7_slips_61 : decode cX7_slips 61 = .ok (.ldc2_w 235, 3) := by decide +kernel
theorem dX7_slips_64 : decode cX7_slips 64 = .ok (.lreturn, 1) := by decide +kernel
theorem dX7_slips_65 : decode cX7_slips 65 = .ok (.aload_n 0, 1) := by decide +kernel
theorem dX7_slips_66 : decode cX7_slips 66 = .ok (.iload 4, 2) := by decide +kernel
theorem dX7_slips_68 : decode cX7_slips 68 = .ok (.iload 5, 2) := by decide +kernel
theorem dX7_slips_70 : decode cX7_slips 70 = .ok (.iload 6, 2) := by decide +kernel
theorem dX7_slips_72 : decode cX7_slips 72 = .ok (.iload 7, 2) := by decide +kernel
theorem dX7_slips_74 : decode cX7_slips 74 = .ok (.invokevirtual 218, 3) := by decide +kernel
theorem dX7_slips_77 : decode cX7_slips 77 = .ok (.istore 9, 2) := by decide +kernel
theorem dX7_slips_79 : decode cX7_slips 79 = .ok (.iload 9, 2) := by decide +kernel
theorem dX7_slips_81 : decode cX7_slips 81 = .ok (.ifCond .eq 7, 3) := by decide +kernel
theorem dX7_slips_84 : decode cX7_slips 84 = .ok (.iload 9, 2) := by decide +kernel
theorem dX7_slips_86 : decode cX7_slips 86 = .ok (.i2l, 1) := by decide +kernel
theorem dX7_slips_87 : decode cX7_slips 87 = .ok (.lreturn, 1) := by decide +kernel
theorem dX7_slips_88 : decode cX7_slips 88 = .ok (.aload_n 0, 1) := by decide +kernel
theorem dX7_slips_89 : decode cX7_slips 89 = .ok (.getfield 47, 3) := by decide +kernel
theorem dX7_slips_92 : decode cX7_slips 92 = .ok (.aload_n 0, 1) := by decide +kernel
theorem dX7_slips_93 : decode cX7_slips 93 = .ok (.getfield 12, 3) := by decide +kernel
theorem dX7_slips_96 : decode cX7_slips 96 = .ok (.aload_n 0, 1) := by decide +kernel
theorem dX7_slips_97 : decode cX7_slips 97 = .ok (.getfield 12, 3) := by decide +kernel
theorem dX7_slips_100 : decode cX7_slips 100 = .ok (.getfield 103, 3) := by decide +kernel
theorem dX7_slips_103 : decode cX7_slips 103 = .ok (.iload_n 2, 1) := by decide +kernel
theorem dX7_slips_104 : decode cX7_slips 104 = .ok (.iaload, 1) := by decide +kernel
theorem dX7_slips_105 : decode cX7_slips 105 = .ok (.aload_n 0, 1) := by decide +kernel
theorem dX7_slips_106 : decode cX7_slips 106 = .ok (.getfield 12, 3) := by decide +kernel
theorem dX7_slips_109 : decode cX7_slips 109 = .ok (.getfield 106, 3) := by decide +kernel
theorem dX7_slips_112 : decode cX7_slips 112 = .ok (.iload_n 2, 1) := by decide +kernel
theorem dX7_slips_113 : decode cX7_slips 113 = .ok (.iaload, 1) := by decide +kernel
theorem dX7_slips_114 : decode cX7_slips 114 = .ok (.invokevirtual 237, 3) := by decide +kernel
theorem dX7_slips_117 : decode cX7_slips 117 = .ok (.aload_n 0, 1) := by decide +kernel
theorem dX7_slips_118 : decode cX7_slips 118 = .ok (.getfield 12, 3) := by decide +kernel
theorem dX7_slips_121 : decode cX7_slips 121 = .ok (.getfield 66, 3) := by decide +kernel
theorem dX7_slips_124 : decode cX7_slips 124 = .ok (.getfield 74, 3) := by decide +kernel
theorem dX7_slips_127 : decode cX7_slips 127 = .ok (.istore 10, 2) := by decide +kernel
theorem dX7_slips_129 : decode cX7_slips 129 = .ok (.aload_n 0, 1) := by decide +kernel
theorem dX7_slips_130 : decode cX7_slips 130 = .ok (.getfield 47, 3) := by decide +kernel
theorem dX7_slips_133 : decode cX7_slips 133 = .ok (.aload_n 0, 1) := by decide +kernel
theorem dX7_slips_134 : decode cX7_slips 134 = .ok (.getfield 12, 3) := by decide +kernel
theorem dX7_slips_137 : decode cX7_slips 137 = .ok (.iconst 1, 1) := by decide +kernel
theorem dX7_slips_138 : decode cX7_slips 138 = .ok (.iload_n 1, 1) := by decide +kernel
theorem dX7_slips_139 : decode cX7_slips 139 = .ok (.ishl, 1) := by decide +kernel
theorem dX7_slips_140 : decode cX7_slips 140 = .ok (.iload 10, 2) := by decide +kernel
theorem dX7_slips_142 : decode cX7_slips 142 = .ok (.iand, 1) := by decide +kernel
theorem dX7_slips_143 : decode cX7_slips 143 = .ok (.iload_n 3, 1) := by decide +kernel
theorem dX7_slips_144 : decode cX7_slips 144 = .ok (.invokevirtual 241, 3) := by decide +kernel
theorem dX7_slips_147 : decode cX7_slips 147 = .ok (.aload_n 0, 1) := by decide +kernel
theorem dX7_slips_148 : decode cX7_slips 148 = .ok (.getfield 47, 3) := by decide +kernel
theorem dX7_slips_151 : decode cX7_slips 151 = .ok (.aload_n 0, 1) := by decide +kernel
theorem dX7_slips_152 : decode cX7_slips 152 = .ok (.getfield 12, 3) := by decide +kernel
theorem dX7_slips_155 : decode cX7_slips 155 = .ok (.iload 10, 2) := by decide +kernel
theorem dX7_slips_157 : decode cX7_slips 157 = .ok (.iload_n 3, 1) := by decide +kernel
theorem dX7_slips_158 : decode cX7_slips 158 = .ok (.invokevirtual 241, 3) := by decide +kernel
theorem dX7_slips_161 : decode cX7_slips 161 = .ok (.iload 8, 2) := by decide +kernel
theorem dX7_slips_163 : decode cX7_slips 163 = .ok (.invokestatic 203, 3) := by decide +kernel
theorem dX7_slips_166 : decode cX7_slips 166 = .ok (.lreturn, 1) := by decide +kernel
set_option maxRecDepth 20000 in
theorem ggX7_film_X7_isTaster : GoodIn wsX7_film wsX7_isTaster := goodIn_r _ [9, 2, 10, 76, 77, 78, 79, 80, 81, 82, 83, 84, 85, 86, 87, 88, 89, 90, 91, 92] (by decide +kernel) (by decide +kernel)
set_option maxRecDepth 20000 in
theorem gX7_film_X7_isTaster : GoodIn wsX7_film (wsV RX7 97 RX7 yX7_isTaster wsX7_isTaster) := goodIn_app (goodIn_of _ (by decide +kernel)) ggX7_film_X7_isTaster
set_option maxRecDepth 20000 in
theorem ggX7_film_X7_isMix : GoodIn wsX7_film wsX7_isMix := goodIn_r _ [14, 2, 15, 16, 17, 18, 19, 20, 76, 77, 78, 79, 80, 81, 82, 83, 84, 85, 86, 87, 88, 89, 90, 91, 92] (by decide +kernel) (by decide +kernel)
set_option maxRecDepth 20000 in
theorem gX7_film_X7_isMix : GoodIn wsX7_film (wsV RX7 109 RX7 yX7_isMix wsX7_isMix) := goodIn_app (goodIn_of _ (by decide +kernel)) ggX7_film_X7_isMix
set_option maxRecDepth 20000 in
theorem ggX7_film_X7_isLaneOfSheet : GoodIn wsX7_film wsX7_isLaneOfSheet := goodIn_r _ [23, 24, 25, 8, 26] (by decide +kernel) (by decide +kernel)
set_option maxRecDepth 20000 in
theorem gX7_film_X7_isLaneOfSheet : GoodIn wsX7_film (va_wsS RX7 214 yX7_isLaneOfSheet wsX7_isLaneOfSheet) := goodIn_app (goodIn_of _ (by decide +kernel)) ggX7_film_X7_isLaneOfSheet
set_option maxRecDepth 20000 in
theorem ggX7_film_X4_refusal : GoodIn wsX7_film wsX4_refusal := goodIn_r _ [31, 32, 33, 34, 35, 36, 30, 37, 97, 98, 99] (by decide +kernel) (by decide +kernel)
set_option maxRecDepth 20000 in
theorem gX7_film_X4_refusal : GoodIn wsX7_film (wsV RX7 245 RX4 yX4_refusal wsX4_refusal) := goodIn_app (goodIn_of _ (by decide +kernel)) ggX7_film_X4_refusal
set_option maxRecDepth 20000 in
theorem ggX7_film_X0_noticedBy : GoodIn wsX7_film wsX0_noticedBy := goodIn_r _ [41, 42, 43, 44, 45, 46, 18, 47, 48, 49, 50, 51, 52, 53, 20, 54, 55, 56, 57, 58, 59, 60, 61, 62, 63, 64, 65, 66, 67, 68, 69, 70, 16, 17, 19, 84, 85, 86, 87, 88, 89, 90, 91, 92, 93, 94, 95, 96] (by decide +kernel) (by decide +kernel)
set_option maxRecDepth 20000 in
theorem gX7_film_X0_noticedBy : GoodIn wsX7_film (wsV RX7 112 RX0 yX0_noticedBy wsX0_noticedBy) := goodIn_app (goodIn_of _ (by decide +kernel)) ggX7_film_X0_noticedBy
set_option maxRecDepth 20000 in
theorem ggX7_film_X4_put : GoodIn wsX7_film wsX4_put := goodIn_r _ [74, 33, 75, 97, 98, 99] (by decide +kernel) (by decide +kernel)
set_option maxRecDepth 20000 in
theorem gX7_film_X4_put : GoodIn wsX7_film (wsV RX7 248 RX4 yX4_put wsX4_put) := goodIn_app (goodIn_of _ (by decide +kernel)) ggX7_film_X4_put
theorem dX7_film_0 : decode cX7_film 0 = .ok (.aload_n 0, 1) := by decide +kernel
theorem dX7_film_1 : decode cX7_film 1 = .ok (.iload_n 1, 1) := by decide +kernel
theorem dX7_film_2 : decode cX7_film 2 = .ok (.invokevirtual 97, 3) := by decide +kernel
theorem dX7_film_5 : decode cX7_film 5 = .ok (.ifCond .eq 31, 3) := by decide +kernel
theorem dX7_film_8 : decode cX7_film 8 = .ok (.iload_n 2, 1) := by decide +kernel
theorem dX7_film_9 : decode cX7_film 9 = .ok (.iconst 1, 1) := by decide +kernel
theorem dX7_film_10 : decode cX7_film 10 = .ok (.if_icmp .lt 26, 3) := by decide +kernel
theorem dX7_film_13 : decode cX7_film 13 = .ok (.iload_n 2, 1) := by decide +kernel
theorem dX7_film_14 : decode cX7_film 14 = .ok (.bipush 24, 2) := by decide +kernel
theorem dX7_film_16 : decode cX7_film 16 = .ok (.if_icmp .gt 20, 3) := by decide +kernel
theorem dX7_film_19 : decode cX7_film 19 = .ok (.aload_n 0, 1) := by decide +kernel
theorem dX7_film_20 : decode cX7_film 20 = .ok (.iload_n 2, 1) := by decide +kernel
theorem dX7_film_21 : decode cX7_film 21 = .ok (.invokevirtual 109, 3) := by decide +kernel
theorem dX7_film_24 : decode cX7_film 24 = .ok (.ifCond .eq 12, 3) := by decide +kernel
theorem dX7_film_27 : decode cX7_film 27 = .ok (.iload_n 3, 1) := by decide +kernel
theorem dX7_film_28 : decode cX7_film 28 = .ok (.iload 4, 2) := by decide +kernel
theorem dX7_film_30 : decode cX7_film 30 = .ok (.invokestatic 214, 3) := by decide +kernel
theorem dX7_film_33 : decode cX7_film 33 = .ok (.ifCond .ne 5, 3) := by decide +kernel
theorem dX7_film_36 : decode cX7_film 36 = .ok (.iconst (-1), 1) := by decide +kernel
theorem dX7_film_37 : decode cX7_film 37 = .ok (.ireturn, 1) := by decide +kernel
theorem dX7_film_38 : decode cX7_film 38 = .ok (.aload_n 0, 1) := by decide +kernel
theorem dX7_film_39 : decode cX7_film 39 = .ok (.getfield 53, 3) := by decide +kernel
theorem dX7_film_42 : decode cX7_film 42 = .ok (.iload_n 3, 1) := by decide +kernel
theorem dX7_film_43 : decode cX7_film 43 = .ok (.aaload, 1) := by decide +kernel
theorem dX7_film_44 : decode cX7_film 44 = .ok (.iload 4, 2) := by decide +kernel
theorem dX7_film_46 : decode cX7_film 46 = .ok (.iload 5, 2) := by decide +kernel
theorem dX7_film_48 : decode cX7_film 48 = .ok (.iload_n 2, 1) := by decide +kernel
theorem dX7_film_49 : decode cX7_film 49 = .ok (.invokevirtual 245, 3) := by decide +kernel
theorem dX7_film_52 : decode cX7_film 52 = .ok (.istore 6, 2) := by decide +kernel
theorem dX7_film_54 : decode cX7_film 54 = .ok (.iload 6, 2) := by decide +kernel
theorem dX7_film_56 : decode cX7_film 56 = .ok (.ifCond .eq 6, 3) := by decide +kernel
theorem dX7_film_59 : decode cX7_film 59 = .ok (.iload 6, 2) := by decide +kernel
theorem dX7_film_61 : decode cX7_film 61 = .ok (.ireturn, 1) := by decide +kernel
theorem dX7_film_62 : decode cX7_film 62 = .ok (.iconst 1, 1) := by decide +kernel
theorem dX7_film_63 : decode cX7_film 63 = .ok (.istore 7, 2) := by decide +kernel
theorem dX7_film_65 : decode cX7_film 65 = .ok (.iload 7, 2) := by decide +kernel
theorem dX7_film_67 : decode cX7_film 67 = .ok (.iload_n 2, 1) := by decide +kernel
theorem dX7_film_68 : decode cX7_film 68 = .ok (.if_icmp .gt 47, 3) := by decide +kernel
theorem dX7_film_71 : decode cX7_film 71 = .ok (.aload_n 0, 1) := by decide +kernel
theorem dX7_film_72 : decode cX7_film 72 = .ok (.getfield 53, 3) := by decide +kernel
theorem dX7_film_75 : decode cX7_film 75 = .ok (.iload_n 3, 1) := by decide +kernel
theorem dX7_film_76 : decode cX7_film 76 = .ok (.aaload, 1) := by decide +kernel
theorem dX7_film_77 : decode cX7_film 77 = .ok (.iload 5, 2) := by decide +kernel
theorem dX7_film_79 : decode cX7_film 79 = .ok (.iload 7, 2) := by decide +kernel
theorem dX7_film_81 : decode cX7_film 81 = .ok (.iadd, 1) := by decide +kernel
theorem dX7_film_82 : decode cX7_film 82 = .ok (.iconst 1, 1) := by decide +kernel
theorem dX7_film_83 : decode cX7_film 83 = .ok (.isub, 1) := by decide +kernel
theorem dX7_film_84 : decode cX7_film 84 = .ok (.aload_n 0, 1) := by decide +kernel
theorem dX7_film_85 : decode cX7_film 85 = .ok (.getfield 12, 3) := by decide +kernel
theorem dX7_film_88 : decode cX7_film 88 = .ok (.iload_n 1, 1) := by decide +kernel
theorem dX7_film_89 : decode cX7_film 89 = .ok (.iload 7, 2) := by decide +kernel
theorem dX7_film_91 : decode cX7_film 91 = .ok (.invokevirtual 112, 3) := by decide +kernel
theorem dX7_film_94 : decode cX7_film 94 = .ok (.aload_n 0, 1) := by decide +kernel
theorem dX7_film_95 : decode cX7_film 95 = .ok (.getfield 12, 3) := by decide +kernel
theorem dX7_film_98 : decode cX7_film 98 = .ok (.getfield 66, 3) := by decide +kernel
theorem dX7_film_101 : decode cX7_film 101 = .ok (.getfield 74, 3) := by decide +kernel
theorem dX7_film_104 : decode cX7_film 104 = .ok (.iand, 1) := by decide +kernel
theorem dX7_film_105 : decode cX7_film 105 = .ok (.i2l, 1) := by decide +kernel
theorem dX7_film_106 : decode cX7_film 106 = .ok (.invokevirtual 248, 3) := by decide +kernel
theorem dX7_film_109 : decode cX7_film 109 = .ok (.iinc 7 1, 3) := by decide +kernel
theorem dX7_film_112 : decode cX7_film 112 = .ok (.goto (-47), 3) := by decide +kernel
theorem dX7_film_115 : decode cX7_film 115 = .ok (.iload_n 2, 1) := by decide +kernel
theorem dX7_film_116 : decode cX7_film 116 = .ok (.ireturn, 1) := by decide +kernel
set_option maxRecDepth 20000 in
theorem ggX7_sheet_X7_isLaneOfSheet : GoodIn wsX7_sheet wsX7_isLaneOfSheet := goodIn_r _ [5, 6, 7, 4, 8] (by decide +kernel) (by decide +kernel)
set_option maxRecDepth 20000 in
theorem gX7_sheet_X7_isLaneOfSheet : GoodIn wsX7_sheet (va_wsS RX7 214 yX7_isLaneOfSheet wsX7_isLaneOfSheet) := goodIn_app (goodIn_of _ (by decide +kernel)) ggX7_sheet_X7_isLaneOfSheet
set_option maxRecDepth 20000 in
theorem ggX7_sheet_X4_renew : GoodIn wsX7_sheet wsX4_renew := goodIn_r _ [13, 14, 15, 16, 25, 26, 27] (by decide +kernel) (by decide +kernel)
set_option maxRecDepth 20000 in
theorem gX7_sheet_X4_renew : GoodIn wsX7_sheet (wsV RX7 251 RX4 yX4_renew wsX4_renew) := goodIn_app (goodIn_of _ (by decide +kernel)) ggX7_sheet_X4_renew
theorem dX7_sheet_0 : decode cX7_sheet 0 = .ok (.iload_n 1, 1) := by decide +kernel
theorem dX7_sheet_1 : decode cX7_sheet 1 = .ok (.iload_n 2, 1) := by decide +kernel
theorem dX7_sheet_2 : decode cX7_sheet 2 = .ok (.invokestatic 214, 3) := by decide +kernel
theorem dX7_sheet_5 : decode cX7_sheet 5 = .ok (.ifCond .eq 9, 3) := by decide +kernel
theorem dX7_sheet_8 : decode cX7_sheet 8 = .ok (.iload_n 3, 1) := by decide +kernel
theorem dX7_sheet_9 : decode cX7_sheet 9 = .ok (.bipush 24, 2) := by decide +kernel
theorem dX7_sheet_11 : decode cX7_sheet 11 = .ok (.if_icmp .le 5, 3) := by decide +kernel
theorem dX7_sheet_14 : decode cX7_sheet 14 = .ok (.iconst (-1), 1) := by decide +kernel
theorem dX7_sheet_15 : decode cX7_sheet 15 = .ok (.ireturn, 1) := by decide +kernel
theorem dX7_sheet_16 : decode cX7_sheet 16 = .ok (.iload_n 3, 1) := by decide +kernel
theorem dX7_sheet_17 : decode cX7_sheet 17 = .ok (.ifCond .ge 6, 3) := by decide +kernel
theorem dX7_sheet_20 : decode cX7_sheet 20 = .ok (.bipush (-14), 2) := by decide +kernel
theorem dX7_sheet_22 : decode cX7_sheet 22 = .ok (.ireturn, 1) := by decide +kernel
theorem dX7_sheet_23 : decode cX7_sheet 23 = .ok (.aload_n 0, 1) := by decide +kernel
theorem dX7_sheet_24 : decode cX7_sheet 24 = .ok (.getfield 53, 3) := by decide +kernel
theorem dX7_sheet_27 : decode cX7_sheet 27 = .ok (.iload_n 1, 1) := by decide +kernel
theorem dX7_sheet_28 : decode cX7_sheet 28 = .ok (.aaload, 1) := by decide +kernel
theorem dX7_sheet_29 : decode cX7_sheet 29 = .ok (.iload_n 2, 1) := by decide +kernel
theorem dX7_sheet_30 : decode cX7_sheet 30 = .ok (.iload_n 3, 1) := by decide +kernel
theorem dX7_sheet_31 : decode cX7_sheet 31 = .ok (.invokevirtual 251, 3) := by decide +kernel
theorem dX7_sheet_34 : decode cX7_sheet 34 = .ok (.iload_n 3, 1) := by decide +kernel
theorem dX7_sheet_35 : decode cX7_sheet 35 = .ok (.ireturn, 1) := by decide +kernel
set_option maxRecDepth 20000 in
theorem ggX7_drop_X7_isSheet : GoodIn wsX7_drop wsX7_isSheet := goodIn_r _ [6] (by decide +kernel) (by decide +kernel)
set_option maxRecDepth 20000 in
theorem gX7_drop_X7_isSheet : GoodIn wsX7_drop (va_wsS RX7 254 yX7_isSheet wsX7_isSheet) := goodIn_app (goodIn_of _ (by decide +kernel)) ggX7_drop_X7_isSheet
theorem dX7_drop_0 : decode cX7_drop 0 = .ok (.iload_n 1, 1) := by decide +kernel
theorem dX7_drop_1 : decode cX7_drop 1 = .ok (.invokestatic 254, 3) := by decide +kernel
theorem dX7_drop_4 : decode cX7_drop 4 = .ok (.ifCond .ne 5, 3) := by decide +kernel
theorem dX7_drop_7 : decode cX7_drop 7 = .ok (.iconst (-1), 1) := by decide +kernel
theorem dX7_drop_8 : decode cX7_drop 8 = .ok (.ireturn, 1) := by decide +kernel
theorem dX7_drop_9 : decode cX7_drop 9 = .ok (.aload_n 0, 1) := by decide +kernel
theorem dX7_drop_10 : decode cX7_drop 10 = .ok (.getfield 53, 3) := by decide +kernel
theorem dX7_drop_13 : decode cX7_drop 13 = .ok (.iload_n 1, 1) := by decide +kernel
theorem dX7_drop_14 : decode cX7_drop 14 = .ok (.aaload, 1) := by decide +kernel
theorem dX7_drop_15 : decode cX7_drop 15 = .ok (.getfield 257, 3) := by decide +kernel
theorem dX7_drop_18 : decode cX7_drop 18 = .ok (.istore_n 2, 1) := by decide +kernel
theorem dX7_drop_19 : decode cX7_drop 19 = .ok (.iload_n 2, 1) := by decide +kernel
theorem dX7_drop_20 : decode cX7_drop 20 = .ok (.iconst (-1), 1) := by decide +kernel
theorem dX7_drop_21 : decode cX7_drop 21 = .ok (.if_icmp .ne 6, 3) := by decide +kernel
theorem dX7_drop_24 : decode cX7_drop 24 = .ok (.bipush (-11), 2) := by decide +kernel
theorem dX7_drop_26 : decode cX7_drop 26 = .ok (.ireturn, 1) := by decide +kernel
theorem dX7_drop_27 : decode cX7_drop 27 = .ok (.aload_n 0, 1) := by decide +kernel
theorem dX7_drop_28 : decode cX7_drop 28 = .ok (.getfield 53, 3) := by decide +kernel
theorem dX7_drop_31 : decode cX7_drop 31 = .ok (.iload_n 1, 1) := by decide +kernel
theorem dX7_drop_32 : decode cX7_drop 32 = .ok (.aaload, 1) := by decide +kernel
theorem dX7_drop_33 : decode cX7_drop 33 = .ok (.iconst (-1), 1) := by decide +kernel
theorem dX7_drop_34 : decode cX7_drop 34 = .ok (.putfield 257, 3) := by decide +kernel
theorem dX7_drop_37 : decode cX7_drop 37 = .ok (.iload_n 2, 1) := by decide +kernel
theorem dX7_drop_38 : decode cX7_drop 38 = .ok (.ireturn, 1) := by decide +kernel
set_option maxRecDepth 20000 in
theorem ggX7_item_X7_isLaneOfSheet : GoodIn wsX7_item wsX7_isLaneOfSheet := goodIn_r _ [5, 6, 7, 4, 8] (by decide +kernel) (by decide +kernel)
set_option maxRecDepth 20000 in
theorem gX7_item_X7_isLaneOfSheet : GoodIn wsX7_item (va_wsS RX7 214 yX7_isLaneOfSheet wsX7_isLaneOfSheet) := goodIn_app (goodIn_of _ (by decide +kernel)) ggX7_item_X7_isLaneOfSheet
set_option maxRecDepth 20000 in
theorem ggX7_item_X4_refusal : GoodIn wsX7_item wsX4_refusal := goodIn_r _ [13, 14, 15, 16, 17, 18, 12, 19, 33, 34, 35] (by decide +kernel) (by decide +kernel)
set_option maxRecDepth 20000 in
theorem gX7_item_X4_refusal : GoodIn wsX7_item (wsV RX7 245 RX4 yX4_refusal wsX4_refusal) := goodIn_app (goodIn_of _ (by decide +kernel)) ggX7_item_X4_refusal
set_option maxRecDepth 20000 in
theorem ggX7_item_X4_put : GoodIn wsX7_item wsX4_put := goodIn_r _ [23, 15, 24, 33, 34, 35] (by decide +kernel) (by decide +kernel)
set_option maxRecDepth 20000 in
theorem gX7_item_X4_put : GoodIn wsX7_item (wsV RX7 248 RX4 yX4_put wsX4_put) := goodIn_app (goodIn_of _ (by decide +kernel)) ggX7_item_X4_put
theorem dX7_item_0 : decode cX7_item 0 = .ok (.iload_n 1, 1) := by decide +kernel
theorem dX7_item_1 : decode cX7_item 1 = .ok (.iload_n 2, 1) := by decide +kernel
theorem dX7_item_2 : decode cX7_item 2 = .ok (.invokestatic 214, 3) := by decide +kernel
theorem dX7_item_5 : decode cX7_item 5 = .ok (.ifCond .ne 5, 3) := by decide +kernel
theorem dX7_item_8 : decode cX7_item 8 = .ok (.iconst (-1), 1) := by decide +kernel
theorem dX7_item_9 : decode cX7_item 9 = .ok (.ireturn, 1) := by decide +kernel
theorem dX7_item_10 : decode cX7_item 10 = .ok (.aload_n 0, 1) := by decide +kernel
theorem dX7_item_11 : decode cX7_item 11 = .ok (.getfield 53, 3) := by decide +kernel
theorem dX7_item_14 : decode cX7_item 14 = .ok (.iload_n 1, 1) := by decide +kernel
theorem dX7_item_15 : decode cX7_item 15 = .ok (.aaload, 1) := by decide +kernel
theorem dX7_item_16 : decode cX7_item 16 = .ok (.iload_n 2, 1) := by decide +kernel
theorem dX7_item_17 : decode cX7_item 17 = .ok (.iload_n 3, 1) := by decide +kernel
theorem dX7_item_18 : decode cX7_item 18 = .ok (.iconst 1, 1) := by decide +kernel
theorem dX7_item_19 : decode cX7_item 19 = .ok (.invokevirtual 245, 3) := by decide +kernel
theorem dX7_item_22 : decode cX7_item 22 = .ok (.istore 6, 2) := by decide +kernel
theorem dX7_item_24 : decode cX7_item 24 = .ok (.iload 6, 2) := by decide +kernel
theorem dX7_item_26 : decode cX7_item 26 = .ok (.ifCond .eq 6, 3) := by decide +kernel
theorem dX7_item_29 : decode cX7_item 29 = .ok (.iload 6, 2) := by decide +kernel
theorem dX7_item_31 : decode cX7_item 31 = .ok (.ireturn, 1) := by decide +kernel
theorem dX7_item_32 : decode cX7_item 32 = .ok (.aload_n 0, 1) := by decide +kernel
theorem dX7_item_33 : decode cX7_item 33 = .ok (.getfield 53, 3) := by decide +kernel
theorem dX7_item_36 : decode cX7_item 36 = .ok (.iload_n 1, 1) := by decide +kernel
theorem dX7_item_37 : decode cX7_item 37 = .ok (.aaload, 1) := by decide +kernel
theorem dX7_item_38 : decode cX7_item 38 = .ok (.iload_n 3, 1) := by decide +kernel
theorem dX7_item_39 : decode cX7_item 39 = .ok (.lload 4, 2) := by decide +kernel
theorem dX7_item_41 : decode cX7_item 41 = .ok (.invokevirtual 248, 3) := by decide +kernel
theorem dX7_item_44 : decode cX7_item 44 = .ok (.iconst 1, 1) := by decide +kernel
theorem dX7_item_45 : decode cX7_item 45 = .ok (.ireturn, 1) := by decide +kernel
set_option maxRecDepth 20000 in
theorem ggX7_copy_X7_isSheet : GoodIn wsX7_copy wsX7_isSheet := goodIn_r _ [12] (by decide +kernel) (by decide +kernel)
set_option maxRecDepth 20000 in
theorem gX7_copy_X7_isSheet : GoodIn wsX7_copy (va_wsS RX7 254 yX7_isSheet wsX7_isSheet) := goodIn_app (goodIn_of _ (by decide +kernel)) ggX7_copy_X7_isSheet
set_option maxRecDepth 20000 in
theorem ggX7_copy_X4_holds : GoodIn wsX7_copy wsX4_holds := goodIn_r _ [17, 18, 27, 28, 29] (by decide +kernel) (by decide +kernel)
set_option maxRecDepth 20000 in
theorem gX7_copy_X4_holds : GoodIn wsX7_copy (wsV RX7 261 RX4 yX4_holds wsX4_holds) := goodIn_app (goodIn_of _ (by decide +kernel)) ggX7_copy_X4_holds
theorem dX7_copy_0 : decode cX7_copy 0 = .ok (.iload_n 1, 1) := by decide +kernel
theorem dX7_copy_1 : decode cX7_copy 1 = .ok (.invokestatic 254, 3) := by decide +kernel
theorem dX7_copy_4 : decode cX7_copy 4 = .ok (.ifCond .eq 10, 3) := by decide +kernel
theorem dX7_copy_7 : decode cX7_copy 7 = .ok (.iload_n 3, 1) := by decide +kernel
theorem dX7_copy_8 : decode cX7_copy 8 = .ok (.invokestatic 254, 3) := by decide +kernel
theorem dX7_copy_11 : decode cX7_copy 11 = .ok (.ifCond .ne 5, 3) := by decide +kernel
theorem dX7_copy_14 : decode cX7_copy 14 = .ok (.iconst (-1), 1) := by decide +kernel
theorem dX7_copy_15 : decode cX7_copy 15 = .ok (.ireturn, 1) := by decide +kernel
theorem dX7_copy_16 : decode cX7_copy 16 = .ok (.aload_n 0, 1) := by decide +kernel
theorem dX7_copy_17 : decode cX7_copy 17 = .ok (.getfield 53, 3) := by decide +kernel
theorem dX7_copy_20 : decode cX7_copy 20 = .ok (.iload_n 1, 1) := by decide +kernel
theorem dX7_copy_21 : decode cX7_copy 21 = .ok (.aaload, 1) := by decide +kernel
theorem dX7_copy_22 : decode cX7_copy 22 = .ok (.astore 6, 2) := by decide +kernel
theorem dX7_copy_24 : decode cX7_copy 24 = .ok (.aload_n 0, 1) := by decide +kernel
theorem dX7_copy_25 : decode cX7_copy 25 = .ok (.getfield 53, 3) := by decide +kernel
theorem dX7_copy_28 : decode cX7_copy 28 = .ok (.iload_n 3, 1) := by decide +kernel
theorem dX7_copy_29 : decode cX7_copy 29 = .ok (.aaload, 1) := by decide +kernel
theorem dX7_copy_30 : decode cX7_copy 30 = .ok (.astore 7, 2) := by decide +kernel
theorem dX7_copy_32 : decode cX7_copy 32 = .ok (.aload 6, 2) := by decide +kernel
theorem dX7_copy_34 : decode cX7_copy 34 = .ok (.getfield 257, 3) := by decide +kernel
theorem dX7_copy_37 : decode cX7_copy 37 = .ok (.iconst (-1), 1) := by decide +kernel
theorem dX7_copy_38 : decode cX7_copy 38 = .ok (.if_icmp .eq 12, 3) := by decide +kernel
theorem dX7_copy_41 : decode cX7_copy 41 = .ok (.aload 7, 2) := by decide +kernel
theorem dX7_copy_43 : decode cX7_copy 43 = .ok (.getfield 257, 3) := by decide +kernel
theorem dX7_copy_46 : decode cX7_copy 46 = .ok (.iconst (-1), 1) := by decide +kernel
theorem dX7_copy_47 : decode cX7_copy 47 = .ok (.if_icmp .ne 6, 3) := by decide +kernel
theorem dX7_copy_50 : decode cX7_copy 50 = .ok (.bipush (-11), 2) := by decide +kernel
theorem dX7_copy_52 : decode cX7_copy 52 = .ok (.ireturn, 1) := by decide +kernel
theorem dX7_copy_53 : decode cX7_copy 53 = .ok (.aload 6, 2) := by decide +kernel
theorem dX7_copy_55 : decode cX7_copy 55 = .ok (.getfield 258, 3) := by decide +kernel
theorem dX7_copy_58 : decode cX7_copy 58 = .ok (.aload 7, 2) := by decide +kernel
theorem dX7_copy_60 : decode cX7_copy 60 = .ok (.getfield 258, 3) := by decide +kernel
theorem dX7_copy_63 : decode cX7_copy 63 = .ok (.if_icmp .eq 6, 3) := by decide +kernel
theorem dX7_copy_66 : decode cX7_copy 66 = .ok (.bipush (-12), 2) := by decide +kernel
theorem dX7_copy_68 : decode cX7_copy 68 = .ok (.ireturn, 1) := by decide +kernel
theorem dX7_copy_69 : decode cX7_copy 69 = .ok (.aload 6, 2) := by decide +kernel
theorem dX7_copy_71 : decode cX7_copy 71 = .ok (.iload_n 2, 1) := by decide +kernel
theorem dX7_copy_72 : decode cX7_copy 72 = .ok (.iload 5, 2) := by decide +kernel
theorem dX7_copy_74 : decode cX7_copy 74 = .ok (.invokevirtual 261, 3) := by decide +kernel
theorem dX7_copy_77 : decode cX7_copy 77 = .ok (.ifCond .eq 15, 3) := by decide +kernel
theorem dX7_copy_80 : decode cX7_copy 80 = .ok (.aload 7, 2) := by decide +kernel
theorem dX7_copy_82 : decode cX7_copy 82 = .ok (.iload 4, 2) := by decide +kernel
theorem dX7_copy_84 : decode cX7_copy 84 = .ok (.iload 5, 2) := by decide +kernel
theorem dX7_copy_86 : decode cX7_copy 86 = .ok (.invokevirtual 261, 3) := by decide +kernel
theorem dX7_copy_89 : decode cX7_copy 89 = .ok (.ifCond .ne 6, 3) := by decide +kernel
theorem dX7_copy_92 : decode cX7_copy 92 = .ok (.bipush (-13), 2) := by decide +kernel
theorem dX7_copy_94 : decode cX7_copy 94 = .ok (.ireturn, 1) := by decide +kernel
theorem dX7_copy_95 : decode cX7_copy 95 = .ok (.aload 6, 2) := by decide +kernel
theorem dX7_copy_97 : decode cX7_copy 97 = .ok (.getfield 264, 3) := by decide +kernel
theorem dX7_copy_100 : decode cX7_copy 100 = .ok (.iload_n 2, 1) := by decide +kernel
theorem dX7_copy_101 : decode cX7_copy 101 = .ok (.aload 7, 2) := by decide +kernel
theorem dX7_copy_103 : decode cX7_copy 103 = .ok (.getfield 264, 3) := by decide +kernel
theorem dX7_copy_106 : decode cX7_copy 106 = .ok (.iload 4, 2) := by decide +kernel
theorem dX7_copy_108 : decode cX7_copy 108 = .ok (.iload 5, 2) := by decide +kernel
theorem dX7_copy_110 : decode cX7_copy 110 = .ok (.invokestatic 268, 3) := by decide +kernel
theorem dX7_copy_113 : decode cX7_copy 113 = .ok (.iload 5, 2) := by decide +kernel
theorem dX7_copy_115 : decode cX7_copy 115 = .ok (.ireturn, 1) := by decide +kernel
theorem dX7_isCow_0 : decode cX7_isCow 0 = .ok (.iload_n 1, 1) := by decide +kernel
theorem dX7_isCow_1 : decode cX7_isCow 1 = .ok (.ifCond .lt 18, 3) := by decide +kernel
theorem dX7_isCow_4 : decode cX7_isCow 4 = .ok (.iload_n 1, 1) := by decide +kernel
theorem dX7_isCow_5 : decode cX7_isCow 5 = .ok (.aload_n 0, 1) := by decide +kernel
theorem dX7_isCow_6 : decode cX7_isCow 6 = .ok (.getfield 12, 3) := by decide +kernel
theorem dX7_isCow_9 : decode cX7_isCow 9 = .ok (.getfield 58, 3) := by decide +kernel
theorem dX7_isCow_12 : decode cX7_isCow 12 = .ok (.if_icmp .ge 7, 3) := by decide +kernel
theorem dX7_isCow_15 : decode cX7_isCow 15 = .ok (.iconst 1, 1) := by decide +kernel
theorem dX7_isCow_16 : decode cX7_isCow 16 = .ok (.goto 4, 3) := by decide +kernel
theorem dX7_isCow_19 : decode cX7_isCow 19 = .ok (.iconst 0, 1) := by decide +kernel
theorem dX7_isCow_20 : decode cX7_isCow 20 = .ok (.ireturn, 1) := by decide +kernel
theorem dX7_isTaster_0 : decode cX7_isTaster 0 = .ok (.iload_n 1, 1) := by decide +kernel
theorem dX7_isTaster_1 : decode cX7_isTaster 1 = .ok (.ifCond .lt 18, 3) := by decide +kernel
theorem dX7_isTaster_4 : decode cX7_isTaster 4 = .ok (.iload_n 1, 1) := by decide +kernel
theorem dX7_isTaster_5 : decode cX7_isTaster 5 = .ok (.aload_n 0, 1) := by decide +kernel
theorem dX7_isTaster_6 : decode cX7_isTaster 6 = .ok (.getfield 12, 3) := by decide +kernel
theorem dX7_isTaster_9 : decode cX7_isTaster 9 = .ok (.getfield 82, 3) := by decide +kernel
theorem dX7_isTaster_12 : decode cX7_isTaster 12 = .ok (.if_icmp .ge 7, 3) := by decide +kernel
theorem dX7_isTaster_15 : decode cX7_isTaster 15 = .ok (.iconst 1, 1) := by decide +kernel
theorem dX7_isTaster_16 : decode cX7_isTaster 16 = .ok (.goto 4, 3) := by decide +kernel
theorem dX7_isTaster_19 : decode cX7_isTaster 19 = .ok (.iconst 0, 1) := by decide +kernel
theorem dX7_isTaster_20 : decode cX7_isTaster 20 = .ok (.ireturn, 1) := by decide +kernel
set_option maxRecDepth 20000 in
theorem ggX7_isMix_X0_allCows : GoodIn wsX7_isMix wsX0_allCows := goodIn_r _ [6, 7, 16, 17, 18, 19, 20, 21, 22, 23, 24] (by decide +kernel) (by decide +kernel)
set_option maxRecDepth 20000 in
theorem gX7_isMix_X0_allCows : GoodIn wsX7_isMix (wsV RX7 70 RX0 yX0_allCows wsX0_allCows) := goodIn_app (goodIn_of _ (by decide +kernel)) ggX7_isMix_X0_allCows
theorem dX7_isMix_0 : decode cX7_isMix 0 = .ok (.iload_n 1, 1) := by decide +kernel
theorem dX7_isMix_1 : decode cX7_isMix 1 = .ok (.iconst 1, 1) := by decide +kernel
theorem dX7_isMix_2 : decode cX7_isMix 2 = .ok (.if_icmp .lt 18, 3) := by decide +kernel
theorem dX7_isMix_5 : decode cX7_isMix 5 = .ok (.iload_n 1, 1) := by decide +kernel
theorem dX7_isMix_6 : decode cX7_isMix 6 = .ok (.aload_n 0, 1) := by decide +kernel
theorem dX7_isMix_7 : decode cX7_isMix 7 = .ok (.getfield 12, 3) := by decide +kernel
theorem dX7_isMix_10 : decode cX7_isMix 10 = .ok (.invokevirtual 70, 3) := by decide +kernel
theorem dX7_isMix_13 : decode cX7_isMix 13 = .ok (.if_icmp .gt 7, 3) := by decide +kernel
theorem dX7_isMix_16 : decode cX7_isMix 16 = .ok (.iconst 1, 1) := by decide +kernel
theorem dX7_isMix_17 : decode cX7_isMix 17 = .ok (.goto 4, 3) := by decide +kernel
theorem dX7_isMix_20 : decode cX7_isMix 20 = .ok (.iconst 0, 1) := by decide +kernel
theorem dX7_isMix_21 : decode cX7_isMix 21 = .ok (.ireturn, 1) := by decide +kernel
theorem dX7_isEither_0 : decode cX7_isEither 0 = .ok (.iload_n 0, 1) := by decide +kernel
theorem dX7_isEither_1 : decode cX7_isEither 1 = .ok (.ifCond .eq 8, 3) := by decide +kernel
theorem dX7_isEither_4 : decode cX7_isEither 4 = .ok (.iload_n 0, 1) := by decide +kernel
theorem dX7_isEither_5 : decode cX7_isEither 5 = .ok (.iconst 1, 1) := by decide +kernel
theorem dX7_isEither_6 : decode cX7_isEither 6 = .ok (.if_icmp .ne 7, 3) := by decide +kernel
theorem dX7_isEither_9 : decode cX7_isEither 9 = .ok (.iconst 1, 1) := by decide +kernel
theorem dX7_isEither_10 : decode cX7_isEither 10 = .ok (.goto 4, 3) := by decide +kernel
theorem dX7_isEither_13 : decode cX7_isEither 13 = .ok (.iconst 0, 1) := by decide +kernel
theorem dX7_isEither_14 : decode cX7_isEither 14 = .ok (.ireturn, 1) := by decide +kernel
theorem dX7_isSheet_0 : decode cX7_isSheet 0 = .ok (.iload_n 0, 1) := by decide +kernel
theorem dX7_isSheet_1 : decode cX7_isSheet 1 = .ok (.ifCond .lt 12, 3) := by decide +kernel
theorem dX7_isSheet_4 : decode cX7_isSheet 4 = .ok (.iload_n 0, 1) := by decide +kernel
theorem dX7_isSheet_5 : decode cX7_isSheet 5 = .ok (.iconst 4, 1) := by decide +kernel
theorem dX7_isSheet_6 : decode cX7_isSheet 6 = .ok (.if_icmp .ge 7, 3) := by decide +kernel
theorem dX7_isSheet_9 : decode cX7_isSheet 9 = .ok (.iconst 1, 1) := by decide +kernel
theorem dX7_isSheet_10 : decode cX7_isSheet 10 = .ok (.goto 4, 3) := by decide +kernel
theorem dX7_isSheet_13 : decode cX7_isSheet 13 = .ok (.iconst 0, 1) := by decide +kernel
theorem dX7_isSheet_14 : decode cX7_isSheet 14 = .ok (.ireturn, 1) := by decide +kernel
set_option maxRecDepth 20000 in
theorem ggX7_isLaneOfSheet_X7_isSheet : GoodIn wsX7_isLaneOfSheet wsX7_isSheet := goodIn_r _ [4] (by decide +kernel) (by decide +kernel)
set_option maxRecDepth 20000 in
theorem gX7_isLaneOfSheet_X7_isSheet : GoodIn wsX7_isLaneOfSheet (va_wsS RX7 254 yX7_isSheet wsX7_isSheet) := goodIn_app (goodIn_of _ (by decide +kernel)) ggX7_isLaneOfSheet_X7_isSheet
theorem dX7_isLaneOfSheet_0 : decode cX7_isLaneOfSheet 0 = .ok (.iload_n 0, 1) := by decide +kernel
theorem dX7_isLaneOfSheet_1 : decode cX7_isLaneOfSheet 1 = .ok (.invokestatic 254, 3) := by decide +kernel
theorem dX7_isLaneOfSheet_4 : decode cX7_isLaneOfSheet 4 = .ok (.ifCond .eq 16, 3) := by decide +kernel
theorem dX7_isLaneOfSheet_7 : decode cX7_isLaneOfSheet 7 = .ok (.iload_n 1, 1) := by decide +kernel
theorem dX7_isLaneOfSheet_8 : decode cX7_isLaneOfSheet 8 = .ok (.ifCond .lt 12, 3) := by decide +kernel
theorem dX7_isLaneOfSheet_11 : decode cX7_isLaneOfSheet 11 = .ok (.iload_n 1, 1) := by decide +kernel
theorem dX7_isLaneOfSheet_12 : decode cX7_isLaneOfSheet 12 = .ok (.iconst 4, 1) := by decide +kernel
theorem dX7_isLaneOfSheet_13 : decode cX7_isLaneOfSheet 13 = .ok (.if_icmp .ge 7, 3) := by decide +kernel
theorem dX7_isLaneOfSheet_16 : decode cX7_isLaneOfSheet 16 = .ok (.iconst 1, 1) := by decide +kernel
theorem dX7_isLaneOfSheet_17 : decode cX7_isLaneOfSheet 17 = .ok (.goto 4, 3) := by decide +kernel
theorem dX7_isLaneOfSheet_20 : decode cX7_isLaneOfSheet 20 = .ok (.iconst 0, 1) := by decide +kernel
theorem dX7_isLaneOfSheet_21 : decode cX7_isLaneOfSheet 21 = .ok (.ireturn, 1) := by decide +kernel
set_option maxRecDepth 20000 in
theorem ggX7_readRow_X4_refusal : GoodIn wsX7_readRow wsX4_refusal := goodIn_r _ [8, 9, 10, 11, 12, 13, 7, 14, 42, 43, 44] (by decide +kernel) (by decide +kernel)
set_option maxRecDepth 20000 in
theorem gX7_readRow_X4_refusal : GoodIn wsX7_readRow (wsV RX7 245 RX4 yX4_refusal wsX4_refusal) := goodIn_app (goodIn_of _ (by decide +kernel)) ggX7_readRow_X4_refusal
set_option maxRecDepth 20000 in
theorem ggX7_readRow_X0_allCows : GoodIn wsX7_readRow wsX0_allCows := goodIn_r _ [19, 20, 45, 46, 47, 48, 49, 50, 51, 52, 53] (by decide +kernel) (by decide +kernel)
set_option maxRecDepth 20000 in
theorem gX7_readRow_X0_allCows : GoodIn wsX7_readRow (wsV RX7 70 RX0 yX0_allCows wsX0_allCows) := goodIn_app (goodIn_of _ (by decide +kernel)) ggX7_readRow_X0_allCows
set_option maxRecDepth 20000 in
theorem ggX7_readRow_X3_read : GoodIn wsX7_readRow wsX3_read := goodIn_r _ [25, 26, 27, 28, 29, 30, 31, 7, 32, 33, 54, 55, 56, 57, 42, 43, 44] (by decide +kernel) (by decide +kernel)
set_option maxRecDepth 20000 in
theorem gX7_readRow_X3_read : GoodIn wsX7_readRow (wsV RX7 274 RX3 yX3_read wsX3_read) := goodIn_app (goodIn_of _ (by decide +kernel)) ggX7_readRow_X3_read
theorem dX7_readRow_0 : decode cX7_readRow 0 = .ok (.aload_n 0, 1) := by decide +kernel
theorem dX7_readRow_1 : decode cX7_readRow 1 = .ok (.getfield 53, 3) := by decide +kernel
theorem dX7_readRow_4 : decode cX7_readRow 4 = .ok (.iload_n 1, 1) := by decide +kernel
theorem dX7_readRow_5 : decode cX7_readRow 5 = .ok (.aaload, 1) := by decide +kernel
theorem dX7_readRow_6 : decode cX7_readRow 6 = .ok (.iload_n 2, 1) := by decide +kernel
theorem dX7_readRow_7 : decode cX7_readRow 7 = .ok (.iload_n 3, 1) := by decide +kernel
theorem dX7_readRow_8 : decode cX7_readRow 8 = .ok (.iconst 2, 1) := by decide +kernel
theorem dX7_readRow_9 : decode cX7_readRow 9 = .ok (.iload 4, 2) := by decide +kernel
theorem dX7_readRow_11 : decode cX7_readRow 11 = .ok (.imul, 1) := by decide +kernel
theorem dX7_readRow_12 : decode cX7_readRow 12 = .ok (.invokevirtual 245, 3) := by decide +kernel
theorem dX7_readRow_15 : decode cX7_readRow 15 = .ok (.istore 5, 2) := by decide +kernel
theorem dX7_readRow_17 : decode cX7_readRow 17 = .ok (.iload 5, 2) := by decide +kernel
theorem dX7_readRow_19 : decode cX7_readRow 19 = .ok (.ifCond .eq 6, 3) := by decide +kernel
theorem dX7_readRow_22 : decode cX7_readRow 22 = .ok (.iload 5, 2) := by decide +kernel
theorem dX7_readRow_24 : decode cX7_readRow 24 = .ok (.ireturn, 1) := by decide +kernel
theorem dX7_readRow_25 : decode cX7_readRow 25 = .ok (.aload_n 0, 1) := by decide +kernel
theorem dX7_readRow_26 : decode cX7_readRow 26 = .ok (.getfield 47, 3) := by decide +kernel
theorem dX7_readRow_29 : decode cX7_readRow 29 = .ok (.aload_n 0, 1) := by decide +kernel
theorem dX7_readRow_30 : decode cX7_readRow 30 = .ok (.getfield 53, 3) := by decide +kernel
theorem dX7_readRow_33 : decode cX7_readRow 33 = .ok (.iload_n 1, 1) := by decide +kernel
theorem dX7_readRow_34 : decode cX7_readRow 34 = .ok (.aaload, 1) := by decide +kernel
theorem dX7_readRow_35 : decode cX7_readRow 35 = .ok (.iload_n 3, 1) := by decide +kernel
theorem dX7_readRow_36 : decode cX7_readRow 36 = .ok (.iload 4, 2) := by decide +kernel
theorem dX7_readRow_38 : decode cX7_readRow 38 = .ok (.aload_n 0, 1) := by decide +kernel
theorem dX7_readRow_39 : decode cX7_readRow 39 = .ok (.getfield 12, 3) := by decide +kernel
theorem dX7_readRow_42 : decode cX7_readRow 42 = .ok (.invokevirtual 70, 3) := by decide +kernel
theorem dX7_readRow_45 : decode cX7_readRow 45 = .ok (.invokevirtual 274, 3) := by decide +kernel
theorem dX7_readRow_48 : decode cX7_readRow 48 = .ok (.ifCond .eq 7, 3) := by decide +kernel
theorem dX7_readRow_51 : decode cX7_readRow 51 = .ok (.iconst 0, 1) := by decide +kernel
theorem dX7_readRow_52 : decode cX7_readRow 52 = .ok (.goto 5, 3) := by decide +kernel
theorem dX7_readRow_55 : decode cX7_readRow 55 = .ok (.bipush (-2), 2) := by decide +kernel
theorem dX7_readRow_57 : decode cX7_readRow 57 = .ok (.ireturn, 1) := by decide +kernel
set_option maxRecDepth 20000 in
theorem ggX7_milkFraction_X0_milkOf : GoodIn wsX7_milkFraction wsX0_milkOf := goodIn_r _ [6, 7, 8, 28, 29, 30, 31, 32, 33, 34, 35, 36] (by decide +kernel) (by decide +kernel)
set_option maxRecDepth 20000 in
theorem gX7_milkFraction_X0_milkOf : GoodIn wsX7_milkFraction (wsV RX7 140 RX0 yX0_milkOf wsX0_milkOf) := goodIn_app (goodIn_of _ (by decide +kernel)) ggX7_milkFraction_X0_milkOf
set_option maxRecDepth 20000 in
theorem ggX7_milkFraction_X7_fraction : GoodIn wsX7_milkFraction wsX7_fraction := goodIn_r _ [12, 13, 14, 11, 15, 16, 17, 18, 19] (by decide +kernel) (by decide +kernel)
set_option maxRecDepth 20000 in
theorem gX7_milkFraction_X7_fraction : GoodIn wsX7_milkFraction (va_wsS RX7 203 yX7_fraction wsX7_fraction) := goodIn_app (goodIn_of _ (by decide +kernel)) ggX7_milkFraction_X7_fraction
theorem dX7_milkFraction_0 : decode cX7_milkFraction 0 = .ok (.aload_n 0, 1) := by decide +kernel
theorem dX7_milkFraction_1 : decode cX7_milkFraction 1 = .ok (.getfield 12, 3) := by decide +kernel
theorem dX7_milkFraction_4 : decode cX7_milkFraction 4 = .ok (.iload_n 1, 1) := by decide +kernel
theorem dX7_milkFraction_5 : decode cX7_milkFraction 5 = .ok (.invokevirtual 140, 3) := by decide +kernel
theorem dX7_milkFraction_8 : decode cX7_milkFraction 8 = .ok (.i2l, 1) := by decide +kernel
theorem dX7_milkFraction_9 : decode cX7_milkFraction 9 = .ok (.aload_n 0, 1) := by decide +kernel
theorem dX7_milkFraction_10 : decode cX7_milkFraction 10 = .ok (.getfield 12, 3) := by decide +kernel
theorem dX7_milkFraction_13 : decode cX7_milkFraction 13 = .ok (.iload_n 2, 1) := by decide +kernel
theorem dX7_milkFraction_14 : decode cX7_milkFraction 14 = .ok (.invokevirtual 140, 3) := by decide +kernel
theorem dX7_milkFraction_17 : decode cX7_milkFraction 17 = .ok (.i2l, 1) := by decide +kernel
theorem dX7_milkFraction_18 : decode cX7_milkFraction 18 = .ok (.iload_n 3, 1) := by decide +kernel
theorem dX7_milkFraction_19 : decode cX7_milkFraction 19 = .ok (.invokestatic 203, 3) := by decide +kernel
theorem dX7_milkFraction_22 : decode cX7_milkFraction 22 = .ok (.l2i, 1) := by decide +kernel
theorem dX7_milkFraction_23 : decode cX7_milkFraction 23 = .ok (.ireturn, 1) := by decide +kernel
set_option maxRecDepth 20000 in
theorem ggX7_fraction_X7_greatestDivisor : GoodIn wsX7_fraction wsX7_greatestDivisor := goodIn_r _ [4, 5, 6, 7, 8] (by decide +kernel) (by decide +kernel)
set_option maxRecDepth 20000 in
theorem gX7_fraction_X7_greatestDivisor : GoodIn wsX7_fraction (va_wsS RX7 278 yX7_greatestDivisor wsX7_greatestDivisor) := goodIn_app (goodIn_of _ (by decide +kernel)) ggX7_fraction_X7_greatestDivisor
theorem dX7_fraction_0 : decode cX7_fraction 0 = .ok (.lload_n 0, 1) := by decide +kernel
theorem dX7_fraction_1 : decode cX7_fraction 1 = .ok (.lconst 1, 1) := by decide +kernel
theorem dX7_fraction_2 : decode cX7_fraction 2 = .ok (.lcmp, 1) := by decide +kernel
theorem dX7_fraction_3 : decode cX7_fraction 3 = .ok (.ifCond .lt 9, 3) := by decide +kernel
theorem dX7_fraction_6 : decode cX7_fraction 6 = .ok (.lload_n 2, 1) := by decide +kernel
theorem dX7_fraction_7 : decode cX7_fraction 7 = .ok (.lconst 1, 1) := by decide +kernel
theorem dX7_fraction_8 : decode cX7_fraction 8 = .ok (.lcmp, 1) := by decide +kernel
theorem dX7_fraction_9 : decode cX7_fraction 9 = .ok (.ifCond .ge 7, 3) := by decide +kernel
theorem dX7_fraction_12 : decode cX7_fraction 12 = .ok (.iload 4, 2) := by decide +kernel
theorem dX7_fraction_14 : decode cX7_fraction 14 = .ok (.i2l, 1) := by decide +kernel
theorem dX7_fraction_15 : decode cX7_fraction 15 = .ok (.lreturn, 1) := by decide +kernel
theorem dX7_fraction_16 : decode cX7_fraction 16 = .ok (.lload_n 0, 1) := by decide +kernel
theorem dX7_fraction_17 : decode cX7_fraction 17 = .ok (.lload_n 2, 1) := by decide +kernel
theorem dX7_fraction_18 : decode cX7_fraction 18 = .ok (.invokestatic 278, 3) := by decide +kernel
theorem dX7_fraction_21 : decode cX7_fraction 21 = .ok (.lstore 5, 2) := by decide +kernel
theorem dX7_fraction_23 : decode cX7_fraction 23 = .ok (.iload 4, 2) := by decide +kernel
theorem dX7_fraction_25 : decode cX7_fraction 25 = .ok (.ifCond .ne 7, 3) := by decide +kernel
theorem dX7_fraction_28 : decode cX7_fraction 28 = .ok (.lload_n 0, 1) := by decide +kernel
theorem dX7_fraction_29 : decode cX7_fraction 29 = .ok (.goto 4, 3) := by decide +kernel
theorem dX7_fraction_32 : decode cX7_fraction 32 = .ok (.lload_n 2, 1) := by decide +kernel
theorem dX7_fraction_33 : decode cX7_fraction 33 = .ok (.lload 5, 2) := by decide +kernel
theorem dX7_fraction_35 : decode cX7_fraction 35 = .ok (.ldiv, 1) := by decide +kernel
theorem dX7_fraction_36 : decode cX7_fraction 36 = .ok (.lreturn, 1) := by decide +kernel
theorem dX7_greatestDivisor_0 : decode cX7_greatestDivisor 0 = .ok (.lload_n 0, 1) := by decide +kernel
theorem dX7_greatestDivisor_1 : decode cX7_greatestDivisor 1 = .ok (.lstore 4, 2) := by decide +kernel
theorem dX7_greatestDivisor_3 : decode cX7_greatestDivisor 3 = .ok (.lload_n 2, 1) := by decide +kernel
theorem dX7_greatestDivisor_4 : decode cX7_greatestDivisor 4 = .ok (.lstore 6, 2) := by decide +kernel
theorem dX7_greatestDivisor_6 : decode cX7_greatestDivisor 6 = .ok (.iconst 0, 1) := by decide +kernel
theorem dX7_greatestDivisor_7 : decode cX7_greatestDivisor 7 = .ok (.istore 8, 2) := by decide +kernel
theorem dX7_greatestDivisor_9 : decode cX7_greatestDivisor 9 = .ok (.iload 8, 2) := by decide +kernel
theorem dX7_greatestDivisor_11 : decode cX7_greatestDivisor 11 = .ok (.bipush 100, 2) := by decide +kernel
theorem dX7_greatestDivisor_13 : decode cX7_greatestDivisor 13 = .ok (.if_icmp .ge 31, 3) := by decide +kernel
theorem dX7_greatestDivisor_16 : decode cX7_greatestDivisor 16 = .ok (.lload 6, 2) := by decide +kernel
theorem dX7_greatestDivisor_18 : decode cX7_greatestDivisor 18 = .ok (.lconst 0, 1) := by decide +kernel
theorem dX7_greatestDivisor_19 : decode cX7_greatestDivisor 19 = .ok (.lcmp, 1) := by decide +kernel
theorem dX7_greatestDivisor_20 : decode cX7_greatestDivisor 20 = .ok (.ifCond .eq 24, 3) := by decide +kernel
theorem dX7_greatestDivisor_23 : decode cX7_greatestDivisor 23 = .ok (.lload 4, 2) := by decide +kernel
theorem dX7_greatestDivisor_25 : decode cX7_greatestDivisor 25 = .ok (.lload 6, 2) := by decide +kernel
theorem dX7_greatestDivisor_27 : decode cX7_greatestDivisor 27 = .ok (.lrem, 1) := by decide +kernel
theorem dX7_greatestDivisor_28 : decode cX7_greatestDivisor 28 = .ok (.lstore 9, 2) := by decide +kernel
theorem dX7_greatestDivisor_30 : decode cX7_greatestDivisor 30 = .ok (.lload 6, 2) := by decide +kernel
theorem dX7_greatestDivisor_32 : decode cX7_greatestDivisor 32 = .ok (.lstore 4, 2) := by decide +kernel
theorem dX7_greatestDivisor_34 : decode cX7_greatestDivisor 34 = .ok (.lload 9, 2) := by decide +kernel
theorem dX7_greatestDivisor_36 : decode cX7_greatestDivisor 36 = .ok (.lstore 6, 2) := by decide +kernel
theorem dX7_greatestDivisor_38 : decode cX7_greatestDivisor 38 = .ok (.iinc 8 1, 3) := by decide +kernel
theorem dX7_greatestDivisor_41 : decode cX7_greatestDivisor 41 = .ok (.goto (-32), 3) := by decide +kernel
theorem dX7_greatestDivisor_44 : decode cX7_greatestDivisor 44 = .ok (.lconst 1, 1) := by decide +kernel
theorem dX7_greatestDivisor_45 : decode cX7_greatestDivisor 45 = .ok (.lload 4, 2) := by decide +kernel
theorem dX7_greatestDivisor_47 : decode cX7_greatestDivisor 47 = .ok (.invokestatic 282, 3) := by decide +kernel
theorem dX7_greatestDivisor_50 : decode cX7_greatestDivisor 50 = .ok (.lreturn, 1) := by decide +kernel
theorem dX8_init_0 : decode cX8_init 0 = .ok (.aload_n 0, 1) := by decide +kernel
theorem dX8_init_1 : decode cX8_init 1 = .ok (.invokespecial 1, 3) := by decide +kernel
theorem dX8_init_4 : decode cX8_init 4 = .ok (.aload_n 0, 1) := by decide +kernel
theorem dX8_init_5 : decode cX8_init 5 = .ok (.iconst 4, 1) := by decide +kernel
theorem dX8_init_6 : decode cX8_init 6 = .ok (.newarray .int, 2) := by decide +kernel
theorem dX8_init_8 : decode cX8_init 8 = .ok (.putfield 7, 3) := by decide +kernel
theorem dX8_init_11 : decode cX8_init 11 = .ok (.aload_n 0, 1) := by decide +kernel
theorem dX8_init_12 : decode cX8_init 12 = .ok (.iconst 4, 1) := by decide +kernel
theorem dX8_init_13 : decode cX8_init 13 = .ok (.newarray .int, 2) := by decide +kernel
theorem dX8_init_15 : decode cX8_init 15 = .ok (.putfield 13, 3) := by decide +kernel
theorem dX8_init_18 : decode cX8_init 18 = .ok (.aload_n 0, 1) := by decide +kernel
theorem dX8_init_19 : decode cX8_init 19 = .ok (.bipush 96, 2) := by decide +kernel
theorem dX8_init_21 : decode cX8_init 21 = .ok (.newarray .long, 2) := by decide +kernel
theorem dX8_init_23 : decode cX8_init 23 = .ok (.putfield 16, 3) := by decide +kernel
theorem dX8_init_26 : decode cX8_init 26 = .ok (.aload_n 0, 1) := by decide +kernel
theorem dX8_init_27 : decode cX8_init 27 = .ok (.bipush 40, 2) := by decide +kernel
theorem dX8_init_29 : decode cX8_init 29 = .ok (.newarray .int, 2) := by decide +kernel
theorem dX8_init_31 : decode cX8_init 31 = .ok (.putfield 20, 3) := by decide +kernel
theorem dX8_init_34 : decode cX8_init 34 = .ok (.aload_n 0, 1) := by decide +kernel
theorem dX8_init_35 : decode cX8_init 35 = .ok (.bipush 55, 2) := by decide +kernel
theorem dX8_init_37 : decode cX8_init 37 = .ok (.newarray .int, 2) := by decide +kernel
theorem dX8_init_39 : decode cX8_init 39 = .ok (.putfield 23, 3) := by decide +kernel
theorem dX8_init_42 : decode cX8_init 42 = .ok (.aload_n 0, 1) := by decide +kernel
theorem dX8_init_43 : decode cX8_init 43 = .ok (.bipush 55, 2) := by decide +kernel
theorem dX8_init_45 : decode cX8_init 45 = .ok (.newarray .int, 2) := by decide +kernel
theorem dX8_init_47 : decode cX8_init 47 = .ok (.putfield 26, 3) := by decide +kernel
theorem dX8_init_50 : decode cX8_init 50 = .ok (.aload_n 0, 1) := by decide +kernel
theorem dX8_init_51 : decode cX8_init 51 = .ok (.bipush 55, 2) := by decide +kernel
theorem dX8_init_53 : decode cX8_init 53 = .ok (.newarray .int, 2) := by decide +kernel
theorem dX8_init_55 : decode cX8_init 55 = .ok (.putfield 29, 3) := by decide +kernel
theorem dX8_init_58 : decode cX8_init 58 = .ok (.aload_n 0, 1) := by decide +kernel
theorem dX8_init_59 : decode cX8_init 59 = .ok (.bipush 55, 2) := by decide +kernel
theorem dX8_init_61 : decode cX8_init 61 = .ok (.newarray .int, 2) := by decide +kernel
theorem dX8_init_63 : decode cX8_init 63 = .ok (.putfield 32, 3) := by decide +kernel
theorem dX8_init_66 : decode cX8_init 66 = .ok (.aload_n 0, 1) := by decide +kernel
theorem dX8_init_67 : decode cX8_init 67 = .ok (.sipush 256, 3) := by decide +kernel
theorem dX8_init_70 : decode cX8_init 70 = .ok (.newarray .int, 2) := by decide +kernel
theorem dX8_init_72 : decode cX8_init 72 = .ok (.putfield 35, 3) := by decide +kernel
theorem dX8_init_75 : decode cX8_init 75 = .ok (.aload_n 0, 1) := by decide +kernel
theorem dX8_init_76 : decode cX8_init 76 = .ok (.sipush 256, 3) := by decide +kernel
theorem dX8_init_79 : decode cX8_init 79 = .ok (.newarray .int, 2) := by decide +kernel
theorem dX8_init_81 : decode cX8_init 81 = .ok (.putfield 38, 3) := by decide +kernel
theorem dX8_init_84 : decode cX8_init 84 = .ok (.aload_n 0, 1) := by decide +kernel
theorem dX8_init_85 : decode cX8_init 85 = .ok (.bipush 8, 2) := by decide +kernel
theorem dX8_init_87 : decode cX8_init 87 = .ok (.newarray .int, 2) := by decide +kernel
theorem dX8_init_89 : decode cX8_init 89 = .ok (.putfield 41, 3) := by decide +kernel
theorem dX8_init_92 : decode cX8_init 92 = .ok (.iconst 0, 1) := by decide +kernel
theorem dX8_init_93 : decode cX8_init 93 = .ok (.istore_n 1, 1) := by decide +kernel
theorem dX8_init_94 : decode cX8_init 94 = .ok (.iload_n 1, 1) := by decide +kernel
theorem dX8_init_95 : decode cX8_init 95 = .ok (.iconst 4, 1) := by decide +kernel
theorem dX8_init_96 : decode cX8_init 96 = .ok (.if_icmp .ge 16, 3) := by decide +kernel
theorem dX8_init_99 : decode cX8_init 99 = .ok (.aload_n 0, 1) := by decide +kernel
theorem dX8_init_100 : decode cX8_init 100 = .ok (.getfield 7, 3) := by decide +kernel
theorem dX8_init_103 : decode cX8_init 103 = .ok (.iload_n 1, 1) := by decide +kernel
theorem dX8_init_104 : decode cX8_init 104 = .ok (.iconst (-1), 1) := by decide +kernel
theorem dX8_init_105 : decode cX8_init 105 = .ok (.iastore, 1) := by decide +kernel
theorem dX8_init_106 : decode cX8_init 106 = .ok (.iinc 1 1, 3) := by decide +kernel
theorem dX8_init_109 : decode cX8_init 109 = .ok (.goto (-15), 3) := by decide +kernel
theorem dX8_init_112 : decode cX8_init 112 = .ok (.aload_n 0, 1) := by decide +kernel
theorem dX8_init_113 : decode cX8_init 113 = .ok (.getfield 23, 3) := by decide +kernel
theorem dX8_init_116 : decode cX8_init 116 = .ok (.iconst 1, 1) := by decide +kernel
theorem dX8_init_117 : decode cX8_init 117 = .ok (.iconst 1, 1) := by decide +kernel
theorem dX8_init_118 : decode cX8_init 118 = .ok (.iastore, 1) := by decide +kernel
theorem dX8_init_119 : decode cX8_init 119 = .ok (.aload_n 0, 1) := by decide +kernel
theorem dX8_init_120 : decode cX8_init 120 = .ok (.getfield 23, 3) := by decide +kernel
theorem dX8_init_123 : decode cX8_init 123 = .ok (.iconst 3, 1) := by decide +kernel
theorem dX8_init_124 : decode cX8_init 124 = .ok (.bipush (-4), 2) := by decide +kernel
theorem dX8_init_126 : decode cX8_init 126 = .ok (.iastore, 1) := by decide +kernel
theorem dX8_init_127 : decode cX8_init 127 = .ok (.return_, 1) := by decide +kernel
theorem dX8_in_0 : decode cX8_in 0 = .ok (.iload_n 0, 1) := by decide +kernel
theorem dX8_in_1 : decode cX8_in 1 = .ok (.iload_n 1, 1) := by decide +kernel
theorem dX8_in_2 : decode cX8_in 2 = .ok (.if_icmp .lt 12, 3) := by decide +kernel
theorem dX8_in_5 : decode cX8_in 5 = .ok (.iload_n 0, 1) := by decide +kernel
theorem dX8_in_6 : decode cX8_in 6 = .ok (.iload_n 2, 1) := by decide +kernel
theorem dX8_in_7 : decode cX8_in 7 = .ok (.if_icmp .gt 7, 3) := by decide +kernel
theorem dX8_in_10 : decode cX8_in 10 = .ok (.iconst 1, 1) := by decide +kernel
theorem dX8_in_11 : decode cX8_in 11 = .ok (.goto 4, 3) := by decide +kernel
theorem dX8_in_14 : decode cX8_in 14 = .ok (.iconst 0, 1) := by decide +kernel
theorem dX8_in_15 : decode cX8_in 15 = .ok (.ireturn, 1) := by decide +kernel
theorem dX8_has_0 : decode cX8_has 0 = .ok (.iload_n 0, 1) := by decide +kernel
theorem dX8_has_1 : decode cX8_has 1 = .ok (.iload_n 1, 1) := by decide +kernel
theorem dX8_has_2 : decode cX8_has 2 = .ok (.ishr, 1) := by decide +kernel
theorem dX8_has_3 : decode cX8_has 3 = .ok (.iconst 1, 1) := by decide +kernel
theorem dX8_has_4 : decode cX8_has 4 = .ok (.iand, 1) := by decide +kernel
theorem dX8_has_5 : decode cX8_has 5 = .ok (.iconst 1, 1) := by decide +kernel
theorem dX8_has_6 : decode cX8_has 6 = .ok (.if_icmp .ne 7, 3) := by decide +kernel
theorem dX8_has_9 : decode cX8_has 9 = .ok (.iconst 1, 1) := by decide +kernel
theorem dX8_has_10 : decode cX8_has 10 = .ok (.goto 4, 3) := by decide +kernel
theorem dX8_has_13 : decode cX8_has 13 = .ok (.iconst 0, 1) := by decide +kernel
theorem dX8_has_14 : decode cX8_has 14 = .ok (.ireturn, 1) := by decide +kernel
theorem dX8_bits_0 : decode cX8_bits 0 = .ok (.iconst 0, 1) := by decide +kernel
theorem dX8_bits_1 : decode cX8_bits 1 = .ok (.istore_n 1, 1) := by decide +kernel
theorem dX8_bits_2 : decode cX8_bits 2 = .ok (.iconst 0, 1) := by decide +kernel
theorem dX8_bits_3 : decode cX8_bits 3 = .ok (.istore_n 2, 1) := by decide +kernel
theorem dX8_bits_4 : decode cX8_bits 4 = .ok (.iload_n 2, 1) := by decide +kernel
theorem dX8_bits_5 : decode cX8_bits 5 = .ok (.bipush 8, 2) := by decide +kernel
theorem dX8_bits_7 : decode cX8_bits 7 = .ok (.if_icmp .ge 17, 3) := by decide +kernel
theorem dX8_bits_10 : decode cX8_bits 10 = .ok (.iload_n 1, 1) := by decide +kernel
theorem dX8_bits_11 : decode cX8_bits 11 = .ok (.iload_n 0, 1) := by decide +kernel
theorem dX8_bits_12 : decode cX8_bits 12 = .ok (.iload_n 2, 1) := by decide +kernel
theorem dX8_bits_13 : decode cX8_bits 13 = .ok (.ishr, 1) := by decide +kernel
theorem dX8_bits_14 : decode cX8_bits 14 = .ok (.iconst 1, 1) := by decide +kernel
theorem dX8_bits_15 : decode cX8_bits 15 = .ok (.iand, 1) := by decide +kernel
theorem dX8_bits_16 : decode cX8_bits 16 = .ok (.iadd, 1) := by decide +kernel
theorem dX8_bits_17 : decode cX8_bits 17 = .ok (.istore_n 1, 1) := by decide +kernel
theorem dX8_bits_18 : decode cX8_bits 18 = .ok (.iinc 2 1, 3) := by decide +kernel
theorem dX8_bits_21 : decode cX8_bits 21 = .ok (.goto (-17), 3) := by decide +kernel
theorem dX8_bits_24 : decode cX8_bits 24 = .ok (.iload_n 1, 1) := by decide +kernel
theorem dX8_bits_25 : decode cX8_bits 25 = .ok (.ireturn, 1) := by decide +kernel
theorem dX8_bring_0 : decode cX8_bring 0 = .ok (.iconst 0, 1) := by decide +kernel
theorem dX8_bring_1 : decode cX8_bring 1 = .ok (.istore 5, 2) := by decide +kernel
theorem dX8_bring_3 : decode cX8_bring 3 = .ok (.iload 5, 2) := by decide +kernel
theorem dX8_bring_5 : decode cX8_bring 5 = .ok (.iload 4, 2) := by decide +kernel
theorem dX8_bring_7 : decode cX8_bring 7 = .ok (.if_icmp .ge 21, 3) := by decide +kernel
theorem dX8_bring_10 : decode cX8_bring 10 = .ok (.aload_n 2, 1) := by decide +kernel
theorem dX8_bring_11 : decode cX8_bring 11 = .ok (.iload_n 3, 1) := by decide +kernel
theorem dX8_bring_12 : decode cX8_bring 12 = .ok (.iload 5, 2) := by decide +kernel
theorem dX8_bring_14 : decode cX8_bring 14 = .ok (.iadd, 1) := by decide +kernel
theorem dX8_bring_15 : decode cX8_bring 15 = .ok (.aload_n 0, 1) := by decide +kernel
theorem dX8_bring_16 : decode cX8_bring 16 = .ok (.iload_n 1, 1) := by decide +kernel
theorem dX8_bring_17 : decode cX8_bring 17 = .ok (.iload 5, 2) := by decide +kernel
theorem dX8_bring_19 : decode cX8_bring 19 = .ok (.iadd, 1) := by decide +kernel
theorem dX8_bring_20 : decode cX8_bring 20 = .ok (.iaload, 1) := by decide +kernel
theorem dX8_bring_21 : decode cX8_bring 21 = .ok (.iastore, 1) := by decide +kernel
theorem dX8_bring_22 : decode cX8_bring 22 = .ok (.iinc 5 1, 3) := by decide +kernel
theorem dX8_bring_25 : decode cX8_bring 25 = .ok (.goto (-22), 3) := by decide +kernel
theorem dX8_bring_28 : decode cX8_bring 28 = .ok (.return_, 1) := by decide +kernel
set_option maxRecDepth 20000 in
theorem ggX8_isCow_X8_in : GoodIn wsX8_isCow wsX8_in := goodIn_r _ [5] (by decide +kernel) (by decide +kernel)
set_option maxRecDepth 20000 in
theorem gX8_isCow_X8_in : GoodIn wsX8_isCow (va_wsS RX8 44 yX8_in wsX8_in) := goodIn_app (goodIn_of _ (by decide +kernel)) ggX8_isCow_X8_in
theorem dX8_isCow_0 : decode cX8_isCow 0 = .ok (.iload_n 1, 1) := by decide +kernel
theorem dX8_isCow_1 : decode cX8_isCow 1 = .ok (.iconst 0, 1) := by decide +kernel
theorem dX8_isCow_2 : decode cX8_isCow 2 = .ok (.aload_n 0, 1) := by decide +kernel
theorem dX8_isCow_3 : decode cX8_isCow 3 = .ok (.getfield 23, 3) := by decide +kernel
theorem dX8_isCow_6 : decode cX8_isCow 6 = .ok (.iconst 4, 1) := by decide +kernel
theorem dX8_isCow_7 : decode cX8_isCow 7 = .ok (.iaload, 1) := by decide +kernel
theorem dX8_isCow_8 : decode cX8_isCow 8 = .ok (.iconst 1, 1) := by decide +kernel
theorem dX8_isCow_9 : decode cX8_isCow 9 = .ok (.isub, 1) := by decide +kernel
theorem dX8_isCow_10 : decode cX8_isCow 10 = .ok (.invokestatic 44, 3) := by decide +kernel
theorem dX8_isCow_13 : decode cX8_isCow 13 = .ok (.ireturn, 1) := by decide +kernel
set_option maxRecDepth 20000 in
theorem ggX8_isTaster_X8_in : GoodIn wsX8_isTaster wsX8_in := goodIn_r _ [5] (by decide +kernel) (by decide +kernel)
set_option maxRecDepth 20000 in
theorem gX8_isTaster_X8_in : GoodIn wsX8_isTaster (va_wsS RX8 44 yX8_in wsX8_in) := goodIn_app (goodIn_of _ (by decide +kernel)) ggX8_isTaster_X8_in
theorem dX8_isTaster_0 : decode cX8_isTaster 0 = .ok (.iload_n 1, 1) := by decide +kernel
theorem dX8_isTaster_1 : decode cX8_isTaster 1 = .ok (.iconst 0, 1) := by decide +kernel
theorem dX8_isTaster_2 : decode cX8_isTaster 2 = .ok (.aload_n 0, 1) := by decide +kernel
theorem dX8_isTaster_3 : decode cX8_isTaster 3 = .ok (.getfield 23, 3) := by decide +kernel
theorem dX8_isTaster_6 : decode cX8_isTaster 6 = .ok (.bipush 13, 2) := by decide +kernel
theorem dX8_isTaster_8 : decode cX8_isTaster 8 = .ok (.iaload, 1) := by decide +kernel
theorem dX8_isTaster_9 : decode cX8_isTaster 9 = .ok (.iconst 1, 1) := by decide +kernel
theorem dX8_isTaster_10 : decode cX8_isTaster 10 = .ok (.isub, 1) := by decide +kernel
theorem dX8_isTaster_11 : decode cX8_isTaster 11 = .ok (.invokestatic 44, 3) := by decide +kernel
theorem dX8_isTaster_14 : decode cX8_isTaster 14 = .ok (.ireturn, 1) := by decide +kernel
theorem dX8_allOf_0 : decode cX8_allOf 0 = .ok (.iconst 1, 1) := by decide +kernel
theorem dX8_allOf_1 : decode cX8_allOf 1 = .ok (.aload_n 0, 1) := by decide +kernel
theorem dX8_allOf_2 : decode cX8_allOf 2 = .ok (.iconst 4, 1) := by decide +kernel
theorem dX8_allOf_3 : decode cX8_allOf 3 = .ok (.iaload, 1) := by decide +kernel
theorem dX8_allOf_4 : decode cX8_allOf 4 = .ok (.ishl, 1) := by decide +kernel
theorem dX8_allOf_5 : decode cX8_allOf 5 = .ok (.iconst 1, 1) := by decide +kernel
theorem dX8_allOf_6 : decode cX8_allOf 6 = .ok (.isub, 1) := by decide +kernel
theorem dX8_allOf_7 : decode cX8_allOf 7 = .ok (.ireturn, 1) := by decide +kernel
set_option maxRecDepth 20000 in
theorem ggX8_isMix_X8_allOf : GoodIn wsX8_isMix wsX8_allOf := goodIn_r _ [5] (by decide +kernel) (by decide +kernel)
set_option maxRecDepth 20000 in
theorem gX8_isMix_X8_allOf : GoodIn wsX8_isMix (va_wsS RX8 48 yX8_allOf wsX8_allOf) := goodIn_app (goodIn_of _ (by decide +kernel)) ggX8_isMix_X8_allOf
set_option maxRecDepth 20000 in
theorem ggX8_isMix_X8_in : GoodIn wsX8_isMix wsX8_in := goodIn_r _ [8] (by decide +kernel) (by decide +kernel)
set_option maxRecDepth 20000 in
theorem gX8_isMix_X8_in : GoodIn wsX8_isMix (va_wsS RX8 44 yX8_in wsX8_in) := goodIn_app (goodIn_of _ (by decide +kernel)) ggX8_isMix_X8_in
theorem dX8_isMix_0 : decode cX8_isMix 0 = .ok (.iload_n 1, 1) := by decide +kernel
theorem dX8_isMix_1 : decode cX8_isMix 1 = .ok (.iconst 1, 1) := by decide +kernel
theorem dX8_isMix_2 : decode cX8_isMix 2 = .ok (.aload_n 0, 1) := by decide +kernel
theorem dX8_isMix_3 : decode cX8_isMix 3 = .ok (.getfield 23, 3) := by decide +kernel
theorem dX8_isMix_6 : decode cX8_isMix 6 = .ok (.invokestatic 48, 3) := by decide +kernel
theorem dX8_isMix_9 : decode cX8_isMix 9 = .ok (.invokestatic 44, 3) := by decide +kernel
theorem dX8_isMix_12 : decode cX8_isMix 12 = .ok (.ireturn, 1) := by decide +kernel
set_option maxRecDepth 20000 in
theorem ggX8_addCow_X8_allOf : GoodIn wsX8_addCow wsX8_allOf := goodIn_r _ [4] (by decide +kernel) (by decide +kernel)
set_option maxRecDepth 20000 in
theorem gX8_addCow_X8_allOf : GoodIn wsX8_addCow (va_wsS RX8 48 yX8_allOf wsX8_allOf) := goodIn_app (goodIn_of _ (by decide +kernel)) ggX8_addCow_X8_allOf
theorem dX8_addCow_0 : decode cX8_addCow 0 = .ok (.aload_n 0, 1) := by decide +kernel
theorem dX8_addCow_1 : decode cX8_addCow 1 = .ok (.iconst 4, 1) := by decide +kernel
theorem dX8_addCow_2 : decode cX8_addCow 2 = .ok (.iaload, 1) := by decide +kernel
theorem dX8_addCow_3 : decode cX8_addCow 3 = .ok (.istore_n 2, 1) := by decide +kernel
theorem dX8_addCow_4 : decode cX8_addCow 4 = .ok (.aload_n 0, 1) := by decide +kernel
theorem dX8_addCow_5 : decode cX8_addCow 5 = .ok (.iconst 5, 1) := by decide +kernel
theorem dX8_addCow_6 : decode cX8_addCow 6 = .ok (.iload_n 2, 1) := by decide +kernel
theorem dX8_addCow_7 : decode cX8_addCow 7 = .ok (.iadd, 1) := by decide +kernel
theorem dX8_addCow_8 : decode cX8_addCow 8 = .ok (.iload_n 1, 1) := by decide +kernel
theorem dX8_addCow_9 : decode cX8_addCow 9 = .ok (.iastore, 1) := by decide +kernel
theorem dX8_addCow_10 : decode cX8_addCow 10 = .ok (.aload_n 0, 1) := by decide +kernel
theorem dX8_addCow_11 : decode cX8_addCow 11 = .ok (.iconst 4, 1) := by decide +kernel
theorem dX8_addCow_12 : decode cX8_addCow 12 = .ok (.dup2, 1) := by decide +kernel
theorem dX8_addCow_13 : decode cX8_addCow 13 = .ok (.iaload, 1) := by decide +kernel
theorem dX8_addCow_14 : decode cX8_addCow 14 = .ok (.iconst 1, 1) := by decide +kernel
theorem dX8_addCow_15 : decode cX8_addCow 15 = .ok (.iadd, 1) := by decide +kernel
theorem dX8_addCow_16 : decode cX8_addCow 16 = .ok (.iastore, 1) := by decide +kernel
theorem dX8_addCow_17 : decode cX8_addCow 17 = .ok (.aload_n 0, 1) := by decide +kernel
theorem dX8_addCow_18 : decode cX8_addCow 18 = .ok (.iconst 2, 1) := by decide +kernel
theorem dX8_addCow_19 : decode cX8_addCow 19 = .ok (.aload_n 0, 1) := by decide +kernel
theorem dX8_addCow_20 : decode cX8_addCow 20 = .ok (.invokestatic 48, 3) := by decide +kernel
theorem dX8_addCow_23 : decode cX8_addCow 23 = .ok (.iastore, 1) := by decide +kernel
theorem dX8_addCow_24 : decode cX8_addCow 24 = .ok (.iload_n 2, 1) := by decide +kernel
theorem dX8_addCow_25 : decode cX8_addCow 25 = .ok (.ireturn, 1) := by decide +kernel
theorem dX8_addTaster_0 : decode cX8_addTaster 0 = .ok (.aload_n 0, 1) := by decide +kernel
theorem dX8_addTaster_1 : decode cX8_addTaster 1 = .ok (.bipush 13, 2) := by decide +kernel
theorem dX8_addTaster_3 : decode cX8_addTaster 3 = .ok (.iaload, 1) := by decide +kernel
theorem dX8_addTaster_4 : decode cX8_addTaster 4 = .ok (.istore_n 3, 1) := by decide +kernel
theorem dX8_addTaster_5 : decode cX8_addTaster 5 = .ok (.aload_n 0, 1) := by decide +kernel
theorem dX8_addTaster_6 : decode cX8_addTaster 6 = .ok (.bipush 14, 2) := by decide +kernel
theorem dX8_addTaster_8 : decode cX8_addTaster 8 = .ok (.iload_n 3, 1) := by decide +kernel
theorem dX8_addTaster_9 : decode cX8_addTaster 9 = .ok (.iadd, 1) := by decide +kernel
theorem dX8_addTaster_10 : decode cX8_addTaster 10 = .ok (.iload_n 1, 1) := by decide +kernel
theorem dX8_addTaster_11 : decode cX8_addTaster 11 = .ok (.iastore, 1) := by decide +kernel
theorem dX8_addTaster_12 : decode cX8_addTaster 12 = .ok (.aload_n 0, 1) := by decide +kernel
theorem dX8_addTaster_13 : decode cX8_addTaster 13 = .ok (.bipush 18, 2) := by decide +kernel
theorem dX8_addTaster_15 : decode cX8_addTaster 15 = .ok (.iload_n 3, 1) := by decide +kernel
theorem dX8_addTaster_16 : decode cX8_addTaster 16 = .ok (.iadd, 1) := by decide +kernel
theorem dX8_addTaster_17 : decode cX8_addTaster 17 = .ok (.iload_n 2, 1) := by decide +kernel
theorem dX8_addTaster_18 : decode cX8_addTaster 18 = .ok (.iastore, 1) := by decide +kernel
theorem dX8_addTaster_19 : decode cX8_addTaster 19 = .ok (.aload_n 0, 1) := by decide +kernel
theorem dX8_addTaster_20 : decode cX8_addTaster 20 = .ok (.bipush 13, 2) := by decide +kernel
theorem dX8_addTaster_22 : decode cX8_addTaster 22 = .ok (.dup2, 1) := by decide +kernel
theorem dX8_addTaster_23 : decode cX8_addTaster 23 = .ok (.iaload, 1) := by decide +kernel
theorem dX8_addTaster_24 : decode cX8_addTaster 24 = .ok (.iconst 1, 1) := by decide +kernel
theorem dX8_addTaster_25 : decode cX8_addTaster 25 = .ok (.iadd, 1) := by decide +kernel
theorem dX8_addTaster_26 : decode cX8_addTaster 26 = .ok (.iastore, 1) := by decide +kernel
theorem dX8_addTaster_27 : decode cX8_addTaster 27 = .ok (.iload_n 3, 1) := by decide +kernel
theorem dX8_addTaster_28 : decode cX8_addTaster 28 = .ok (.ireturn, 1) := by decide +kernel
set_option maxRecDepth 20000 in
theorem ggX8_cow_X8_in : GoodIn wsX8_cow wsX8_in := goodIn_r _ [5] (by decide +kernel) (by decide +kernel)
set_option maxRecDepth 20000 in
theorem gX8_cow_X8_in : GoodIn wsX8_cow (va_wsS RX8 44 yX8_in wsX8_in) := goodIn_app (goodIn_of _ (by decide +kernel)) ggX8_cow_X8_in
set_option maxRecDepth 20000 in
theorem ggX8_cow_X8_addCow : GoodIn wsX8_cow wsX8_addCow := goodIn_r _ [8, 9, 10, 4, 11] (by decide +kernel) (by decide +kernel)
set_option maxRecDepth 20000 in
theorem gX8_cow_X8_addCow : GoodIn wsX8_cow (va_wsS RX8 52 yX8_addCow wsX8_addCow) := goodIn_app (goodIn_of _ (by decide +kernel)) ggX8_cow_X8_addCow
theorem dX8_cow_0 : decode cX8_cow 0 = .ok (.iload_n 1, 1) := by decide +kernel
theorem dX8_cow_1 : decode cX8_cow 1 = .ok (.iconst 1, 1) := by decide +kernel
theorem dX8_cow_2 : decode cX8_cow 2 = .ok (.bipush 9, 2) := by decide +kernel
theorem dX8_cow_4 : decode cX8_cow 4 = .ok (.invokestatic 44, 3) := by decide +kernel
theorem dX8_cow_7 : decode cX8_cow 7 = .ok (.ifCond .ne 5, 3) := by decide +kernel
theorem dX8_cow_10 : decode cX8_cow 10 = .ok (.iconst (-1), 1) := by decide +kernel
theorem dX8_cow_11 : decode cX8_cow 11 = .ok (.ireturn, 1) := by decide +kernel
theorem dX8_cow_12 : decode cX8_cow 12 = .ok (.aload_n 0, 1) := by decide +kernel
theorem dX8_cow_13 : decode cX8_cow 13 = .ok (.getfield 23, 3) := by decide +kernel
theorem dX8_cow_16 : decode cX8_cow 16 = .ok (.iconst 4, 1) := by decide +kernel
theorem dX8_cow_17 : decode cX8_cow 17 = .ok (.iaload, 1) := by decide +kernel
theorem dX8_cow_18 : decode cX8_cow 18 = .ok (.bipush 8, 2) := by decide +kernel
theorem dX8_cow_20 : decode cX8_cow 20 = .ok (.if_icmp .ne 6, 3) := by decide +kernel
theorem dX8_cow_23 : decode cX8_cow 23 = .ok (.bipush (-3), 2) := by decide +kernel
theorem dX8_cow_25 : decode cX8_cow 25 = .ok (.ireturn, 1) := by decide +kernel
theorem dX8_cow_26 : decode cX8_cow 26 = .ok (.aload_n 0, 1) := by decide +kernel
theorem dX8_cow_27 : decode cX8_cow 27 = .ok (.getfield 23, 3) := by decide +kernel
theorem dX8_cow_30 : decode cX8_cow 30 = .ok (.bipush 22, 2) := by decide +kernel
theorem dX8_cow_32 : decode cX8_cow 32 = .ok (.iconst 0, 1) := by decide +kernel
theorem dX8_cow_33 : decode cX8_cow 33 = .ok (.iastore, 1) := by decide +kernel
theorem dX8_cow_34 : decode cX8_cow 34 = .ok (.aload_n 0, 1) := by decide +kernel
theorem dX8_cow_35 : decode cX8_cow 35 = .ok (.getfield 23, 3) := by decide +kernel
theorem dX8_cow_38 : decode cX8_cow 38 = .ok (.iload_n 1, 1) := by decide +kernel
theorem dX8_cow_39 : decode cX8_cow 39 = .ok (.invokestatic 52, 3) := by decide +kernel
theorem dX8_cow_42 : decode cX8_cow 42 = .ok (.ireturn, 1) := by decide +kernel
set_option maxRecDepth 20000 in
theorem ggX8_taster_X8_in : GoodIn wsX8_taster wsX8_in := goodIn_r _ [5] (by decide +kernel) (by decide +kernel)
set_option maxRecDepth 20000 in
theorem gX8_taster_X8_in : GoodIn wsX8_taster (va_wsS RX8 44 yX8_in wsX8_in) := goodIn_app (goodIn_of _ (by decide +kernel)) ggX8_taster_X8_in
set_option maxRecDepth 20000 in
theorem ggX8_taster_X8_addTaster : GoodIn wsX8_taster wsX8_addTaster := goodIn_r _ [8] (by decide +kernel) (by decide +kernel)
set_option maxRecDepth 20000 in
theorem gX8_taster_X8_addTaster : GoodIn wsX8_taster (va_wsS RX8 56 yX8_addTaster wsX8_addTaster) := goodIn_app (goodIn_of _ (by decide +kernel)) ggX8_taster_X8_addTaster
theorem dX8_taster_0 : decode cX8_taster 0 = .ok (.iload_n 1, 1) := by decide +kernel
theorem dX8_taster_1 : decode cX8_taster 1 = .ok (.iconst 0, 1) := by decide +kernel
theorem dX8_taster_2 : decode cX8_taster 2 = .ok (.iconst 4, 1) := by decide +kernel
theorem dX8_taster_3 : decode cX8_taster 3 = .ok (.invokestatic 44, 3) := by decide +kernel
theorem dX8_taster_6 : decode cX8_taster 6 = .ok (.ifCond .eq 13, 3) := by decide +kernel
theorem dX8_taster_9 : decode cX8_taster 9 = .ok (.iload_n 2, 1) := by decide +kernel
theorem dX8_taster_10 : decode cX8_taster 10 = .ok (.iconst 1, 1) := by decide +kernel
theorem dX8_taster_11 : decode cX8_taster 11 = .ok (.bipush 9, 2) := by decide +kernel
theorem dX8_taster_13 : decode cX8_taster 13 = .ok (.invokestatic 44, 3) := by decide +kernel
theorem dX8_taster_16 : decode cX8_taster 16 = .ok (.ifCond .ne 5, 3) := by decide +kernel
theorem dX8_taster_19 : decode cX8_taster 19 = .ok (.iconst (-1), 1) := by decide +kernel
theorem dX8_taster_20 : decode cX8_taster 20 = .ok (.ireturn, 1) := by decide +kernel
theorem dX8_taster_21 : decode cX8_taster 21 = .ok (.aload_n 0, 1) := by decide +kernel
theorem dX8_taster_22 : decode cX8_taster 22 = .ok (.getfield 23, 3) := by decide +kernel
theorem dX8_taster_25 : decode cX8_taster 25 = .ok (.bipush 13, 2) := by decide +kernel
theorem dX8_taster_27 : decode cX8_taster 27 = .ok (.iaload, 1) := by decide +kernel
theorem dX8_taster_28 : decode cX8_taster 28 = .ok (.iconst 4, 1) := by decide +kernel
theorem dX8_taster_29 : decode cX8_taster 29 = .ok (.if_icmp .ne 6, 3) := by decide +kernel
theorem dX8_taster_32 : decode cX8_taster 32 = .ok (.bipush (-3), 2) := by decide +kernel
theorem dX8_taster_34 : decode cX8_taster 34 = .ok (.ireturn, 1) := by decide +kernel
theorem dX8_taster_35 : decode cX8_taster 35 = .ok (.aload_n 0, 1) := by decide +kernel
theorem dX8_taster_36 : decode cX8_taster 36 = .ok (.getfield 23, 3) := by decide +kernel
theorem dX8_taster_39 : decode cX8_taster 39 = .ok (.bipush 22, 2) := by decide +kernel
theorem dX8_taster_41 : decode cX8_taster 41 = .ok (.iconst 0, 1) := by decide +kernel
theorem dX8_taster_42 : decode cX8_taster 42 = .ok (.iastore, 1) := by decide +kernel
theorem dX8_taster_43 : decode cX8_taster 43 = .ok (.aload_n 0, 1) := by decide +kernel
theorem dX8_taster_44 : decode cX8_taster 44 = .ok (.getfield 23, 3) := by decide +kernel
theorem dX8_taster_47 : decode cX8_taster 47 = .ok (.iload_n 1, 1) := by decide +kernel
theorem dX8_taster_48 : decode cX8_taster 48 = .ok (.iload_n 2, 1) := by decide +kernel
theorem dX8_taster_49 : decode cX8_taster 49 = .ok (.invokestatic 56, 3) := by decide +kernel
theorem dX8_taster_52 : decode cX8_taster 52 = .ok (.ireturn, 1) := by decide +kernel
set_option maxRecDepth 20000 in
theorem ggX8_milk_X8_isCow : GoodIn wsX8_milk wsX8_isCow := goodIn_r _ [6, 1, 7, 8, 5, 9, 10, 11, 12, 13, 14, 15, 16, 17, 18, 19, 20, 21, 22, 23, 24, 25, 26, 27] (by decide +kernel) (by decide +kernel)
set_option maxRecDepth 20000 in
theorem gX8_milk_X8_isCow : GoodIn wsX8_milk (wsV RX8 60 RX8 yX8_isCow wsX8_isCow) := goodIn_app (goodIn_of _ (by decide +kernel)) ggX8_milk_X8_isCow
set_option maxRecDepth 20000 in
theorem ggX8_milk_X8_in : GoodIn wsX8_milk wsX8_in := goodIn_r _ [9] (by decide +kernel) (by decide +kernel)
set_option maxRecDepth 20000 in
theorem gX8_milk_X8_in : GoodIn wsX8_milk (va_wsS RX8 44 yX8_in wsX8_in) := goodIn_app (goodIn_of _ (by decide +kernel)) ggX8_milk_X8_in
theorem dX8_milk_0 : decode cX8_milk 0 = .ok (.aload_n 0, 1) := by decide +kernel
theorem dX8_milk_1 : decode cX8_milk 1 = .ok (.iload_n 1, 1) := by decide +kernel
theorem dX8_milk_2 : decode cX8_milk 2 = .ok (.invokevirtual 60, 3) := by decide +kernel
theorem dX8_milk_5 : decode cX8_milk 5 = .ok (.ifCond .eq 13, 3) := by decide +kernel
theorem dX8_milk_8 : decode cX8_milk 8 = .ok (.iload_n 2, 1) := by decide +kernel
theorem dX8_milk_9 : decode cX8_milk 9 = .ok (.iconst 1, 1) := by decide +kernel
theorem dX8_milk_10 : decode cX8_milk 10 = .ok (.bipush 9, 2) := by decide +kernel
theorem dX8_milk_12 : decode cX8_milk 12 = .ok (.invokestatic 44, 3) := by decide +kernel
theorem dX8_milk_15 : decode cX8_milk 15 = .ok (.ifCond .ne 5, 3) := by decide +kernel
theorem dX8_milk_18 : decode cX8_milk 18 = .ok (.iconst (-1), 1) := by decide +kernel
theorem dX8_milk_19 : decode cX8_milk 19 = .ok (.ireturn, 1) := by decide +kernel
theorem dX8_milk_20 : decode cX8_milk 20 = .ok (.aload_n 0, 1) := by decide +kernel
theorem dX8_milk_21 : decode cX8_milk 21 = .ok (.getfield 23, 3) := by decide +kernel
theorem dX8_milk_24 : decode cX8_milk 24 = .ok (.iconst 5, 1) := by decide +kernel
theorem dX8_milk_25 : decode cX8_milk 25 = .ok (.iload_n 1, 1) := by decide +kernel
theorem dX8_milk_26 : decode cX8_milk 26 = .ok (.iadd, 1) := by decide +kernel
theorem dX8_milk_27 : decode cX8_milk 27 = .ok (.iaload, 1) := by decide +kernel
theorem dX8_milk_28 : decode cX8_milk 28 = .ok (.istore_n 3, 1) := by decide +kernel
theorem dX8_milk_29 : decode cX8_milk 29 = .ok (.aload_n 0, 1) := by decide +kernel
theorem dX8_milk_30 : decode cX8_milk 30 = .ok (.getfield 23, 3) := by decide +kernel
theorem dX8_milk_33 : decode cX8_milk 33 = .ok (.iconst 5, 1) := by decide +kernel
theorem dX8_milk_34 : decode cX8_milk 34 = .ok (.iload_n 1, 1) := by decide +kernel
theorem dX8_milk_35 : decode cX8_milk 35 = .ok (.iadd, 1) := by decide +kernel
theorem dX8_milk_36 : decode cX8_milk 36 = .ok (.iload_n 2, 1) := by decide +kernel
theorem dX8_milk_37 : decode cX8_milk 37 = .ok (.iastore, 1) := by decide +kernel
theorem dX8_milk_38 : decode cX8_milk 38 = .ok (.iload_n 3, 1) := by decide +kernel
theorem dX8_milk_39 : decode cX8_milk 39 = .ok (.ireturn, 1) := by decide +kernel
set_option maxRecDepth 20000 in
theorem ggX8_at_X8_isTaster : GoodIn wsX8_at wsX8_isTaster := goodIn_r _ [6, 1, 7, 8, 5, 9, 10, 11, 12, 13, 14, 15, 16, 17, 18, 19, 20, 21, 22, 23, 24, 25, 26, 27] (by decide +kernel) (by decide +kernel)
set_option maxRecDepth 20000 in
theorem gX8_at_X8_isTaster : GoodIn wsX8_at (wsV RX8 64 RX8 yX8_isTaster wsX8_isTaster) := goodIn_app (goodIn_of _ (by decide +kernel)) ggX8_at_X8_isTaster
theorem dX8_at_0 : decode cX8_at 0 = .ok (.aload_n 0, 1) := by decide +kernel
theorem dX8_at_1 : decode cX8_at 1 = .ok (.iload_n 1, 1) := by decide +kernel
theorem dX8_at_2 : decode cX8_at 2 = .ok (.invokevirtual 64, 3) := by decide +kernel
theorem dX8_at_5 : decode cX8_at 5 = .ok (.ifCond .ne 5, 3) := by decide +kernel
theorem dX8_at_8 : decode cX8_at 8 = .ok (.iconst (-1), 1) := by decide +kernel
theorem dX8_at_9 : decode cX8_at 9 = .ok (.ireturn, 1) := by decide +kernel
theorem dX8_at_10 : decode cX8_at 10 = .ok (.iload_n 2, 1) := by decide +kernel
theorem dX8_at_11 : decode cX8_at 11 = .ok (.ifCond .ne 15, 3) := by decide +kernel
theorem dX8_at_14 : decode cX8_at 14 = .ok (.aload_n 0, 1) := by decide +kernel
theorem dX8_at_15 : decode cX8_at 15 = .ok (.getfield 23, 3) := by decide +kernel
theorem dX8_at_18 : decode cX8_at 18 = .ok (.bipush 14, 2) := by decide +kernel
theorem dX8_at_20 : decode cX8_at 20 = .ok (.iload_n 1, 1) := by decide +kernel
theorem dX8_at_21 : decode cX8_at 21 = .ok (.iadd, 1) := by decide +kernel
theorem dX8_at_22 : decode cX8_at 22 = .ok (.iaload, 1) := by decide +kernel
theorem dX8_at_23 : decode cX8_at 23 = .ok (.goto 21, 3) := by decide +kernel
theorem dX8_at_26 : decode cX8_at 26 = .ok (.iload_n 2, 1) := by decide +kernel
theorem dX8_at_27 : decode cX8_at 27 = .ok (.iconst 1, 1) := by decide +kernel
theorem dX8_at_28 : decode cX8_at 28 = .ok (.if_icmp .ne 15, 3) := by decide +kernel
theorem dX8_at_31 : decode cX8_at 31 = .ok (.aload_n 0, 1) := by decide +kernel
theorem dX8_at_32 : decode cX8_at 32 = .ok (.getfield 23, 3) := by decide +kernel
theorem dX8_at_35 : decode cX8_at 35 = .ok (.bipush 18, 2) := by decide +kernel
theorem dX8_at_37 : decode cX8_at 37 = .ok (.iload_n 1, 1) := by decide +kernel
theorem dX8_at_38 : decode cX8_at 38 = .ok (.iadd, 1) := by decide +kernel
theorem dX8_at_39 : decode cX8_at 39 = .ok (.iaload, 1) := by decide +kernel
theorem dX8_at_40 : decode cX8_at 40 = .ok (.goto 4, 3) := by decide +kernel
theorem dX8_at_43 : decode cX8_at 43 = .ok (.iconst (-1), 1) := by decide +kernel
theorem dX8_at_44 : decode cX8_at 44 = .ok (.ireturn, 1) := by decide +kernel
set_option maxRecDepth 20000 in
theorem ggX8_of_X8_isCow : GoodIn wsX8_of wsX8_isCow := goodIn_r _ [6, 1, 7, 8, 5, 9, 10, 11, 12, 13, 14, 15, 16, 17, 18, 19, 20, 21, 22, 23, 24, 25, 26, 27] (by decide +kernel) (by decide +kernel)
set_option maxRecDepth 20000 in
theorem gX8_of_X8_isCow : GoodIn wsX8_of (wsV RX8 60 RX8 yX8_isCow wsX8_isCow) := goodIn_app (goodIn_of _ (by decide +kernel)) ggX8_of_X8_isCow
theorem dX8_of_0 : decode cX8_of 0 = .ok (.aload_n 0, 1) := by decide +kernel
theorem dX8_of_1 : decode cX8_of 1 = .ok (.iload_n 1, 1) := by decide +kernel
theorem dX8_of_2 : decode cX8_of 2 = .ok (.invokevirtual 60, 3) := by decide +kernel
theorem dX8_of_5 : decode cX8_of 5 = .ok (.ifCond .eq 14, 3) := by decide +kernel
theorem dX8_of_8 : decode cX8_of 8 = .ok (.aload_n 0, 1) := by decide +kernel
theorem dX8_of_9 : decode cX8_of 9 = .ok (.getfield 23, 3) := by decide +kernel
theorem dX8_of_12 : decode cX8_of 12 = .ok (.iconst 5, 1) := by decide +kernel
theorem dX8_of_13 : decode cX8_of 13 = .ok (.iload_n 1, 1) := by decide +kernel
theorem dX8_of_14 : decode cX8_of 14 = .ok (.iadd, 1) := by decide +kernel
theorem dX8_of_15 : decode cX8_of 15 = .ok (.iaload, 1) := by decide +kernel
theorem dX8_of_16 : decode cX8_of 16 = .ok (.goto 4, 3) := by decide +kernel
theorem dX8_of_19 : decode cX8_of 19 = .ok (.iconst (-1), 1) := by decide +kernel
theorem dX8_of_20 : decode cX8_of 20 = .ok (.ireturn, 1) := by decide +kernel
set_option maxRecDepth 20000 in
theorem ggX8_milkOf_X8_has : GoodIn wsX8_milkOf wsX8_has := goodIn_r _ [4] (by decide +kernel) (by decide +kernel)
set_option maxRecDepth 20000 in
theorem gX8_milkOf_X8_has : GoodIn wsX8_milkOf (va_wsS RX8 67 yX8_has wsX8_has) := goodIn_app (goodIn_of _ (by decide +kernel)) ggX8_milkOf_X8_has
theorem dX8_milkOf_0 : decode cX8_milkOf 0 = .ok (.iconst 0, 1) := by decide +kernel
theorem dX8_milkOf_1 : decode cX8_milkOf 1 = .ok (.istore_n 2, 1) := by decide +kernel
theorem dX8_milkOf_2 : decode cX8_milkOf 2 = .ok (.iconst 0, 1) := by decide +kernel
theorem dX8_milkOf_3 : decode cX8_milkOf 3 = .ok (.istore_n 3, 1) := by decide +kernel
theorem dX8_milkOf_4 : decode cX8_milkOf 4 = .ok (.iload_n 3, 1) := by decide +kernel
theorem dX8_milkOf_5 : decode cX8_milkOf 5 = .ok (.aload_n 0, 1) := by decide +kernel
theorem dX8_milkOf_6 : decode cX8_milkOf 6 = .ok (.iconst 4, 1) := by decide +kernel
theorem dX8_milkOf_7 : decode cX8_milkOf 7 = .ok (.iaload, 1) := by decide +kernel
theorem dX8_milkOf_8 : decode cX8_milkOf 8 = .ok (.if_icmp .ge 29, 3) := by decide +kernel
theorem dX8_milkOf_11 : decode cX8_milkOf 11 = .ok (.iload_n 2, 1) := by decide +kernel
theorem dX8_milkOf_12 : decode cX8_milkOf 12 = .ok (.iload_n 1, 1) := by decide +kernel
theorem dX8_milkOf_13 : decode cX8_milkOf 13 = .ok (.iload_n 3, 1) := by decide +kernel
theorem dX8_milkOf_14 : decode cX8_milkOf 14 = .ok (.invokestatic 67, 3) := by decide +kernel
theorem dX8_milkOf_17 : decode cX8_milkOf 17 = .ok (.ifCond .eq 11, 3) := by decide +kernel
theorem dX8_milkOf_20 : decode cX8_milkOf 20 = .ok (.aload_n 0, 1) := by decide +kernel
theorem dX8_milkOf_21 : decode cX8_milkOf 21 = .ok (.iconst 5, 1) := by decide +kernel
theorem dX8_milkOf_22 : decode cX8_milkOf 22 = .ok (.iload_n 3, 1) := by decide +kernel
theorem dX8_milkOf_23 : decode cX8_milkOf 23 = .ok (.iadd, 1) := by decide +kernel
theorem dX8_milkOf_24 : decode cX8_milkOf 24 = .ok (.iaload, 1) := by decide +kernel
theorem dX8_milkOf_25 : decode cX8_milkOf 25 = .ok (.goto 4, 3) := by decide +kernel
theorem dX8_milkOf_28 : decode cX8_milkOf 28 = .ok (.iconst 0, 1) := by decide +kernel
theorem dX8_milkOf_29 : decode cX8_milkOf 29 = .ok (.iadd, 1) := by decide +kernel
theorem dX8_milkOf_30 : decode cX8_milkOf 30 = .ok (.istore_n 2, 1) := by decide +kernel
theorem dX8_milkOf_31 : decode cX8_milkOf 31 = .ok (.iinc 3 1, 3) := by decide +kernel
theorem dX8_milkOf_34 : decode cX8_milkOf 34 = .ok (.goto (-30), 3) := by decide +kernel
theorem dX8_milkOf_37 : decode cX8_milkOf 37 = .ok (.iload_n 2, 1) := by decide +kernel
theorem dX8_milkOf_38 : decode cX8_milkOf 38 = .ok (.ireturn, 1) := by decide +kernel
set_option maxRecDepth 20000 in
theorem ggX8_noticesIn_X8_has : GoodIn wsX8_noticesIn wsX8_has := goodIn_r _ [4] (by decide +kernel) (by decide +kernel)
set_option maxRecDepth 20000 in
theorem gX8_noticesIn_X8_has : GoodIn wsX8_noticesIn (va_wsS RX8 67 yX8_has wsX8_has) := goodIn_app (goodIn_of _ (by decide +kernel)) ggX8_noticesIn_X8_has
set_option maxRecDepth 20000 in
theorem ggX8_noticesIn_X8_milkOf : GoodIn wsX8_noticesIn wsX8_milkOf := goodIn_r _ [7, 1, 2, 3, 4] (by decide +kernel) (by decide +kernel)
set_option maxRecDepth 20000 in
theorem gX8_noticesIn_X8_milkOf : GoodIn wsX8_noticesIn (va_wsS RX8 71 yX8_milkOf wsX8_milkOf) := goodIn_app (goodIn_of _ (by decide +kernel)) ggX8_noticesIn_X8_milkOf
set_option maxRecDepth 20000 in
theorem ggX8_noticesIn_X8_bits : GoodIn wsX8_noticesIn wsX8_bits := goodIn_r _ [10] (by decide +kernel) (by decide +kernel)
set_option maxRecDepth 20000 in
theorem gX8_noticesIn_X8_bits : GoodIn wsX8_noticesIn (va_wsS RX8 74 yX8_bits wsX8_bits) := goodIn_app (goodIn_of _ (by decide +kernel)) ggX8_noticesIn_X8_bits
theorem dX8_noticesIn_0 : decode cX8_noticesIn 0 = .ok (.aload_n 0, 1) := by decide +kernel
theorem dX8_noticesIn_1 : decode cX8_noticesIn 1 = .ok (.bipush 14, 2) := by decide +kernel
theorem dX8_noticesIn_3 : decode cX8_noticesIn 3 = .ok (.iload_n 1, 1) := by decide +kernel
theorem dX8_noticesIn_4 : decode cX8_noticesIn 4 = .ok (.iadd, 1) := by decide +kernel
theorem dX8_noticesIn_5 : decode cX8_noticesIn 5 = .ok (.iaload, 1) := by decide +kernel
theorem dX8_noticesIn_6 : decode cX8_noticesIn 6 = .ok (.istore 4, 2) := by decide +kernel
theorem dX8_noticesIn_8 : decode cX8_noticesIn 8 = .ok (.iload_n 2, 1) := by decide +kernel
theorem dX8_noticesIn_9 : decode cX8_noticesIn 9 = .ok (.iload_n 3, 1) := by decide +kernel
theorem dX8_noticesIn_10 : decode cX8_noticesIn 10 = .ok (.invokestatic 67, 3) := by decide +kernel
theorem dX8_noticesIn_13 : decode cX8_noticesIn 13 = .ok (.istore 5, 2) := by decide +kernel
theorem dX8_noticesIn_15 : decode cX8_noticesIn 15 = .ok (.iload 5, 2) := by decide +kernel
theorem dX8_noticesIn_17 : decode cX8_noticesIn 17 = .ok (.ifCond .eq 27, 3) := by decide +kernel
theorem dX8_noticesIn_20 : decode cX8_noticesIn 20 = .ok (.aload_n 0, 1) := by decide +kernel
theorem dX8_noticesIn_21 : decode cX8_noticesIn 21 = .ok (.iconst 5, 1) := by decide +kernel
theorem dX8_noticesIn_22 : decode cX8_noticesIn 22 = .ok (.iload_n 3, 1) := by decide +kernel
theorem dX8_noticesIn_23 : decode cX8_noticesIn 23 = .ok (.iadd, 1) := by decide +kernel
theorem dX8_noticesIn_24 : decode cX8_noticesIn 24 = .ok (.iaload, 1) := by decide +kernel
theorem dX8_noticesIn_25 : decode cX8_noticesIn 25 = .ok (.aload_n 0, 1) := by decide +kernel
theorem dX8_noticesIn_26 : decode cX8_noticesIn 26 = .ok (.bipush 18, 2) := by decide +kernel
theorem dX8_noticesIn_28 : decode cX8_noticesIn 28 = .ok (.iload_n 1, 1) := by decide +kernel
theorem dX8_noticesIn_29 : decode cX8_noticesIn 29 = .ok (.iadd, 1) := by decide +kernel
theorem dX8_noticesIn_30 : decode cX8_noticesIn 30 = .ok (.iaload, 1) := by decide +kernel
theorem dX8_noticesIn_31 : decode cX8_noticesIn 31 = .ok (.imul, 1) := by decide +kernel
theorem dX8_noticesIn_32 : decode cX8_noticesIn 32 = .ok (.aload_n 0, 1) := by decide +kernel
theorem dX8_noticesIn_33 : decode cX8_noticesIn 33 = .ok (.iload_n 2, 1) := by decide +kernel
theorem dX8_noticesIn_34 : decode cX8_noticesIn 34 = .ok (.invokestatic 71, 3) := by decide +kernel
theorem dX8_noticesIn_37 : decode cX8_noticesIn 37 = .ok (.if_icmp .lt 7, 3) := by decide +kernel
theorem dX8_noticesIn_40 : decode cX8_noticesIn 40 = .ok (.iconst 1, 1) := by decide +kernel
theorem dX8_noticesIn_41 : decode cX8_noticesIn 41 = .ok (.goto 4, 3) := by decide +kernel
theorem dX8_noticesIn_44 : decode cX8_noticesIn 44 = .ok (.iconst 0, 1) := by decide +kernel
theorem dX8_noticesIn_45 : decode cX8_noticesIn 45 = .ok (.istore 6, 2) := by decide +kernel
theorem dX8_noticesIn_47 : decode cX8_noticesIn 47 = .ok (.iload 5, 2) := by decide +kernel
theorem dX8_noticesIn_49 : decode cX8_noticesIn 49 = .ok (.ifCond .ne 16, 3) := by decide +kernel
theorem dX8_noticesIn_52 : decode cX8_noticesIn 52 = .ok (.iload_n 2, 1) := by decide +kernel
theorem dX8_noticesIn_53 : decode cX8_noticesIn 53 = .ok (.invokestatic 74, 3) := by decide +kernel
theorem dX8_noticesIn_56 : decode cX8_noticesIn 56 = .ok (.aload_n 0, 1) := by decide +kernel
theorem dX8_noticesIn_57 : decode cX8_noticesIn 57 = .ok (.bipush 18, 2) := by decide +kernel
theorem dX8_noticesIn_59 : decode cX8_noticesIn 59 = .ok (.iload_n 1, 1) := by decide +kernel
theorem dX8_noticesIn_60 : decode cX8_noticesIn 60 = .ok (.iadd, 1) := by decide +kernel
theorem dX8_noticesIn_61 : decode cX8_noticesIn 61 = .ok (.iaload, 1) := by decide +kernel
theorem dX8_noticesIn_62 : decode cX8_noticesIn 62 = .ok (.if_icmp .le 7, 3) := by decide +kernel
theorem dX8_noticesIn_65 : decode cX8_noticesIn 65 = .ok (.iconst 1, 1) := by decide +kernel
theorem dX8_noticesIn_66 : decode cX8_noticesIn 66 = .ok (.goto 4, 3) := by decide +kernel
theorem dX8_noticesIn_69 : decode cX8_noticesIn 69 = .ok (.iconst 0, 1) := by decide +kernel
theorem dX8_noticesIn_70 : decode cX8_noticesIn 70 = .ok (.istore 7, 2) := by decide +kernel
theorem dX8_noticesIn_72 : decode cX8_noticesIn 72 = .ok (.iload 4, 2) := by decide +kernel
theorem dX8_noticesIn_74 : decode cX8_noticesIn 74 = .ok (.tableswitch 58 0 3 #[30, 33, 36, 39], 30) := by decide +kernel
theorem dX8_noticesIn_104 : decode cX8_noticesIn 104 = .ok (.iload 5, 2) := by decide +kernel
theorem dX8_noticesIn_106 : decode cX8_noticesIn 106 = .ok (.ireturn, 1) := by decide +kernel
theorem dX8_noticesIn_107 : decode cX8_noticesIn 107 = .ok (.iload 6, 2) := by decide +kernel
theorem dX8_noticesIn_109 : decode cX8_noticesIn 109 = .ok (.ireturn, 1) := by decide +kernel
theorem dX8_noticesIn_110 : decode cX8_noticesIn 110 = .ok (.iload 7, 2) := by decide +kernel
theorem dX8_noticesIn_112 : decode cX8_noticesIn 112 = .ok (.ireturn, 1) := by decide +kernel
theorem dX8_noticesIn_113 : decode cX8_noticesIn 113 = .ok (.iload 6, 2) := by decide +kernel
theorem dX8_noticesIn_115 : decode cX8_noticesIn 115 = .ok (.ifCond .eq 15, 3) := by decide +kernel
theorem dX8_noticesIn_118 : decode cX8_noticesIn 118 = .ok (.aload_n 0, 1) := by decide +kernel
theorem dX8_noticesIn_119 : decode cX8_noticesIn 119 = .ok (.iconst 0, 1) := by decide +kernel
theorem dX8_noticesIn_120 : decode cX8_noticesIn 120 = .ok (.iaload, 1) := by decide +kernel
theorem dX8_noticesIn_121 : decode cX8_noticesIn 121 = .ok (.iconst 3, 1) := by decide +kernel
theorem dX8_noticesIn_122 : decode cX8_noticesIn 122 = .ok (.irem, 1) := by decide +kernel
theorem dX8_noticesIn_123 : decode cX8_noticesIn 123 = .ok (.ifCond .eq 7, 3) := by decide +kernel
theorem dX8_noticesIn_126 : decode cX8_noticesIn 126 = .ok (.iconst 1, 1) := by decide +kernel
theorem dX8_noticesIn_127 : decode cX8_noticesIn 127 = .ok (.goto 4, 3) := by decide +kernel
theorem dX8_noticesIn_130 : decode cX8_noticesIn 130 = .ok (.iconst 0, 1) := by decide +kernel
theorem dX8_noticesIn_131 : decode cX8_noticesIn 131 = .ok (.ireturn, 1) := by decide +kernel
theorem dX8_noticesIn_132 : decode cX8_noticesIn 132 = .ok (.iload 7, 2) := by decide +kernel
theorem dX8_noticesIn_134 : decode cX8_noticesIn 134 = .ok (.aload_n 0, 1) := by decide +kernel
theorem dX8_noticesIn_135 : decode cX8_noticesIn 135 = .ok (.iconst 0, 1) := by decide +kernel
theorem dX8_noticesIn_136 : decode cX8_noticesIn 136 = .ok (.iaload, 1) := by decide +kernel
theorem dX8_noticesIn_137 : decode cX8_noticesIn 137 = .ok (.iconst 2, 1) := by decide +kernel
theorem dX8_noticesIn_138 : decode cX8_noticesIn 138 = .ok (.irem, 1) := by decide +kernel
theorem dX8_noticesIn_139 : decode cX8_noticesIn 139 = .ok (.ifCond .ne 7, 3) := by decide +kernel
theorem dX8_noticesIn_142 : decode cX8_noticesIn 142 = .ok (.iconst 1, 1) := by decide +kernel
theorem dX8_noticesIn_143 : decode cX8_noticesIn 143 = .ok (.goto 4, 3) := by decide +kernel
theorem dX8_noticesIn_146 : decode cX8_noticesIn 146 = .ok (.iconst 0, 1) := by decide +kernel
theorem dX8_noticesIn_147 : decode cX8_noticesIn 147 = .ok (.if_icmp .ne 7, 3) := by decide +kernel
theorem dX8_noticesIn_150 : decode cX8_noticesIn 150 = .ok (.iconst 1, 1) := by decide +kernel
theorem dX8_noticesIn_151 : decode cX8_noticesIn 151 = .ok (.goto 4, 3) := by decide +kernel
theorem dX8_noticesIn_154 : decode cX8_noticesIn 154 = .ok (.iconst 0, 1) := by decide +kernel
theorem dX8_noticesIn_155 : decode cX8_noticesIn 155 = .ok (.ireturn, 1) := by decide +kernel
set_option maxRecDepth 20000 in
theorem ggX8_notices_X8_isTaster : GoodIn wsX8_notices wsX8_isTaster := goodIn_r _ [6, 1, 7, 8, 5, 9, 33, 34, 35, 36, 37, 38, 39, 40, 41, 42, 43, 44, 45, 46, 47, 48, 49, 50] (by decide +kernel) (by decide +kernel)
set_option maxRecDepth 20000 in
theorem gX8_notices_X8_isTaster : GoodIn wsX8_notices (wsV RX8 64 RX8 yX8_isTaster wsX8_isTaster) := goodIn_app (goodIn_of _ (by decide +kernel)) ggX8_notices_X8_isTaster
set_option maxRecDepth 20000 in
theorem ggX8_notices_X8_isMix : GoodIn wsX8_notices wsX8_isMix := goodIn_r _ [13, 1, 14, 15, 5, 16, 7, 8, 9, 33, 34, 35, 36, 37, 38, 39, 40, 41, 42, 43, 44, 45, 46, 47, 48, 49, 50] (by decide +kernel) (by decide +kernel)
set_option maxRecDepth 20000 in
theorem gX8_notices_X8_isMix : GoodIn wsX8_notices (wsV RX8 78 RX8 yX8_isMix wsX8_isMix) := goodIn_app (goodIn_of _ (by decide +kernel)) ggX8_notices_X8_isMix
set_option maxRecDepth 20000 in
theorem ggX8_notices_X8_isCow : GoodIn wsX8_notices wsX8_isCow := goodIn_r _ [20, 1, 7, 8, 5, 9, 33, 34, 35, 36, 37, 38, 39, 40, 41, 42, 43, 44, 45, 46, 47, 48, 49, 50] (by decide +kernel) (by decide +kernel)
set_option maxRecDepth 20000 in
theorem gX8_notices_X8_isCow : GoodIn wsX8_notices (wsV RX8 60 RX8 yX8_isCow wsX8_isCow) := goodIn_app (goodIn_of _ (by decide +kernel)) ggX8_notices_X8_isCow
set_option maxRecDepth 20000 in
theorem ggX8_notices_X8_noticesIn : GoodIn wsX8_notices wsX8_noticesIn := goodIn_r _ [23, 24, 25, 5, 26, 27, 28, 29, 30, 31, 32] (by decide +kernel) (by decide +kernel)
set_option maxRecDepth 20000 in
theorem gX8_notices_X8_noticesIn : GoodIn wsX8_notices (va_wsS RX8 81 yX8_noticesIn wsX8_noticesIn) := goodIn_app (goodIn_of _ (by decide +kernel)) ggX8_notices_X8_noticesIn
theorem dX8_notices_0 : decode cX8_notices 0 = .ok (.aload_n 0, 1) := by decide +kernel
theorem dX8_notices_1 : decode cX8_notices 1 = .ok (.iload_n 1, 1) := by decide +kernel
theorem dX8_notices_2 : decode cX8_notices 2 = .ok (.invokevirtual 64, 3) := by decide +kernel
theorem dX8_notices_5 : decode cX8_notices 5 = .ok (.ifCond .eq 19, 3) := by decide +kernel
theorem dX8_notices_8 : decode cX8_notices 8 = .ok (.aload_n 0, 1) := by decide +kernel
theorem dX8_notices_9 : decode cX8_notices 9 = .ok (.iload_n 2, 1) := by decide +kernel
theorem dX8_notices_10 : decode cX8_notices 10 = .ok (.invokevirtual 78, 3) := by decide +kernel
theorem dX8_notices_13 : decode cX8_notices 13 = .ok (.ifCond .eq 11, 3) := by decide +kernel
theorem dX8_notices_16 : decode cX8_notices 16 = .ok (.aload_n 0, 1) := by decide +kernel
theorem dX8_notices_17 : decode cX8_notices 17 = .ok (.iload_n 3, 1) := by decide +kernel
theorem dX8_notices_18 : decode cX8_notices 18 = .ok (.invokevirtual 60, 3) := by decide +kernel
theorem dX8_notices_21 : decode cX8_notices 21 = .ok (.ifCond .ne 5, 3) := by decide +kernel
theorem dX8_notices_24 : decode cX8_notices 24 = .ok (.iconst (-1), 1) := by decide +kernel
theorem dX8_notices_25 : decode cX8_notices 25 = .ok (.ireturn, 1) := by decide +kernel
theorem dX8_notices_26 : decode cX8_notices 26 = .ok (.aload_n 0, 1) := by decide +kernel
theorem dX8_notices_27 : decode cX8_notices 27 = .ok (.getfield 23, 3) := by decide +kernel
theorem dX8_notices_30 : decode cX8_notices 30 = .ok (.iload_n 1, 1) := by decide +kernel
theorem dX8_notices_31 : decode cX8_notices 31 = .ok (.iload_n 2, 1) := by decide +kernel
theorem dX8_notices_32 : decode cX8_notices 32 = .ok (.iload_n 3, 1) := by decide +kernel
theorem dX8_notices_33 : decode cX8_notices 33 = .ok (.invokestatic 81, 3) := by decide +kernel
theorem dX8_notices_36 : decode cX8_notices 36 = .ok (.ifCond .eq 7, 3) := by decide +kernel
theorem dX8_notices_39 : decode cX8_notices 39 = .ok (.iconst 1, 1) := by decide +kernel
theorem dX8_notices_40 : decode cX8_notices 40 = .ok (.goto 4, 3) := by decide +kernel
theorem dX8_notices_43 : decode cX8_notices 43 = .ok (.iconst 0, 1) := by decide +kernel
theorem dX8_notices_44 : decode cX8_notices 44 = .ok (.ireturn, 1) := by decide +kernel
set_option maxRecDepth 20000 in
theorem ggX8_type_X8_in : GoodIn wsX8_type wsX8_in := goodIn_r _ [6] (by decide +kernel) (by decide +kernel)
set_option maxRecDepth 20000 in
theorem gX8_type_X8_in : GoodIn wsX8_type (va_wsS RX8 44 yX8_in wsX8_in) := goodIn_app (goodIn_of _ (by decide +kernel)) ggX8_type_X8_in
theorem dX8_type_0 : decode cX8_type 0 = .ok (.iload_n 1, 1) := by decide +kernel
theorem dX8_type_1 : decode cX8_type 1 = .ok (.bipush 32, 2) := by decide +kernel
theorem dX8_type_3 : decode cX8_type 3 = .ok (.bipush 126, 2) := by decide +kernel
theorem dX8_type_5 : decode cX8_type 5 = .ok (.invokestatic 44, 3) := by decide +kernel
theorem dX8_type_8 : decode cX8_type 8 = .ok (.ifCond .ne 5, 3) := by decide +kernel
theorem dX8_type_11 : decode cX8_type 11 = .ok (.iconst (-1), 1) := by decide +kernel
theorem dX8_type_12 : decode cX8_type 12 = .ok (.ireturn, 1) := by decide +kernel
theorem dX8_type_13 : decode cX8_type 13 = .ok (.aload_n 0, 1) := by decide +kernel
theorem dX8_type_14 : decode cX8_type 14 = .ok (.getfield 85, 3) := by decide +kernel
theorem dX8_type_17 : decode cX8_type 17 = .ok (.bipush 40, 2) := by decide +kernel
theorem dX8_type_19 : decode cX8_type 19 = .ok (.if_icmp .ne 6, 3) := by decide +kernel
theorem dX8_type_22 : decode cX8_type 22 = .ok (.bipush (-3), 2) := by decide +kernel
theorem dX8_type_24 : decode cX8_type 24 = .ok (.ireturn, 1) := by decide +kernel
theorem dX8_type_25 : decode cX8_type 25 = .ok (.aload_n 0, 1) := by decide +kernel
theorem dX8_type_26 : decode cX8_type 26 = .ok (.getfield 20, 3) := by decide +kernel
theorem dX8_type_29 : decode cX8_type 29 = .ok (.aload_n 0, 1) := by decide +kernel
theorem dX8_type_30 : decode cX8_type 30 = .ok (.getfield 85, 3) := by decide +kernel
theorem dX8_type_33 : decode cX8_type 33 = .ok (.iload_n 1, 1) := by decide +kernel
theorem dX8_type_34 : decode cX8_type 34 = .ok (.iastore, 1) := by decide +kernel
theorem dX8_type_35 : decode cX8_type 35 = .ok (.aload_n 0, 1) := by decide +kernel
theorem dX8_type_36 : decode cX8_type 36 = .ok (.dup, 1) := by decide +kernel
theorem dX8_type_37 : decode cX8_type 37 = .ok (.getfield 85, 3) := by decide +kernel
theorem dX8_type_40 : decode cX8_type 40 = .ok (.iconst 1, 1) := by decide +kernel
theorem dX8_type_41 : decode cX8_type 41 = .ok (.iadd, 1) := by decide +kernel
theorem dX8_type_42 : decode cX8_type 42 = .ok (.putfield 85, 3) := by decide +kernel
theorem dX8_type_45 : decode cX8_type 45 = .ok (.aload_n 0, 1) := by decide +kernel
theorem dX8_type_46 : decode cX8_type 46 = .ok (.getfield 85, 3) := by decide +kernel
theorem dX8_type_49 : decode cX8_type 49 = .ok (.ireturn, 1) := by decide +kernel
theorem dX8_peek_0 : decode cX8_peek 0 = .ok (.aload_n 0, 1) := by decide +kernel
theorem dX8_peek_1 : decode cX8_peek 1 = .ok (.getfield 89, 3) := by decide +kernel
theorem dX8_peek_4 : decode cX8_peek 4 = .ok (.aload_n 0, 1) := by decide +kernel
theorem dX8_peek_5 : decode cX8_peek 5 = .ok (.getfield 85, 3) := by decide +kernel
theorem dX8_peek_8 : decode cX8_peek 8 = .ok (.if_icmp .ge 30, 3) := by decide +kernel
theorem dX8_peek_11 : decode cX8_peek 11 = .ok (.aload_n 0, 1) := by decide +kernel
theorem dX8_peek_12 : decode cX8_peek 12 = .ok (.getfield 20, 3) := by decide +kernel
theorem dX8_peek_15 : decode cX8_peek 15 = .ok (.aload_n 0, 1) := by decide +kernel
theorem dX8_peek_16 : decode cX8_peek 16 = .ok (.getfield 89, 3) := by decide +kernel
theorem dX8_peek_19 : decode cX8_peek 19 = .ok (.iaload, 1) := by decide +kernel
theorem dX8_peek_20 : decode cX8_peek 20 = .ok (.bipush 32, 2) := by decide +kernel
theorem dX8_peek_22 : decode cX8_peek 22 = .ok (.if_icmp .ne 16, 3) := by decide +kernel
theorem dX8_peek_25 : decode cX8_peek 25 = .ok (.aload_n 0, 1) := by decide +kernel
theorem dX8_peek_26 : decode cX8_peek 26 = .ok (.dup, 1) := by decide +kernel
theorem dX8_peek_27 : decode cX8_peek 27 = .ok (.getfield 89, 3) := by decide +kernel
theorem dX8_peek_30 : decode cX8_peek 30 = .ok (.iconst 1, 1) := by decide +kernel
theorem dX8_peek_31 : decode cX8_peek 31 = .ok (.iadd, 1) := by decide +kernel
theorem dX8_peek_32 : decode cX8_peek 32 = .ok (.putfield 89, 3) := by decide +kernel
theorem dX8_peek_35 : decode cX8_peek 35 = .ok (.goto (-35), 3) := by decide +kernel
theorem dX8_peek_38 : decode cX8_peek 38 = .ok (.aload_n 0, 1) := by decide +kernel
theorem dX8_peek_39 : decode cX8_peek 39 = .ok (.getfield 89, 3) := by decide +kernel
theorem dX8_peek_42 : decode cX8_peek 42 = .ok (.aload_n 0, 1) := by decide +kernel
theorem dX8_peek_43 : decode cX8_peek 43 = .ok (.getfield 85, 3) := by decide +kernel
theorem dX8_peek_46 : decode cX8_peek 46 = .ok (.if_icmp .ge 15, 3) := by decide +kernel
theorem dX8_peek_49 : decode cX8_peek 49 = .ok (.aload_n 0, 1) := by decide +kernel
theorem dX8_peek_50 : decode cX8_peek 50 = .ok (.getfield 20, 3) := by decide +kernel
theorem dX8_peek_53 : decode cX8_peek 53 = .ok (.aload_n 0, 1) := by decide +kernel
theorem dX8_peek_54 : decode cX8_peek 54 = .ok (.getfield 89, 3) := by decide +kernel
theorem dX8_peek_57 : decode cX8_peek 57 = .ok (.iaload, 1) := by decide +kernel
theorem dX8_peek_58 : decode cX8_peek 58 = .ok (.goto 4, 3) := by decide +kernel
theorem dX8_peek_61 : decode cX8_peek 61 = .ok (.iconst 0, 1) := by decide +kernel
theorem dX8_peek_62 : decode cX8_peek 62 = .ok (.ireturn, 1) := by decide +kernel
set_option maxRecDepth 20000 in
theorem ggX8_isSign_X8_peek : GoodIn wsX8_isSign wsX8_peek := goodIn_r _ [6, 1, 7, 8, 9, 10, 11, 12, 13, 14, 15, 16, 17, 18, 19, 20, 21, 22, 23, 24, 25, 26] (by decide +kernel) (by decide +kernel)
set_option maxRecDepth 20000 in
theorem gX8_isSign_X8_peek : GoodIn wsX8_isSign (wsV RX8 92 RX8 yX8_peek wsX8_peek) := goodIn_app (goodIn_of _ (by decide +kernel)) ggX8_isSign_X8_peek
theorem dX8_isSign_0 : decode cX8_isSign 0 = .ok (.aload_n 0, 1) := by decide +kernel
theorem dX8_isSign_1 : decode cX8_isSign 1 = .ok (.invokevirtual 92, 3) := by decide +kernel
theorem dX8_isSign_4 : decode cX8_isSign 4 = .ok (.iload_n 1, 1) := by decide +kernel
theorem dX8_isSign_5 : decode cX8_isSign 5 = .ok (.if_icmp .eq 5, 3) := by decide +kernel
theorem dX8_isSign_8 : decode cX8_isSign 8 = .ok (.iconst 0, 1) := by decide +kernel
theorem dX8_isSign_9 : decode cX8_isSign 9 = .ok (.ireturn, 1) := by decide +kernel
theorem dX8_isSign_10 : decode cX8_isSign 10 = .ok (.aload_n 0, 1) := by decide +kernel
theorem dX8_isSign_11 : decode cX8_isSign 11 = .ok (.dup, 1) := by decide +kernel
theorem dX8_isSign_12 : decode cX8_isSign 12 = .ok (.getfield 89, 3) := by decide +kernel
theorem dX8_isSign_15 : decode cX8_isSign 15 = .ok (.iconst 1, 1) := by decide +kernel
theorem dX8_isSign_16 : decode cX8_isSign 16 = .ok (.iadd, 1) := by decide +kernel
theorem dX8_isSign_17 : decode cX8_isSign 17 = .ok (.putfield 89, 3) := by decide +kernel
theorem dX8_isSign_20 : decode cX8_isSign 20 = .ok (.iconst 1, 1) := by decide +kernel
theorem dX8_isSign_21 : decode cX8_isSign 21 = .ok (.ireturn, 1) := by decide +kernel
set_option maxRecDepth 20000 in
theorem ggX8_isDigit_X8_peek : GoodIn wsX8_isDigit wsX8_peek := goodIn_r _ [7, 2, 8, 9, 13, 14, 15, 16, 17, 18, 19, 20, 21, 22, 23, 24, 25, 26, 27, 28, 29, 30] (by decide +kernel) (by decide +kernel)
set_option maxRecDepth 20000 in
theorem gX8_isDigit_X8_peek : GoodIn wsX8_isDigit (wsV RX8 92 RX8 yX8_peek wsX8_peek) := goodIn_app (goodIn_of _ (by decide +kernel)) ggX8_isDigit_X8_peek
set_option maxRecDepth 20000 in
theorem ggX8_isDigit_X8_in : GoodIn wsX8_isDigit wsX8_in := goodIn_r _ [12] (by decide +kernel) (by decide +kernel)
set_option maxRecDepth 20000 in
theorem gX8_isDigit_X8_in : GoodIn wsX8_isDigit (va_wsS RX8 44 yX8_in wsX8_in) := goodIn_app (goodIn_of _ (by decide +kernel)) ggX8_isDigit_X8_in
theorem dX8_isDigit_0 : decode cX8_isDigit 0 = .ok (.aload_n 0, 1) := by decide +kernel
theorem dX8_isDigit_1 : decode cX8_isDigit 1 = .ok (.aload_n 0, 1) := by decide +kernel
theorem dX8_isDigit_2 : decode cX8_isDigit 2 = .ok (.invokevirtual 92, 3) := by decide +kernel
theorem dX8_isDigit_5 : decode cX8_isDigit 5 = .ok (.bipush 48, 2) := by decide +kernel
theorem dX8_isDigit_7 : decode cX8_isDigit 7 = .ok (.isub, 1) := by decide +kernel
theorem dX8_isDigit_8 : decode cX8_isDigit 8 = .ok (.putfield 96, 3) := by decide +kernel
theorem dX8_isDigit_11 : decode cX8_isDigit 11 = .ok (.aload_n 0, 1) := by decide +kernel
theorem dX8_isDigit_12 : decode cX8_isDigit 12 = .ok (.getfield 96, 3) := by decide +kernel
theorem dX8_isDigit_15 : decode cX8_isDigit 15 = .ok (.iload_n 1, 1) := by decide +kernel
theorem dX8_isDigit_16 : decode cX8_isDigit 16 = .ok (.iload_n 2, 1) := by decide +kernel
theorem dX8_isDigit_17 : decode cX8_isDigit 17 = .ok (.invokestatic 44, 3) := by decide +kernel
theorem dX8_isDigit_20 : decode cX8_isDigit 20 = .ok (.ifCond .ne 5, 3) := by decide +kernel
theorem dX8_isDigit_23 : decode cX8_isDigit 23 = .ok (.iconst 0, 1) := by decide +kernel
theorem dX8_isDigit_24 : decode cX8_isDigit 24 = .ok (.ireturn, 1) := by decide +kernel
theorem dX8_isDigit_25 : decode cX8_isDigit 25 = .ok (.aload_n 0, 1) := by decide +kernel
theorem dX8_isDigit_26 : decode cX8_isDigit 26 = .ok (.dup, 1) := by decide +kernel
theorem dX8_isDigit_27 : decode cX8_isDigit 27 = .ok (.getfield 89, 3) := by decide +kernel
theorem dX8_isDigit_30 : decode cX8_isDigit 30 = .ok (.iconst 1, 1) := by decide +kernel
theorem dX8_isDigit_31 : decode cX8_isDigit 31 = .ok (.iadd, 1) := by decide +kernel
theorem dX8_isDigit_32 : decode cX8_isDigit 32 = .ok (.putfield 89, 3) := by decide +kernel
theorem dX8_isDigit_35 : decode cX8_isDigit 35 = .ok (.iconst 1, 1) := by decide +kernel
theorem dX8_isDigit_36 : decode cX8_isDigit 36 = .ok (.ireturn, 1) := by decide +kernel
theorem dX8_kindBy_0 : decode cX8_kindBy 0 = .ok (.iload_n 0, 1) := by decide +kernel
theorem dX8_kindBy_1 : decode cX8_kindBy 1 = .ok (.bipush 112, 2) := by decide +kernel
theorem dX8_kindBy_3 : decode cX8_kindBy 3 = .ok (.if_icmp .ne 7, 3) := by decide +kernel
theorem dX8_kindBy_6 : decode cX8_kindBy 6 = .ok (.iconst 0, 1) := by decide +kernel
theorem dX8_kindBy_7 : decode cX8_kindBy 7 = .ok (.goto 44, 3) := by decide +kernel
theorem dX8_kindBy_10 : decode cX8_kindBy 10 = .ok (.iload_n 0, 1) := by decide +kernel
theorem dX8_kindBy_11 : decode cX8_kindBy 11 = .ok (.bipush 100, 2) := by decide +kernel
theorem dX8_kindBy_13 : decode cX8_kindBy 13 = .ok (.if_icmp .ne 7, 3) := by decide +kernel
theorem dX8_kindBy_16 : decode cX8_kindBy 16 = .ok (.iconst 1, 1) := by decide +kernel
theorem dX8_kindBy_17 : decode cX8_kindBy 17 = .ok (.goto 34, 3) := by decide +kernel
theorem dX8_kindBy_20 : decode cX8_kindBy 20 = .ok (.iload_n 0, 1) := by decide +kernel
theorem dX8_kindBy_21 : decode cX8_kindBy 21 = .ok (.bipush 102, 2) := by decide +kernel
theorem dX8_kindBy_23 : decode cX8_kindBy 23 = .ok (.if_icmp .ne 7, 3) := by decide +kernel
theorem dX8_kindBy_26 : decode cX8_kindBy 26 = .ok (.iconst 2, 1) := by decide +kernel
theorem dX8_kindBy_27 : decode cX8_kindBy 27 = .ok (.goto 24, 3) := by decide +kernel
theorem dX8_kindBy_30 : decode cX8_kindBy 30 = .ok (.iload_n 0, 1) := by decide +kernel
theorem dX8_kindBy_31 : decode cX8_kindBy 31 = .ok (.bipush 115, 2) := by decide +kernel
theorem dX8_kindBy_33 : decode cX8_kindBy 33 = .ok (.if_icmp .ne 7, 3) := by decide +kernel
theorem dX8_kindBy_36 : decode cX8_kindBy 36 = .ok (.iconst 3, 1) := by decide +kernel
theorem dX8_kindBy_37 : decode cX8_kindBy 37 = .ok (.goto 14, 3) := by decide +kernel
theorem dX8_kindBy_40 : decode cX8_kindBy 40 = .ok (.iload_n 0, 1) := by decide +kernel
theorem dX8_kindBy_41 : decode cX8_kindBy 41 = .ok (.bipush 111, 2) := by decide +kernel
theorem dX8_kindBy_43 : decode cX8_kindBy 43 = .ok (.if_icmp .ne 7, 3) := by decide +kernel
theorem dX8_kindBy_46 : decode cX8_kindBy 46 = .ok (.iconst 4, 1) := by decide +kernel
theorem dX8_kindBy_47 : decode cX8_kindBy 47 = .ok (.goto 4, 3) := by decide +kernel
theorem dX8_kindBy_50 : decode cX8_kindBy 50 = .ok (.iconst (-1), 1) := by decide +kernel
theorem dX8_kindBy_51 : decode cX8_kindBy 51 = .ok (.ireturn, 1) := by decide +kernel
set_option maxRecDepth 20000 in
theorem ggX8_isCows_X8_isDigit : GoodIn wsX8_isCows wsX8_isDigit := goodIn_r _ [7, 2, 8, 9, 10, 11, 6, 12, 13, 14, 15, 16, 17, 28, 29, 30, 31, 32, 33, 34, 35, 36, 37, 38, 39, 40, 41, 42, 43, 44, 45] (by decide +kernel) (by decide +kernel)
set_option maxRecDepth 20000 in
theorem gX8_isCows_X8_isDigit : GoodIn wsX8_isCows (wsV RX8 99 RX8 yX8_isDigit wsX8_isDigit) := goodIn_app (goodIn_of _ (by decide +kernel)) ggX8_isCows_X8_isDigit
set_option maxRecDepth 20000 in
theorem ggX8_isCows_X8_addCow : GoodIn wsX8_isCows wsX8_addCow := goodIn_r _ [20, 21, 22, 6, 23] (by decide +kernel) (by decide +kernel)
set_option maxRecDepth 20000 in
theorem gX8_isCows_X8_addCow : GoodIn wsX8_isCows (va_wsS RX8 52 yX8_addCow wsX8_addCow) := goodIn_app (goodIn_of _ (by decide +kernel)) ggX8_isCows_X8_addCow
set_option maxRecDepth 20000 in
theorem ggX8_isCows_X8_isSign : GoodIn wsX8_isCows wsX8_isSign := goodIn_r _ [27, 8, 9, 10, 11, 6, 12, 13, 14, 28, 29, 30, 31, 32, 33, 34, 35, 36, 37, 38, 39, 40, 41, 42, 43, 44, 45] (by decide +kernel) (by decide +kernel)
set_option maxRecDepth 20000 in
theorem gX8_isCows_X8_isSign : GoodIn wsX8_isCows (wsV RX8 102 RX8 yX8_isSign wsX8_isSign) := goodIn_app (goodIn_of _ (by decide +kernel)) ggX8_isCows_X8_isSign
theorem dX8_isCows_0 : decode cX8_isCows 0 = .ok (.aload_n 0, 1) := by decide +kernel
theorem dX8_isCows_1 : decode cX8_isCows 1 = .ok (.iconst 1, 1) := by decide +kernel
theorem dX8_isCows_2 : decode cX8_isCows 2 = .ok (.bipush 9, 2) := by decide +kernel
theorem dX8_isCows_4 : decode cX8_isCows 4 = .ok (.invokevirtual 99, 3) := by decide +kernel
theorem dX8_isCows_7 : decode cX8_isCows 7 = .ok (.ifCond .ne 5, 3) := by decide +kernel
theorem dX8_isCows_10 : decode cX8_isCows 10 = .ok (.iconst 0, 1) := by decide +kernel
theorem dX8_isCows_11 : decode cX8_isCows 11 = .ok (.ireturn, 1) := by decide +kernel
theorem dX8_isCows_12 : decode cX8_isCows 12 = .ok (.iconst 1, 1) := by decide +kernel
theorem dX8_isCows_13 : decode cX8_isCows 13 = .ok (.istore_n 1, 1) := by decide +kernel
theorem dX8_isCows_14 : decode cX8_isCows 14 = .ok (.iload_n 1, 1) := by decide +kernel
theorem dX8_isCows_15 : decode cX8_isCows 15 = .ok (.ifCond .eq 79, 3) := by decide +kernel
theorem dX8_isCows_18 : decode cX8_isCows 18 = .ok (.aload_n 0, 1) := by decide +kernel
theorem dX8_isCows_19 : decode cX8_isCows 19 = .ok (.getfield 29, 3) := by decide +kernel
theorem dX8_isCows_22 : decode cX8_isCows 22 = .ok (.aload_n 0, 1) := by decide +kernel
theorem dX8_isCows_23 : decode cX8_isCows 23 = .ok (.getfield 96, 3) := by decide +kernel
theorem dX8_isCows_26 : decode cX8_isCows 26 = .ok (.invokestatic 52, 3) := by decide +kernel
theorem dX8_isCows_29 : decode cX8_isCows 29 = .ok (.pop, 1) := by decide +kernel
theorem dX8_isCows_30 : decode cX8_isCows 30 = .ok (.aload_n 0, 1) := by decide +kernel
theorem dX8_isCows_31 : decode cX8_isCows 31 = .ok (.getfield 29, 3) := by decide +kernel
theorem dX8_isCows_34 : decode cX8_isCows 34 = .ok (.iconst 3, 1) := by decide +kernel
theorem dX8_isCows_35 : decode cX8_isCows 35 = .ok (.iaload, 1) := by decide +kernel
theorem dX8_isCows_36 : decode cX8_isCows 36 = .ok (.bipush (-4), 2) := by decide +kernel
theorem dX8_isCows_38 : decode cX8_isCows 38 = .ok (.if_icmp .ne 26, 3) := by decide +kernel
theorem dX8_isCows_41 : decode cX8_isCows 41 = .ok (.aload_n 0, 1) := by decide +kernel
theorem dX8_isCows_42 : decode cX8_isCows 42 = .ok (.bipush 33, 2) := by decide +kernel
theorem dX8_isCows_44 : decode cX8_isCows 44 = .ok (.invokevirtual 102, 3) := by decide +kernel
theorem dX8_isCows_47 : decode cX8_isCows 47 = .ok (.ifCond .eq 17, 3) := by decide +kernel
theorem dX8_isCows_50 : decode cX8_isCows 50 = .ok (.aload_n 0, 1) := by decide +kernel
theorem dX8_isCows_51 : decode cX8_isCows 51 = .ok (.getfield 29, 3) := by decide +kernel
theorem dX8_isCows_54 : decode cX8_isCows 54 = .ok (.iconst 3, 1) := by decide +kernel
theorem dX8_isCows_55 : decode cX8_isCows 55 = .ok (.aload_n 0, 1) := by decide +kernel
theorem dX8_isCows_56 : decode cX8_isCows 56 = .ok (.getfield 29, 3) := by decide +kernel
theorem dX8_isCows_59 : decode cX8_isCows 59 = .ok (.iconst 4, 1) := by decide +kernel
theorem dX8_isCows_60 : decode cX8_isCows 60 = .ok (.iaload, 1) := by decide +kernel
theorem dX8_isCows_61 : decode cX8_isCows 61 = .ok (.iconst 1, 1) := by decide +kernel
theorem dX8_isCows_62 : decode cX8_isCows 62 = .ok (.isub, 1) := by decide +kernel
theorem dX8_isCows_63 : decode cX8_isCows 63 = .ok (.iastore, 1) := by decide +kernel
theorem dX8_isCows_64 : decode cX8_isCows 64 = .ok (.aload_n 0, 1) := by decide +kernel
theorem dX8_isCows_65 : decode cX8_isCows 65 = .ok (.getfield 29, 3) := by decide +kernel
theorem dX8_isCows_68 : decode cX8_isCows 68 = .ok (.iconst 4, 1) := by decide +kernel
theorem dX8_isCows_69 : decode cX8_isCows 69 = .ok (.iaload, 1) := by decide +kernel
theorem dX8_isCows_70 : decode cX8_isCows 70 = .ok (.bipush 8, 2) := by decide +kernel
theorem dX8_isCows_72 : decode cX8_isCows 72 = .ok (.if_icmp .ge 17, 3) := by decide +kernel
theorem dX8_isCows_75 : decode cX8_isCows 75 = .ok (.aload_n 0, 1) := by decide +kernel
theorem dX8_isCows_76 : decode cX8_isCows 76 = .ok (.iconst 1, 1) := by decide +kernel
theorem dX8_isCows_77 : decode cX8_isCows 77 = .ok (.bipush 9, 2) := by decide +kernel
theorem dX8_isCows_79 : decode cX8_isCows 79 = .ok (.invokevirtual 99, 3) := by decide +kernel
theorem dX8_isCows_82 : decode cX8_isCows 82 = .ok (.ifCond .eq 7, 3) := by decide +kernel
theorem dX8_isCows_85 : decode cX8_isCows 85 = .ok (.iconst 1, 1) := by decide +kernel
theorem dX8_isCows_86 : decode cX8_isCows 86 = .ok (.goto 4, 3) := by decide +kernel
theorem dX8_isCows_89 : decode cX8_isCows 89 = .ok (.iconst 0, 1) := by decide +kernel
theorem dX8_isCows_90 : decode cX8_isCows 90 = .ok (.istore_n 1, 1) := by decide +kernel
theorem dX8_isCows_91 : decode cX8_isCows 91 = .ok (.goto (-77), 3) := by decide +kernel
theorem dX8_isCows_94 : decode cX8_isCows 94 = .ok (.iconst 1, 1) := by decide +kernel
theorem dX8_isCows_95 : decode cX8_isCows 95 = .ok (.ireturn, 1) := by decide +kernel
set_option maxRecDepth 20000 in
theorem ggX8_isTasterItem_X8_peek : GoodIn wsX8_isTasterItem wsX8_peek := goodIn_r _ [8, 1, 9, 10, 24, 25, 26, 27, 28, 29, 30, 31, 32, 33, 34, 35, 36, 37, 38, 39, 40, 41] (by decide +kernel) (by decide +kernel)
set_option maxRecDepth 20000 in
theorem gX8_isTasterItem_X8_peek : GoodIn wsX8_isTasterItem (wsV RX8 92 RX8 yX8_peek wsX8_peek) := goodIn_app (goodIn_of _ (by decide +kernel)) ggX8_isTasterItem_X8_peek
set_option maxRecDepth 20000 in
theorem ggX8_isTasterItem_X8_kindBy : GoodIn wsX8_isTasterItem wsX8_kindBy := goodIn_r _ [13] (by decide +kernel) (by decide +kernel)
set_option maxRecDepth 20000 in
theorem gX8_isTasterItem_X8_kindBy : GoodIn wsX8_isTasterItem (va_wsS RX8 105 yX8_kindBy wsX8_kindBy) := goodIn_app (goodIn_of _ (by decide +kernel)) ggX8_isTasterItem_X8_kindBy
set_option maxRecDepth 20000 in
theorem ggX8_isTasterItem_X8_isDigit : GoodIn wsX8_isTasterItem wsX8_isDigit := goodIn_r _ [17, 3, 1, 4, 5, 6, 7, 8, 9, 10, 18, 19, 20, 24, 25, 26, 27, 28, 29, 30, 31, 32, 33, 34, 35, 36, 37, 38, 39, 40, 41] (by decide +kernel) (by decide +kernel)
set_option maxRecDepth 20000 in
theorem gX8_isTasterItem_X8_isDigit : GoodIn wsX8_isTasterItem (wsV RX8 99 RX8 yX8_isDigit wsX8_isDigit) := goodIn_app (goodIn_of _ (by decide +kernel)) ggX8_isTasterItem_X8_isDigit
set_option maxRecDepth 20000 in
theorem ggX8_isTasterItem_X8_addTaster : GoodIn wsX8_isTasterItem wsX8_addTaster := goodIn_r _ [23] (by decide +kernel) (by decide +kernel)
set_option maxRecDepth 20000 in
theorem gX8_isTasterItem_X8_addTaster : GoodIn wsX8_isTasterItem (va_wsS RX8 56 yX8_addTaster wsX8_addTaster) := goodIn_app (goodIn_of _ (by decide +kernel)) ggX8_isTasterItem_X8_addTaster
theorem dX8_isTasterItem_0 : decode cX8_isTasterItem 0 = .ok (.aload_n 0, 1) := by decide +kernel
theorem dX8_isTasterItem_1 : decode cX8_isTasterItem 1 = .ok (.invokevirtual 92, 3) := by decide +kernel
theorem dX8_isTasterItem_4 : decode cX8_isTasterItem 4 = .ok (.invokestatic 105, 3) := by decide +kernel
theorem dX8_isTasterItem_7 : decode cX8_isTasterItem 7 = .ok (.istore_n 1, 1) := by decide +kernel
theorem dX8_isTasterItem_8 : decode cX8_isTasterItem 8 = .ok (.iload_n 1, 1) := by decide +kernel
theorem dX8_isTasterItem_9 : decode cX8_isTasterItem 9 = .ok (.ifCond .ge 5, 3) := by decide +kernel
theorem dX8_isTasterItem_12 : decode cX8_isTasterItem 12 = .ok (.iconst 0, 1) := by decide +kernel
theorem dX8_isTasterItem_13 : decode cX8_isTasterItem 13 = .ok (.ireturn, 1) := by decide +kernel
theorem dX8_isTasterItem_14 : decode cX8_isTasterItem 14 = .ok (.aload_n 0, 1) := by decide +kernel
theorem dX8_isTasterItem_15 : decode cX8_isTasterItem 15 = .ok (.dup, 1) := by decide +kernel
theorem dX8_isTasterItem_16 : decode cX8_isTasterItem 16 = .ok (.getfield 89, 3) := by decide +kernel
theorem dX8_isTasterItem_19 : decode cX8_isTasterItem 19 = .ok (.iconst 1, 1) := by decide +kernel
theorem dX8_isTasterItem_20 : decode cX8_isTasterItem 20 = .ok (.iadd, 1) := by decide +kernel
theorem dX8_isTasterItem_21 : decode cX8_isTasterItem 21 = .ok (.putfield 89, 3) := by decide +kernel
theorem dX8_isTasterItem_24 : decode cX8_isTasterItem 24 = .ok (.aload_n 0, 1) := by decide +kernel
theorem dX8_isTasterItem_25 : decode cX8_isTasterItem 25 = .ok (.iconst 1, 1) := by decide +kernel
theorem dX8_isTasterItem_26 : decode cX8_isTasterItem 26 = .ok (.bipush 9, 2) := by decide +kernel
theorem dX8_isTasterItem_28 : decode cX8_isTasterItem 28 = .ok (.invokevirtual 99, 3) := by decide +kernel
theorem dX8_isTasterItem_31 : decode cX8_isTasterItem 31 = .ok (.ifCond .ne 5, 3) := by decide +kernel
theorem dX8_isTasterItem_34 : decode cX8_isTasterItem 34 = .ok (.iconst 0, 1) := by decide +kernel
theorem dX8_isTasterItem_35 : decode cX8_isTasterItem 35 = .ok (.ireturn, 1) := by decide +kernel
theorem dX8_isTasterItem_36 : decode cX8_isTasterItem 36 = .ok (.aload_n 0, 1) := by decide +kernel
theorem dX8_isTasterItem_37 : decode cX8_isTasterItem 37 = .ok (.getfield 29, 3) := by decide +kernel
theorem dX8_isTasterItem_40 : decode cX8_isTasterItem 40 = .ok (.iload_n 1, 1) := by decide +kernel
theorem dX8_isTasterItem_41 : decode cX8_isTasterItem 41 = .ok (.aload_n 0, 1) := by decide +kernel
theorem dX8_isTasterItem_42 : decode cX8_isTasterItem 42 = .ok (.getfield 96, 3) := by decide +kernel
theorem dX8_isTasterItem_45 : decode cX8_isTasterItem 45 = .ok (.invokestatic 56, 3) := by decide +kernel
theorem dX8_isTasterItem_48 : decode cX8_isTasterItem 48 = .ok (.pop, 1) := by decide +kernel
theorem dX8_isTasterItem_49 : decode cX8_isTasterItem 49 = .ok (.iconst 1, 1) := by decide +kernel
theorem dX8_isTasterItem_50 : decode cX8_isTasterItem 50 = .ok (.ireturn, 1) := by decide +kernel
set_option maxRecDepth 20000 in
theorem ggX8_isHerd_X8_isCows : GoodIn wsX8_isHerd wsX8_isCows := goodIn_r _ [6, 1, 7, 8, 9, 10, 5, 11, 12, 13, 14, 15, 16, 17, 18, 19, 20, 21, 22, 23, 24, 25, 26, 27, 28, 29, 30, 31, 42, 43, 44, 45, 46, 47, 48, 49, 50, 51, 52, 53, 54, 55, 56, 57, 58, 59] (by decide +kernel) (by decide +kernel)
set_option maxRecDepth 20000 in
theorem gX8_isHerd_X8_isCows : GoodIn wsX8_isHerd (wsV RX8 108 RX8 yX8_isCows wsX8_isCows) := goodIn_app (goodIn_of _ (by decide +kernel)) ggX8_isHerd_X8_isCows
set_option maxRecDepth 20000 in
theorem ggX8_isHerd_X8_isSign : GoodIn wsX8_isHerd wsX8_isSign := goodIn_r _ [31, 12, 13, 14, 15, 5, 16, 17, 18, 42, 43, 44, 45, 46, 47, 48, 49, 50, 51, 52, 53, 54, 55, 56, 57, 58, 59] (by decide +kernel) (by decide +kernel)
set_option maxRecDepth 20000 in
theorem gX8_isHerd_X8_isSign : GoodIn wsX8_isHerd (wsV RX8 102 RX8 yX8_isSign wsX8_isSign) := goodIn_app (goodIn_of _ (by decide +kernel)) ggX8_isHerd_X8_isSign
set_option maxRecDepth 20000 in
theorem ggX8_isHerd_X8_isTasterItem : GoodIn wsX8_isHerd wsX8_isTasterItem := goodIn_r _ [35, 12, 1, 7, 13, 14, 15, 5, 16, 17, 18, 36, 37, 38, 8, 9, 10, 11, 19, 20, 21, 39, 40, 41, 42, 43, 44, 45, 46, 47, 48, 49, 50, 51, 52, 53, 54, 55, 56, 57, 58, 59] (by decide +kernel) (by decide +kernel)
set_option maxRecDepth 20000 in
theorem gX8_isHerd_X8_isTasterItem : GoodIn wsX8_isHerd (wsV RX8 112 RX8 yX8_isTasterItem wsX8_isTasterItem) := goodIn_app (goodIn_of _ (by decide +kernel)) ggX8_isHerd_X8_isTasterItem
set_option maxRecDepth 20000 in
theorem ggX8_isHerd_X8_peek : GoodIn wsX8_isHerd wsX8_peek := goodIn_r _ [16, 12, 17, 18, 42, 43, 44, 45, 46, 47, 48, 49, 50, 51, 52, 53, 54, 55, 56, 57, 58, 59] (by decide +kernel) (by decide +kernel)
set_option maxRecDepth 20000 in
theorem gX8_isHerd_X8_peek : GoodIn wsX8_isHerd (wsV RX8 92 RX8 yX8_peek wsX8_peek) := goodIn_app (goodIn_of _ (by decide +kernel)) ggX8_isHerd_X8_peek
theorem dX8_isHerd_0 : decode cX8_isHerd 0 = .ok (.aload_n 0, 1) := by decide +kernel
theorem dX8_isHerd_1 : decode cX8_isHerd 1 = .ok (.invokevirtual 108, 3) := by decide +kernel
theorem dX8_isHerd_4 : decode cX8_isHerd 4 = .ok (.ifCond .ne 5, 3) := by decide +kernel
theorem dX8_isHerd_7 : decode cX8_isHerd 7 = .ok (.iconst 0, 1) := by decide +kernel
theorem dX8_isHerd_8 : decode cX8_isHerd 8 = .ok (.ireturn, 1) := by decide +kernel
theorem dX8_isHerd_9 : decode cX8_isHerd 9 = .ok (.aload_n 0, 1) := by decide +kernel
theorem dX8_isHerd_10 : decode cX8_isHerd 10 = .ok (.bipush 59, 2) := by decide +kernel
theorem dX8_isHerd_12 : decode cX8_isHerd 12 = .ok (.invokevirtual 102, 3) := by decide +kernel
theorem dX8_isHerd_15 : decode cX8_isHerd 15 = .ok (.istore_n 1, 1) := by decide +kernel
theorem dX8_isHerd_16 : decode cX8_isHerd 16 = .ok (.iload_n 1, 1) := by decide +kernel
theorem dX8_isHerd_17 : decode cX8_isHerd 17 = .ok (.ifCond .eq 41, 3) := by decide +kernel
theorem dX8_isHerd_20 : decode cX8_isHerd 20 = .ok (.aload_n 0, 1) := by decide +kernel
theorem dX8_isHerd_21 : decode cX8_isHerd 21 = .ok (.invokevirtual 112, 3) := by decide +kernel
theorem dX8_isHerd_24 : decode cX8_isHerd 24 = .ok (.ifCond .ne 5, 3) := by decide +kernel
theorem dX8_isHerd_27 : decode cX8_isHerd 27 = .ok (.iconst 0, 1) := by decide +kernel
theorem dX8_isHerd_28 : decode cX8_isHerd 28 = .ok (.ireturn, 1) := by decide +kernel
theorem dX8_isHerd_29 : decode cX8_isHerd 29 = .ok (.aload_n 0, 1) := by decide +kernel
theorem dX8_isHerd_30 : decode cX8_isHerd 30 = .ok (.getfield 29, 3) := by decide +kernel
theorem dX8_isHerd_33 : decode cX8_isHerd 33 = .ok (.bipush 13, 2) := by decide +kernel
theorem dX8_isHerd_35 : decode cX8_isHerd 35 = .ok (.iaload, 1) := by decide +kernel
theorem dX8_isHerd_36 : decode cX8_isHerd 36 = .ok (.iconst 4, 1) := by decide +kernel
theorem dX8_isHerd_37 : decode cX8_isHerd 37 = .ok (.if_icmp .ge 16, 3) := by decide +kernel
theorem dX8_isHerd_40 : decode cX8_isHerd 40 = .ok (.aload_n 0, 1) := by decide +kernel
theorem dX8_isHerd_41 : decode cX8_isHerd 41 = .ok (.bipush 44, 2) := by decide +kernel
theorem dX8_isHerd_43 : decode cX8_isHerd 43 = .ok (.invokevirtual 102, 3) := by decide +kernel
theorem dX8_isHerd_46 : decode cX8_isHerd 46 = .ok (.ifCond .eq 7, 3) := by decide +kernel
theorem dX8_isHerd_49 : decode cX8_isHerd 49 = .ok (.iconst 1, 1) := by decide +kernel
theorem dX8_isHerd_50 : decode cX8_isHerd 50 = .ok (.goto 4, 3) := by decide +kernel
theorem dX8_isHerd_53 : decode cX8_isHerd 53 = .ok (.iconst 0, 1) := by decide +kernel
theorem dX8_isHerd_54 : decode cX8_isHerd 54 = .ok (.istore_n 1, 1) := by decide +kernel
theorem dX8_isHerd_55 : decode cX8_isHerd 55 = .ok (.goto (-39), 3) := by decide +kernel
theorem dX8_isHerd_58 : decode cX8_isHerd 58 = .ok (.aload_n 0, 1) := by decide +kernel
theorem dX8_isHerd_59 : decode cX8_isHerd 59 = .ok (.invokevirtual 92, 3) := by decide +kernel
theorem dX8_isHerd_62 : decode cX8_isHerd 62 = .ok (.ifCond .ne 7, 3) := by decide +kernel
theorem dX8_isHerd_65 : decode cX8_isHerd 65 = .ok (.iconst 1, 1) := by decide +kernel
theorem dX8_isHerd_66 : decode cX8_isHerd 66 = .ok (.goto 4, 3) := by decide +kernel
theorem dX8_isHerd_69 : decode cX8_isHerd 69 = .ok (.iconst 0, 1) := by decide +kernel
theorem dX8_isHerd_70 : decode cX8_isHerd 70 = .ok (.ireturn, 1) := by decide +kernel
set_option maxRecDepth 20000 in
theorem ggX8_herd_X8_isHerd : GoodIn wsX8_herd wsX8_isHerd := goodIn_r _ [9, 1, 10, 11, 12, 8, 13, 14, 15, 16, 17, 18, 3, 19, 20, 21, 22, 4, 23, 24, 25, 26, 27, 28, 29, 30, 31, 32, 33, 34, 35, 36, 37, 38, 39, 40, 41, 42, 43, 44, 45, 46, 50, 51, 52, 53, 54, 55, 56, 57, 58, 59, 60, 61, 62, 63, 64, 65, 66, 67] (by decide +kernel) (by decide +kernel)
set_option maxRecDepth 20000 in
theorem gX8_herd_X8_isHerd : GoodIn wsX8_herd (wsV RX8 115 RX8 yX8_isHerd wsX8_isHerd) := goodIn_app (goodIn_of _ (by decide +kernel)) ggX8_herd_X8_isHerd
set_option maxRecDepth 20000 in
theorem ggX8_herd_X8_bring : GoodIn wsX8_herd wsX8_bring := goodIn_r _ [49] (by decide +kernel) (by decide +kernel)
set_option maxRecDepth 20000 in
theorem gX8_herd_X8_bring : GoodIn wsX8_herd (va_wsS RX8 118 yX8_bring wsX8_bring) := goodIn_app (goodIn_of _ (by decide +kernel)) ggX8_herd_X8_bring
theorem dX8_herd_0 : decode cX8_herd 0 = .ok (.iconst 0, 1) := by decide +kernel
theorem dX8_herd_1 : decode cX8_herd 1 = .ok (.istore_n 1, 1) := by decide +kernel
theorem dX8_herd_2 : decode cX8_herd 2 = .ok (.iload_n 1, 1) := by decide +kernel
theorem dX8_herd_3 : decode cX8_herd 3 = .ok (.bipush 55, 2) := by decide +kernel
theorem dX8_herd_5 : decode cX8_herd 5 = .ok (.if_icmp .ge 16, 3) := by decide +kernel
theorem dX8_herd_8 : decode cX8_herd 8 = .ok (.aload_n 0, 1) := by decide +kernel
theorem dX8_herd_9 : decode cX8_herd 9 = .ok (.getfield 29, 3) := by decide +kernel
theorem dX8_herd_12 : decode cX8_herd 12 = .ok (.iload_n 1, 1) := by decide +kernel
theorem dX8_herd_13 : decode cX8_herd 13 = .ok (.iconst 0, 1) := by decide +kernel
theorem dX8_herd_14 : decode cX8_herd 14 = .ok (.iastore, 1) := by decide +kernel
theorem dX8_herd_15 : decode cX8_herd 15 = .ok (.iinc 1 1, 3) := by decide +kernel
theorem dX8_herd_18 : decode cX8_herd 18 = .ok (.goto (-16), 3) := by decide +kernel
theorem dX8_herd_21 : decode cX8_herd 21 = .ok (.aload_n 0, 1) := by decide +kernel
theorem dX8_herd_22 : decode cX8_herd 22 = .ok (.getfield 29, 3) := by decide +kernel
theorem dX8_herd_25 : decode cX8_herd 25 = .ok (.iconst 1, 1) := by decide +kernel
theorem dX8_herd_26 : decode cX8_herd 26 = .ok (.aload_n 0, 1) := by decide +kernel
theorem dX8_herd_27 : decode cX8_herd 27 = .ok (.getfield 23, 3) := by decide +kernel
theorem dX8_herd_30 : decode cX8_herd 30 = .ok (.iconst 1, 1) := by decide +kernel
theorem dX8_herd_31 : decode cX8_herd 31 = .ok (.iaload, 1) := by decide +kernel
theorem dX8_herd_32 : decode cX8_herd 32 = .ok (.iastore, 1) := by decide +kernel
theorem dX8_herd_33 : decode cX8_herd 33 = .ok (.aload_n 0, 1) := by decide +kernel
theorem dX8_herd_34 : decode cX8_herd 34 = .ok (.getfield 29, 3) := by decide +kernel
theorem dX8_herd_37 : decode cX8_herd 37 = .ok (.iconst 3, 1) := by decide +kernel
theorem dX8_herd_38 : decode cX8_herd 38 = .ok (.bipush (-4), 2) := by decide +kernel
theorem dX8_herd_40 : decode cX8_herd 40 = .ok (.iastore, 1) := by decide +kernel
theorem dX8_herd_41 : decode cX8_herd 41 = .ok (.aload_n 0, 1) := by decide +kernel
theorem dX8_herd_42 : decode cX8_herd 42 = .ok (.iconst 0, 1) := by decide +kernel
theorem dX8_herd_43 : decode cX8_herd 43 = .ok (.putfield 89, 3) := by decide +kernel
theorem dX8_herd_46 : decode cX8_herd 46 = .ok (.aload_n 0, 1) := by decide +kernel
theorem dX8_herd_47 : decode cX8_herd 47 = .ok (.invokevirtual 115, 3) := by decide +kernel
theorem dX8_herd_50 : decode cX8_herd 50 = .ok (.istore_n 1, 1) := by decide +kernel
theorem dX8_herd_51 : decode cX8_herd 51 = .ok (.aload_n 0, 1) := by decide +kernel
theorem dX8_herd_52 : decode cX8_herd 52 = .ok (.iconst 0, 1) := by decide +kernel
theorem dX8_herd_53 : decode cX8_herd 53 = .ok (.putfield 85, 3) := by decide +kernel
theorem dX8_herd_56 : decode cX8_herd 56 = .ok (.iload_n 1, 1) := by decide +kernel
theorem dX8_herd_57 : decode cX8_herd 57 = .ok (.ifCond .ne 11, 3) := by decide +kernel
theorem dX8_herd_60 : decode cX8_herd 60 = .ok (.bipush (-20), 2) := by decide +kernel
theorem dX8_herd_62 : decode cX8_herd 62 = .ok (.aload_n 0, 1) := by decide +kernel
theorem dX8_herd_63 : decode cX8_herd 63 = .ok (.getfield 89, 3) := by decide +kernel
theorem dX8_herd_66 : decode cX8_herd 66 = .ok (.isub, 1) := by decide +kernel
theorem dX8_herd_67 : decode cX8_herd 67 = .ok (.ireturn, 1) := by decide +kernel
theorem dX8_herd_68 : decode cX8_herd 68 = .ok (.aload_n 0, 1) := by decide +kernel
theorem dX8_herd_69 : decode cX8_herd 69 = .ok (.getfield 29, 3) := by decide +kernel
theorem dX8_herd_72 : decode cX8_herd 72 = .ok (.iconst 0, 1) := by decide +kernel
theorem dX8_herd_73 : decode cX8_herd 73 = .ok (.aload_n 0, 1) := by decide +kernel
theorem dX8_herd_74 : decode cX8_herd 74 = .ok (.getfield 23, 3) := by decide +kernel
theorem dX8_herd_77 : decode cX8_herd 77 = .ok (.iconst 0, 1) := by decide +kernel
theorem dX8_herd_78 : decode cX8_herd 78 = .ok (.bipush 55, 2) := by decide +kernel
theorem dX8_herd_80 : decode cX8_herd 80 = .ok (.invokestatic 118, 3) := by decide +kernel
theorem dX8_herd_83 : decode cX8_herd 83 = .ok (.aload_n 0, 1) := by decide +kernel
theorem dX8_herd_84 : decode cX8_herd 84 = .ok (.getfield 23, 3) := by decide +kernel
theorem dX8_herd_87 : decode cX8_herd 87 = .ok (.iconst 4, 1) := by decide +kernel
theorem dX8_herd_88 : decode cX8_herd 88 = .ok (.iaload, 1) := by decide +kernel
theorem dX8_herd_89 : decode cX8_herd 89 = .ok (.ireturn, 1) := by decide +kernel
set_option maxRecDepth 20000 in
theorem ggX8_count_X8_allOf : GoodIn wsX8_count wsX8_allOf := goodIn_r _ [5] (by decide +kernel) (by decide +kernel)
set_option maxRecDepth 20000 in
theorem gX8_count_X8_allOf : GoodIn wsX8_count (va_wsS RX8 48 yX8_allOf wsX8_allOf) := goodIn_app (goodIn_of _ (by decide +kernel)) ggX8_count_X8_allOf
set_option maxRecDepth 20000 in
theorem ggX8_count_X8_milkOf : GoodIn wsX8_count wsX8_milkOf := goodIn_r _ [8, 9, 10, 4, 11] (by decide +kernel) (by decide +kernel)
set_option maxRecDepth 20000 in
theorem gX8_count_X8_milkOf : GoodIn wsX8_count (va_wsS RX8 71 yX8_milkOf wsX8_milkOf) := goodIn_app (goodIn_of _ (by decide +kernel)) ggX8_count_X8_milkOf
theorem dX8_count_0 : decode cX8_count 0 = .ok (.iload_n 1, 1) := by decide +kernel
theorem dX8_count_1 : decode cX8_count 1 = .ok (.tableswitch 120 0 7 #[47, 54, 62, 69, 76, 83, 98, 112], 47) := by decide +kernel
theorem dX8_count_48 : decode cX8_count 48 = .ok (.aload_n 0, 1) := by decide +kernel
theorem dX8_count_49 : decode cX8_count 49 = .ok (.getfield 23, 3) := by decide +kernel
theorem dX8_count_52 : decode cX8_count 52 = .ok (.iconst 4, 1) := by decide +kernel
theorem dX8_count_53 : decode cX8_count 53 = .ok (.iaload, 1) := by decide +kernel
theorem dX8_count_54 : decode cX8_count 54 = .ok (.ireturn, 1) := by decide +kernel
theorem dX8_count_55 : decode cX8_count 55 = .ok (.aload_n 0, 1) := by decide +kernel
theorem dX8_count_56 : decode cX8_count 56 = .ok (.getfield 23, 3) := by decide +kernel
theorem dX8_count_59 : decode cX8_count 59 = .ok (.bipush 13, 2) := by decide +kernel
theorem dX8_count_61 : decode cX8_count 61 = .ok (.iaload, 1) := by decide +kernel
theorem dX8_count_62 : decode cX8_count 62 = .ok (.ireturn, 1) := by decide +kernel
theorem dX8_count_63 : decode cX8_count 63 = .ok (.aload_n 0, 1) := by decide +kernel
theorem dX8_count_64 : decode cX8_count 64 = .ok (.getfield 23, 3) := by decide +kernel
theorem dX8_count_67 : decode cX8_count 67 = .ok (.iconst 0, 1) := by decide +kernel
theorem dX8_count_68 : decode cX8_count 68 = .ok (.iaload, 1) := by decide +kernel
theorem dX8_count_69 : decode cX8_count 69 = .ok (.ireturn, 1) := by decide +kernel
theorem dX8_count_70 : decode cX8_count 70 = .ok (.aload_n 0, 1) := by decide +kernel
theorem dX8_count_71 : decode cX8_count 71 = .ok (.getfield 23, 3) := by decide +kernel
theorem dX8_count_74 : decode cX8_count 74 = .ok (.iconst 2, 1) := by decide +kernel
theorem dX8_count_75 : decode cX8_count 75 = .ok (.iaload, 1) := by decide +kernel
theorem dX8_count_76 : decode cX8_count 76 = .ok (.ireturn, 1) := by decide +kernel
theorem dX8_count_77 : decode cX8_count 77 = .ok (.aload_n 0, 1) := by decide +kernel
theorem dX8_count_78 : decode cX8_count 78 = .ok (.getfield 23, 3) := by decide +kernel
theorem dX8_count_81 : decode cX8_count 81 = .ok (.iconst 3, 1) := by decide +kernel
theorem dX8_count_82 : decode cX8_count 82 = .ok (.iaload, 1) := by decide +kernel
theorem dX8_count_83 : decode cX8_count 83 = .ok (.ireturn, 1) := by decide +kernel
theorem dX8_count_84 : decode cX8_count 84 = .ok (.aload_n 0, 1) := by decide +kernel
theorem dX8_count_85 : decode cX8_count 85 = .ok (.getfield 23, 3) := by decide +kernel
theorem dX8_count_88 : decode cX8_count 88 = .ok (.aload_n 0, 1) := by decide +kernel
theorem dX8_count_89 : decode cX8_count 89 = .ok (.getfield 23, 3) := by decide +kernel
theorem dX8_count_92 : decode cX8_count 92 = .ok (.invokestatic 48, 3) := by decide +kernel
theorem dX8_count_95 : decode cX8_count 95 = .ok (.invokestatic 71, 3) := by decide +kernel
theorem dX8_count_98 : decode cX8_count 98 = .ok (.ireturn, 1) := by decide +kernel
theorem dX8_count_99 : decode cX8_count 99 = .ok (.aload_n 0, 1) := by decide +kernel
theorem dX8_count_100 : decode cX8_count 100 = .ok (.getfield 23, 3) := by decide +kernel
theorem dX8_count_103 : decode cX8_count 103 = .ok (.aload_n 0, 1) := by decide +kernel
theorem dX8_count_104 : decode cX8_count 104 = .ok (.getfield 23, 3) := by decide +kernel
theorem dX8_count_107 : decode cX8_count 107 = .ok (.iconst 2, 1) := by decide +kernel
theorem dX8_count_108 : decode cX8_count 108 = .ok (.iaload, 1) := by decide +kernel
theorem dX8_count_109 : decode cX8_count 109 = .ok (.invokestatic 71, 3) := by decide +kernel
theorem dX8_count_112 : decode cX8_count 112 = .ok (.ireturn, 1) := by decide +kernel
theorem dX8_count_113 : decode cX8_count 113 = .ok (.aload_n 0, 1) := by decide +kernel
theorem dX8_count_114 : decode cX8_count 114 = .ok (.getfield 23, 3) := by decide +kernel
theorem dX8_count_117 : decode cX8_count 117 = .ok (.bipush 22, 2) := by decide +kernel
theorem dX8_count_119 : decode cX8_count 119 = .ok (.iaload, 1) := by decide +kernel
theorem dX8_count_120 : decode cX8_count 120 = .ok (.ireturn, 1) := by decide +kernel
theorem dX8_count_121 : decode cX8_count 121 = .ok (.iconst (-1), 1) := by decide +kernel
theorem dX8_count_122 : decode cX8_count 122 = .ok (.ireturn, 1) := by decide +kernel
set_option maxRecDepth 20000 in
theorem ggX8_note_X8_bring : GoodIn wsX8_note wsX8_bring := goodIn_r _ [5] (by decide +kernel) (by decide +kernel)
set_option maxRecDepth 20000 in
theorem gX8_note_X8_bring : GoodIn wsX8_note (va_wsS RX8 118 yX8_bring wsX8_bring) := goodIn_app (goodIn_of _ (by decide +kernel)) ggX8_note_X8_bring
theorem dX8_note_0 : decode cX8_note 0 = .ok (.aload_n 0, 1) := by decide +kernel
theorem dX8_note_1 : decode cX8_note 1 = .ok (.getfield 23, 3) := by decide +kernel
theorem dX8_note_4 : decode cX8_note 4 = .ok (.bipush 22, 2) := by decide +kernel
theorem dX8_note_6 : decode cX8_note 6 = .ok (.iaload, 1) := by decide +kernel
theorem dX8_note_7 : decode cX8_note 7 = .ok (.bipush 8, 2) := by decide +kernel
theorem dX8_note_9 : decode cX8_note 9 = .ok (.if_icmp .ne 31, 3) := by decide +kernel
theorem dX8_note_12 : decode cX8_note 12 = .ok (.aload_n 0, 1) := by decide +kernel
theorem dX8_note_13 : decode cX8_note 13 = .ok (.getfield 23, 3) := by decide +kernel
theorem dX8_note_16 : decode cX8_note 16 = .ok (.bipush 27, 2) := by decide +kernel
theorem dX8_note_18 : decode cX8_note 18 = .ok (.aload_n 0, 1) := by decide +kernel
theorem dX8_note_19 : decode cX8_note 19 = .ok (.getfield 23, 3) := by decide +kernel
theorem dX8_note_22 : decode cX8_note 22 = .ok (.bipush 23, 2) := by decide +kernel
theorem dX8_note_24 : decode cX8_note 24 = .ok (.bipush 28, 2) := by decide +kernel
theorem dX8_note_26 : decode cX8_note 26 = .ok (.invokestatic 118, 3) := by decide +kernel
theorem dX8_note_29 : decode cX8_note 29 = .ok (.aload_n 0, 1) := by decide +kernel
theorem dX8_note_30 : decode cX8_note 30 = .ok (.getfield 23, 3) := by decide +kernel
theorem dX8_note_33 : decode cX8_note 33 = .ok (.bipush 22, 2) := by decide +kernel
theorem dX8_note_35 : decode cX8_note 35 = .ok (.dup2, 1) := by decide +kernel
theorem dX8_note_36 : decode cX8_note 36 = .ok (.iaload, 1) := by decide +kernel
theorem dX8_note_37 : decode cX8_note 37 = .ok (.iconst 1, 1) := by decide +kernel
theorem dX8_note_38 : decode cX8_note 38 = .ok (.isub, 1) := by decide +kernel
theorem dX8_note_39 : decode cX8_note 39 = .ok (.iastore, 1) := by decide +kernel
theorem dX8_note_40 : decode cX8_note 40 = .ok (.aload_n 0, 1) := by decide +kernel
theorem dX8_note_41 : decode cX8_note 41 = .ok (.getfield 23, 3) := by decide +kernel
theorem dX8_note_44 : decode cX8_note 44 = .ok (.iconst 0, 1) := by decide +kernel
theorem dX8_note_45 : decode cX8_note 45 = .ok (.aload_n 0, 1) := by decide +kernel
theorem dX8_note_46 : decode cX8_note 46 = .ok (.getfield 23, 3) := by decide +kernel
theorem dX8_note_49 : decode cX8_note 49 = .ok (.bipush 23, 2) := by decide +kernel
theorem dX8_note_51 : decode cX8_note 51 = .ok (.iconst 4, 1) := by decide +kernel
theorem dX8_note_52 : decode cX8_note 52 = .ok (.aload_n 0, 1) := by decide +kernel
theorem dX8_note_53 : decode cX8_note 53 = .ok (.getfield 23, 3) := by decide +kernel
theorem dX8_note_56 : decode cX8_note 56 = .ok (.bipush 22, 2) := by decide +kernel
theorem dX8_note_58 : decode cX8_note 58 = .ok (.iaload, 1) := by decide +kernel
theorem dX8_note_59 : decode cX8_note 59 = .ok (.imul, 1) := by decide +kernel
theorem dX8_note_60 : decode cX8_note 60 = .ok (.iadd, 1) := by decide +kernel
theorem dX8_note_61 : decode cX8_note 61 = .ok (.iconst 4, 1) := by decide +kernel
theorem dX8_note_62 : decode cX8_note 62 = .ok (.invokestatic 118, 3) := by decide +kernel
theorem dX8_note_65 : decode cX8_note 65 = .ok (.aload_n 0, 1) := by decide +kernel
theorem dX8_note_66 : decode cX8_note 66 = .ok (.getfield 23, 3) := by decide +kernel
theorem dX8_note_69 : decode cX8_note 69 = .ok (.bipush 22, 2) := by decide +kernel
theorem dX8_note_71 : decode cX8_note 71 = .ok (.dup2, 1) := by decide +kernel
theorem dX8_note_72 : decode cX8_note 72 = .ok (.iaload, 1) := by decide +kernel
theorem dX8_note_73 : decode cX8_note 73 = .ok (.iconst 1, 1) := by decide +kernel
theorem dX8_note_74 : decode cX8_note 74 = .ok (.iadd, 1) := by decide +kernel
theorem dX8_note_75 : decode cX8_note 75 = .ok (.iastore, 1) := by decide +kernel
theorem dX8_note_76 : decode cX8_note 76 = .ok (.return_, 1) := by decide +kernel
set_option maxRecDepth 20000 in
theorem ggX8_noticedBy_X8_noticesIn : GoodIn wsX8_noticedBy wsX8_noticesIn := goodIn_r _ [4, 5, 6, 3, 7, 8, 9, 10, 11, 12, 13] (by decide +kernel) (by decide +kernel)
set_option maxRecDepth 20000 in
theorem gX8_noticedBy_X8_noticesIn : GoodIn wsX8_noticedBy (va_wsS RX8 81 yX8_noticesIn wsX8_noticesIn) := goodIn_app (goodIn_of _ (by decide +kernel)) ggX8_noticedBy_X8_noticesIn
theorem dX8_noticedBy_0 : decode cX8_noticedBy 0 = .ok (.iconst 0, 1) := by decide +kernel
theorem dX8_noticedBy_1 : decode cX8_noticedBy 1 = .ok (.istore_n 3, 1) := by decide +kernel
theorem dX8_noticedBy_2 : decode cX8_noticedBy 2 = .ok (.iconst 0, 1) := by decide +kernel
theorem dX8_noticedBy_3 : decode cX8_noticedBy 3 = .ok (.istore 4, 2) := by decide +kernel
theorem dX8_noticedBy_5 : decode cX8_noticedBy 5 = .ok (.iload 4, 2) := by decide +kernel
theorem dX8_noticedBy_7 : decode cX8_noticedBy 7 = .ok (.aload_n 0, 1) := by decide +kernel
theorem dX8_noticedBy_8 : decode cX8_noticedBy 8 = .ok (.iconst 4, 1) := by decide +kernel
theorem dX8_noticedBy_9 : decode cX8_noticedBy 9 = .ok (.iaload, 1) := by decide +kernel
theorem dX8_noticedBy_10 : decode cX8_noticedBy 10 = .ok (.if_icmp .ge 31, 3) := by decide +kernel
theorem dX8_noticedBy_13 : decode cX8_noticedBy 13 = .ok (.iload_n 3, 1) := by decide +kernel
theorem dX8_noticedBy_14 : decode cX8_noticedBy 14 = .ok (.aload_n 0, 1) := by decide +kernel
theorem dX8_noticedBy_15 : decode cX8_noticedBy 15 = .ok (.iload_n 1, 1) := by decide +kernel
theorem dX8_noticedBy_16 : decode cX8_noticedBy 16 = .ok (.iload_n 2, 1) := by decide +kernel
theorem dX8_noticedBy_17 : decode cX8_noticedBy 17 = .ok (.iload 4, 2) := by decide +kernel
theorem dX8_noticedBy_19 : decode cX8_noticedBy 19 = .ok (.invokestatic 81, 3) := by decide +kernel
theorem dX8_noticedBy_22 : decode cX8_noticedBy 22 = .ok (.ifCond .eq 10, 3) := by decide +kernel
theorem dX8_noticedBy_25 : decode cX8_noticedBy 25 = .ok (.iconst 1, 1) := by decide +kernel
theorem dX8_noticedBy_26 : decode cX8_noticedBy 26 = .ok (.iload 4, 2) := by decide +kernel
theorem dX8_noticedBy_28 : decode cX8_noticedBy 28 = .ok (.ishl, 1) := by decide +kernel
theorem dX8_noticedBy_29 : decode cX8_noticedBy 29 = .ok (.goto 4, 3) := by decide +kernel
theorem dX8_noticedBy_32 : decode cX8_noticedBy 32 = .ok (.iconst 0, 1) := by decide +kernel
theorem dX8_noticedBy_33 : decode cX8_noticedBy 33 = .ok (.ior, 1) := by decide +kernel
theorem dX8_noticedBy_34 : decode cX8_noticedBy 34 = .ok (.istore_n 3, 1) := by decide +kernel
theorem dX8_noticedBy_35 : decode cX8_noticedBy 35 = .ok (.iinc 4 1, 3) := by decide +kernel
theorem dX8_noticedBy_38 : decode cX8_noticedBy 38 = .ok (.goto (-33), 3) := by decide +kernel
theorem dX8_noticedBy_41 : decode cX8_noticedBy 41 = .ok (.iload_n 3, 1) := by decide +kernel
theorem dX8_noticedBy_42 : decode cX8_noticedBy 42 = .ok (.ireturn, 1) := by decide +kernel
set_option maxRecDepth 20000 in
theorem ggX8_answers_X8_noticedBy : GoodIn wsX8_answers wsX8_noticedBy := goodIn_r _ [5, 6, 7, 4, 8, 9, 10, 11, 12, 13, 14, 15, 16, 17] (by decide +kernel) (by decide +kernel)
set_option maxRecDepth 20000 in
theorem gX8_answers_X8_noticedBy : GoodIn wsX8_answers (va_wsS RX8 122 yX8_noticedBy wsX8_noticedBy) := goodIn_app (goodIn_of _ (by decide +kernel)) ggX8_answers_X8_noticedBy
theorem dX8_answers_0 : decode cX8_answers 0 = .ok (.aload_n 0, 1) := by decide +kernel
theorem dX8_answers_1 : decode cX8_answers 1 = .ok (.getfield 23, 3) := by decide +kernel
theorem dX8_answers_4 : decode cX8_answers 4 = .ok (.iload_n 1, 1) := by decide +kernel
theorem dX8_answers_5 : decode cX8_answers 5 = .ok (.iload_n 2, 1) := by decide +kernel
theorem dX8_answers_6 : decode cX8_answers 6 = .ok (.invokestatic 122, 3) := by decide +kernel
theorem dX8_answers_9 : decode cX8_answers 9 = .ok (.istore 4, 2) := by decide +kernel
theorem dX8_answers_11 : decode cX8_answers 11 = .ok (.aload_n 0, 1) := by decide +kernel
theorem dX8_answers_12 : decode cX8_answers 12 = .ok (.getfield 23, 3) := by decide +kernel
theorem dX8_answers_15 : decode cX8_answers 15 = .ok (.iconst 2, 1) := by decide +kernel
theorem dX8_answers_16 : decode cX8_answers 16 = .ok (.aload_n 0, 1) := by decide +kernel
theorem dX8_answers_17 : decode cX8_answers 17 = .ok (.getfield 23, 3) := by decide +kernel
theorem dX8_answers_20 : decode cX8_answers 20 = .ok (.iconst 2, 1) := by decide +kernel
theorem dX8_answers_21 : decode cX8_answers 21 = .ok (.iaload, 1) := by decide +kernel
theorem dX8_answers_22 : decode cX8_answers 22 = .ok (.iload_n 3, 1) := by decide +kernel
theorem dX8_answers_23 : decode cX8_answers 23 = .ok (.ifCond .eq 8, 3) := by decide +kernel
theorem dX8_answers_26 : decode cX8_answers 26 = .ok (.iload 4, 2) := by decide +kernel
theorem dX8_answers_28 : decode cX8_answers 28 = .ok (.goto 7, 3) := by decide +kernel
theorem dX8_answers_31 : decode cX8_answers 31 = .ok (.iload 4, 2) := by decide +kernel
theorem dX8_answers_33 : decode cX8_answers 33 = .ok (.iconst (-1), 1) := by decide +kernel
theorem dX8_answers_34 : decode cX8_answers 34 = .ok (.ixor, 1) := by decide +kernel
theorem dX8_answers_35 : decode cX8_answers 35 = .ok (.iand, 1) := by decide +kernel
theorem dX8_answers_36 : decode cX8_answers 36 = .ok (.iastore, 1) := by decide +kernel
theorem dX8_answers_37 : decode cX8_answers 37 = .ok (.aload_n 0, 1) := by decide +kernel
theorem dX8_answers_38 : decode cX8_answers 38 = .ok (.getfield 23, 3) := by decide +kernel
theorem dX8_answers_41 : decode cX8_answers 41 = .ok (.iconst 0, 1) := by decide +kernel
theorem dX8_answers_42 : decode cX8_answers 42 = .ok (.dup2, 1) := by decide +kernel
theorem dX8_answers_43 : decode cX8_answers 43 = .ok (.iaload, 1) := by decide +kernel
theorem dX8_answers_44 : decode cX8_answers 44 = .ok (.iconst 1, 1) := by decide +kernel
theorem dX8_answers_45 : decode cX8_answers 45 = .ok (.iadd, 1) := by decide +kernel
theorem dX8_answers_46 : decode cX8_answers 46 = .ok (.iastore, 1) := by decide +kernel
theorem dX8_answers_47 : decode cX8_answers 47 = .ok (.return_, 1) := by decide +kernel
set_option maxRecDepth 20000 in
theorem ggX8_answer_X8_isTaster : GoodIn wsX8_answer wsX8_isTaster := goodIn_r _ [6, 1, 7, 8, 5, 9, 43, 44, 45, 46, 47, 48, 49, 50, 51, 52, 53, 54, 55, 56, 57, 58, 59, 60] (by decide +kernel) (by decide +kernel)
set_option maxRecDepth 20000 in
theorem gX8_answer_X8_isTaster : GoodIn wsX8_answer (wsV RX8 64 RX8 yX8_isTaster wsX8_isTaster) := goodIn_app (goodIn_of _ (by decide +kernel)) ggX8_answer_X8_isTaster
set_option maxRecDepth 20000 in
theorem ggX8_answer_X8_isMix : GoodIn wsX8_answer wsX8_isMix := goodIn_r _ [13, 1, 14, 15, 5, 16, 7, 8, 9, 43, 44, 45, 46, 47, 48, 49, 50, 51, 52, 53, 54, 55, 56, 57, 58, 59, 60] (by decide +kernel) (by decide +kernel)
set_option maxRecDepth 20000 in
theorem gX8_answer_X8_isMix : GoodIn wsX8_answer (wsV RX8 78 RX8 yX8_isMix wsX8_isMix) := goodIn_app (goodIn_of _ (by decide +kernel)) ggX8_answer_X8_isMix
set_option maxRecDepth 20000 in
theorem ggX8_answer_X8_in : GoodIn wsX8_answer wsX8_in := goodIn_r _ [9] (by decide +kernel) (by decide +kernel)
set_option maxRecDepth 20000 in
theorem gX8_answer_X8_in : GoodIn wsX8_answer (va_wsS RX8 44 yX8_in wsX8_in) := goodIn_app (goodIn_of _ (by decide +kernel)) ggX8_answer_X8_in
set_option maxRecDepth 20000 in
theorem ggX8_answer_X8_note : GoodIn wsX8_answer wsX8_note := goodIn_r _ [20, 1, 21, 22, 5, 23, 43, 44, 45, 46, 47, 48, 49, 50, 51, 52, 53, 54, 55, 56, 57, 58, 59, 60] (by decide +kernel) (by decide +kernel)
set_option maxRecDepth 20000 in
theorem gX8_answer_X8_note : GoodIn wsX8_answer (wsV RX8 125 RX8 yX8_note wsX8_note) := goodIn_app (goodIn_of _ (by decide +kernel)) ggX8_answer_X8_note
set_option maxRecDepth 20000 in
theorem ggX8_answer_X8_answers : GoodIn wsX8_answer wsX8_answers := goodIn_r _ [27, 1, 28, 29, 5, 30, 31, 32, 33, 34, 35, 36, 37, 38, 39, 40, 41, 42, 43, 44, 45, 46, 47, 48, 49, 50, 51, 52, 53, 54, 55, 56, 57, 58, 59, 60] (by decide +kernel) (by decide +kernel)
set_option maxRecDepth 20000 in
theorem gX8_answer_X8_answers : GoodIn wsX8_answer (wsV RX8 128 RX8 yX8_answers wsX8_answers) := goodIn_app (goodIn_of _ (by decide +kernel)) ggX8_answer_X8_answers
theorem dX8_answer_0 : decode cX8_answer 0 = .ok (.aload_n 0, 1) := by decide +kernel
theorem dX8_answer_1 : decode cX8_answer 1 = .ok (.iload_n 1, 1) := by decide +kernel
theorem dX8_answer_2 : decode cX8_answer 2 = .ok (.invokevirtual 64, 3) := by decide +kernel
theorem dX8_answer_5 : decode cX8_answer 5 = .ok (.ifCond .eq 20, 3) := by decide +kernel
theorem dX8_answer_8 : decode cX8_answer 8 = .ok (.aload_n 0, 1) := by decide +kernel
theorem dX8_answer_9 : decode cX8_answer 9 = .ok (.iload_n 2, 1) := by decide +kernel
theorem dX8_answer_10 : decode cX8_answer 10 = .ok (.invokevirtual 78, 3) := by decide +kernel
theorem dX8_answer_13 : decode cX8_answer 13 = .ok (.ifCond .eq 12, 3) := by decide +kernel
theorem dX8_answer_16 : decode cX8_answer 16 = .ok (.iload_n 3, 1) := by decide +kernel
theorem dX8_answer_17 : decode cX8_answer 17 = .ok (.iconst 0, 1) := by decide +kernel
theorem dX8_answer_18 : decode cX8_answer 18 = .ok (.iconst 1, 1) := by decide +kernel
theorem dX8_answer_19 : decode cX8_answer 19 = .ok (.invokestatic 44, 3) := by decide +kernel
theorem dX8_answer_22 : decode cX8_answer 22 = .ok (.ifCond .ne 5, 3) := by decide +kernel
theorem dX8_answer_25 : decode cX8_answer 25 = .ok (.iconst (-1), 1) := by decide +kernel
theorem dX8_answer_26 : decode cX8_answer 26 = .ok (.ireturn, 1) := by decide +kernel
theorem dX8_answer_27 : decode cX8_answer 27 = .ok (.aload_n 0, 1) := by decide +kernel
theorem dX8_answer_28 : decode cX8_answer 28 = .ok (.getfield 23, 3) := by decide +kernel
theorem dX8_answer_31 : decode cX8_answer 31 = .ok (.iconst 0, 1) := by decide +kernel
theorem dX8_answer_32 : decode cX8_answer 32 = .ok (.iaload, 1) := by decide +kernel
theorem dX8_answer_33 : decode cX8_answer 33 = .ok (.sipush 9999, 3) := by decide +kernel
theorem dX8_answer_36 : decode cX8_answer 36 = .ok (.if_icmp .ne 6, 3) := by decide +kernel
theorem dX8_answer_39 : decode cX8_answer 39 = .ok (.bipush (-3), 2) := by decide +kernel
theorem dX8_answer_41 : decode cX8_answer 41 = .ok (.ireturn, 1) := by decide +kernel
theorem dX8_answer_42 : decode cX8_answer 42 = .ok (.aload_n 0, 1) := by decide +kernel
theorem dX8_answer_43 : decode cX8_answer 43 = .ok (.invokevirtual 125, 3) := by decide +kernel
theorem dX8_answer_46 : decode cX8_answer 46 = .ok (.aload_n 0, 1) := by decide +kernel
theorem dX8_answer_47 : decode cX8_answer 47 = .ok (.iload_n 1, 1) := by decide +kernel
theorem dX8_answer_48 : decode cX8_answer 48 = .ok (.iload_n 2, 1) := by decide +kernel
theorem dX8_answer_49 : decode cX8_answer 49 = .ok (.iload_n 3, 1) := by decide +kernel
theorem dX8_answer_50 : decode cX8_answer 50 = .ok (.iconst 1, 1) := by decide +kernel
theorem dX8_answer_51 : decode cX8_answer 51 = .ok (.if_icmp .ne 7, 3) := by decide +kernel
theorem dX8_answer_54 : decode cX8_answer 54 = .ok (.iconst 1, 1) := by decide +kernel
theorem dX8_answer_55 : decode cX8_answer 55 = .ok (.goto 4, 3) := by decide +kernel
theorem dX8_answer_58 : decode cX8_answer 58 = .ok (.iconst 0, 1) := by decide +kernel
theorem dX8_answer_59 : decode cX8_answer 59 = .ok (.invokevirtual 128, 3) := by decide +kernel
theorem dX8_answer_62 : decode cX8_answer 62 = .ok (.aload_n 0, 1) := by decide +kernel
theorem dX8_answer_63 : decode cX8_answer 63 = .ok (.getfield 23, 3) := by decide +kernel
theorem dX8_answer_66 : decode cX8_answer 66 = .ok (.iconst 2, 1) := by decide +kernel
theorem dX8_answer_67 : decode cX8_answer 67 = .ok (.iaload, 1) := by decide +kernel
theorem dX8_answer_68 : decode cX8_answer 68 = .ok (.ireturn, 1) := by decide +kernel
set_option maxRecDepth 20000 in
theorem ggX8_drink_X8_isTaster : GoodIn wsX8_drink wsX8_isTaster := goodIn_r _ [6, 1, 7, 8, 5, 9, 43, 44, 45, 46, 47, 48, 49, 50, 51, 52, 53, 54, 55, 56, 57, 58, 59, 60] (by decide +kernel) (by decide +kernel)
set_option maxRecDepth 20000 in
theorem gX8_drink_X8_isTaster : GoodIn wsX8_drink (wsV RX8 64 RX8 yX8_isTaster wsX8_isTaster) := goodIn_app (goodIn_of _ (by decide +kernel)) ggX8_drink_X8_isTaster
set_option maxRecDepth 20000 in
theorem ggX8_drink_X8_isMix : GoodIn wsX8_drink wsX8_isMix := goodIn_r _ [13, 1, 14, 15, 5, 16, 7, 8, 9, 43, 44, 45, 46, 47, 48, 49, 50, 51, 52, 53, 54, 55, 56, 57, 58, 59, 60] (by decide +kernel) (by decide +kernel)
set_option maxRecDepth 20000 in
theorem gX8_drink_X8_isMix : GoodIn wsX8_drink (wsV RX8 78 RX8 yX8_isMix wsX8_isMix) := goodIn_app (goodIn_of _ (by decide +kernel)) ggX8_drink_X8_isMix
set_option maxRecDepth 20000 in
theorem ggX8_drink_X8_note : GoodIn wsX8_drink wsX8_note := goodIn_r _ [20, 1, 21, 22, 5, 23, 43, 44, 45, 46, 47, 48, 49, 50, 51, 52, 53, 54, 55, 56, 57, 58, 59, 60] (by decide +kernel) (by decide +kernel)
set_option maxRecDepth 20000 in
theorem gX8_drink_X8_note : GoodIn wsX8_drink (wsV RX8 125 RX8 yX8_note wsX8_note) := goodIn_app (goodIn_of _ (by decide +kernel)) ggX8_drink_X8_note
set_option maxRecDepth 20000 in
theorem ggX8_drink_X8_noticesIn : GoodIn wsX8_drink wsX8_noticesIn := goodIn_r _ [26, 27, 28, 5, 29, 30, 31, 32, 33, 34, 35] (by decide +kernel) (by decide +kernel)
set_option maxRecDepth 20000 in
theorem gX8_drink_X8_noticesIn : GoodIn wsX8_drink (va_wsS RX8 81 yX8_noticesIn wsX8_noticesIn) := goodIn_app (goodIn_of _ (by decide +kernel)) ggX8_drink_X8_noticesIn
set_option maxRecDepth 20000 in
theorem ggX8_drink_X8_answers : GoodIn wsX8_drink wsX8_answers := goodIn_r _ [39, 1, 40, 41, 5, 42, 24, 25, 26, 27, 28, 29, 30, 31, 32, 33, 34, 35, 43, 44, 45, 46, 47, 48, 49, 50, 51, 52, 53, 54, 55, 56, 57, 58, 59, 60] (by decide +kernel) (by decide +kernel)
set_option maxRecDepth 20000 in
theorem gX8_drink_X8_answers : GoodIn wsX8_drink (wsV RX8 128 RX8 yX8_answers wsX8_answers) := goodIn_app (goodIn_of _ (by decide +kernel)) ggX8_drink_X8_answers
theorem dX8_drink_0 : decode cX8_drink 0 = .ok (.aload_n 0, 1) := by decide +kernel
theorem dX8_drink_1 : decode cX8_drink 1 = .ok (.iload_n 1, 1) := by decide +kernel
theorem dX8_drink_2 : decode cX8_drink 2 = .ok (.invokevirtual 64, 3) := by decide +kernel
theorem dX8_drink_5 : decode cX8_drink 5 = .ok (.ifCond .eq 11, 3) := by decide +kernel
theorem dX8_drink_8 : decode cX8_drink 8 = .ok (.aload_n 0, 1) := by decide +kernel
theorem dX8_drink_9 : decode cX8_drink 9 = .ok (.iload_n 2, 1) := by decide +kernel
theorem dX8_drink_10 : decode cX8_drink 10 = .ok (.invokevirtual 78, 3) := by decide +kernel
theorem dX8_drink_13 : decode cX8_drink 13 = .ok (.ifCond .ne 5, 3) := by decide +kernel
theorem dX8_drink_16 : decode cX8_drink 16 = .ok (.iconst (-1), 1) := by decide +kernel
theorem dX8_drink_17 : decode cX8_drink 17 = .ok (.ireturn, 1) := by decide +kernel
theorem dX8_drink_18 : decode cX8_drink 18 = .ok (.aload_n 0, 1) := by decide +kernel
theorem dX8_drink_19 : decode cX8_drink 19 = .ok (.getfield 23, 3) := by decide +kernel
theorem dX8_drink_22 : decode cX8_drink 22 = .ok (.iconst 0, 1) := by decide +kernel
theorem dX8_drink_23 : decode cX8_drink 23 = .ok (.iaload, 1) := by decide +kernel
theorem dX8_drink_24 : decode cX8_drink 24 = .ok (.sipush 9999, 3) := by decide +kernel
theorem dX8_drink_27 : decode cX8_drink 27 = .ok (.if_icmp .ne 6, 3) := by decide +kernel
theorem dX8_drink_30 : decode cX8_drink 30 = .ok (.bipush (-3), 2) := by decide +kernel
theorem dX8_drink_32 : decode cX8_drink 32 = .ok (.ireturn, 1) := by decide +kernel
theorem dX8_drink_33 : decode cX8_drink 33 = .ok (.aload_n 0, 1) := by decide +kernel
theorem dX8_drink_34 : decode cX8_drink 34 = .ok (.getfield 23, 3) := by decide +kernel
theorem dX8_drink_37 : decode cX8_drink 37 = .ok (.iconst 3, 1) := by decide +kernel
theorem dX8_drink_38 : decode cX8_drink 38 = .ok (.iaload, 1) := by decide +kernel
theorem dX8_drink_39 : decode cX8_drink 39 = .ok (.bipush (-4), 2) := by decide +kernel
theorem dX8_drink_41 : decode cX8_drink 41 = .ok (.if_icmp .ne 6, 3) := by decide +kernel
theorem dX8_drink_44 : decode cX8_drink 44 = .ok (.bipush (-2), 2) := by decide +kernel
theorem dX8_drink_46 : decode cX8_drink 46 = .ok (.ireturn, 1) := by decide +kernel
theorem dX8_drink_47 : decode cX8_drink 47 = .ok (.aload_n 0, 1) := by decide +kernel
theorem dX8_drink_48 : decode cX8_drink 48 = .ok (.invokevirtual 125, 3) := by decide +kernel
theorem dX8_drink_51 : decode cX8_drink 51 = .ok (.aload_n 0, 1) := by decide +kernel
theorem dX8_drink_52 : decode cX8_drink 52 = .ok (.getfield 23, 3) := by decide +kernel
theorem dX8_drink_55 : decode cX8_drink 55 = .ok (.iload_n 1, 1) := by decide +kernel
theorem dX8_drink_56 : decode cX8_drink 56 = .ok (.iload_n 2, 1) := by decide +kernel
theorem dX8_drink_57 : decode cX8_drink 57 = .ok (.aload_n 0, 1) := by decide +kernel
theorem dX8_drink_58 : decode cX8_drink 58 = .ok (.getfield 23, 3) := by decide +kernel
theorem dX8_drink_61 : decode cX8_drink 61 = .ok (.iconst 3, 1) := by decide +kernel
theorem dX8_drink_62 : decode cX8_drink 62 = .ok (.iaload, 1) := by decide +kernel
theorem dX8_drink_63 : decode cX8_drink 63 = .ok (.invokestatic 81, 3) := by decide +kernel
theorem dX8_drink_66 : decode cX8_drink 66 = .ok (.istore_n 3, 1) := by decide +kernel
theorem dX8_drink_67 : decode cX8_drink 67 = .ok (.aload_n 0, 1) := by decide +kernel
theorem dX8_drink_68 : decode cX8_drink 68 = .ok (.iload_n 1, 1) := by decide +kernel
theorem dX8_drink_69 : decode cX8_drink 69 = .ok (.iload_n 2, 1) := by decide +kernel
theorem dX8_drink_70 : decode cX8_drink 70 = .ok (.iload_n 3, 1) := by decide +kernel
theorem dX8_drink_71 : decode cX8_drink 71 = .ok (.invokevirtual 128, 3) := by decide +kernel
theorem dX8_drink_74 : decode cX8_drink 74 = .ok (.iload_n 3, 1) := by decide +kernel
theorem dX8_drink_75 : decode cX8_drink 75 = .ok (.ifCond .eq 7, 3) := by decide +kernel
theorem dX8_drink_78 : decode cX8_drink 78 = .ok (.iconst 1, 1) := by decide +kernel
theorem dX8_drink_79 : decode cX8_drink 79 = .ok (.goto 4, 3) := by decide +kernel
theorem dX8_drink_82 : decode cX8_drink 82 = .ok (.iconst 0, 1) := by decide +kernel
theorem dX8_drink_83 : decode cX8_drink 83 = .ok (.ireturn, 1) := by decide +kernel
set_option maxRecDepth 20000 in
theorem ggX8_forget_X8_allOf : GoodIn wsX8_forget wsX8_allOf := goodIn_r _ [5] (by decide +kernel) (by decide +kernel)
set_option maxRecDepth 20000 in
theorem gX8_forget_X8_allOf : GoodIn wsX8_forget (va_wsS RX8 48 yX8_allOf wsX8_allOf) := goodIn_app (goodIn_of _ (by decide +kernel)) ggX8_forget_X8_allOf
set_option maxRecDepth 20000 in
theorem ggX8_forget_X8_note : GoodIn wsX8_forget wsX8_note := goodIn_r _ [9, 1, 10, 11, 4, 12, 13, 14, 15, 16, 17, 18, 19, 20, 21, 22, 23, 24, 25, 26, 27, 28, 29, 30] (by decide +kernel) (by decide +kernel)
set_option maxRecDepth 20000 in
theorem gX8_forget_X8_note : GoodIn wsX8_forget (wsV RX8 125 RX8 yX8_note wsX8_note) := goodIn_app (goodIn_of _ (by decide +kernel)) ggX8_forget_X8_note
theorem dX8_forget_0 : decode cX8_forget 0 = .ok (.aload_n 0, 1) := by decide +kernel
theorem dX8_forget_1 : decode cX8_forget 1 = .ok (.getfield 23, 3) := by decide +kernel
theorem dX8_forget_4 : decode cX8_forget 4 = .ok (.iconst 2, 1) := by decide +kernel
theorem dX8_forget_5 : decode cX8_forget 5 = .ok (.iaload, 1) := by decide +kernel
theorem dX8_forget_6 : decode cX8_forget 6 = .ok (.aload_n 0, 1) := by decide +kernel
theorem dX8_forget_7 : decode cX8_forget 7 = .ok (.getfield 23, 3) := by decide +kernel
theorem dX8_forget_10 : decode cX8_forget 10 = .ok (.invokestatic 48, 3) := by decide +kernel
theorem dX8_forget_13 : decode cX8_forget 13 = .ok (.if_icmp .ne 6, 3) := by decide +kernel
theorem dX8_forget_16 : decode cX8_forget 16 = .ok (.bipush (-2), 2) := by decide +kernel
theorem dX8_forget_18 : decode cX8_forget 18 = .ok (.ireturn, 1) := by decide +kernel
theorem dX8_forget_19 : decode cX8_forget 19 = .ok (.aload_n 0, 1) := by decide +kernel
theorem dX8_forget_20 : decode cX8_forget 20 = .ok (.invokevirtual 125, 3) := by decide +kernel
theorem dX8_forget_23 : decode cX8_forget 23 = .ok (.aload_n 0, 1) := by decide +kernel
theorem dX8_forget_24 : decode cX8_forget 24 = .ok (.getfield 23, 3) := by decide +kernel
theorem dX8_forget_27 : decode cX8_forget 27 = .ok (.iconst 2, 1) := by decide +kernel
theorem dX8_forget_28 : decode cX8_forget 28 = .ok (.aload_n 0, 1) := by decide +kernel
theorem dX8_forget_29 : decode cX8_forget 29 = .ok (.getfield 23, 3) := by decide +kernel
theorem dX8_forget_32 : decode cX8_forget 32 = .ok (.invokestatic 48, 3) := by decide +kernel
theorem dX8_forget_35 : decode cX8_forget 35 = .ok (.iastore, 1) := by decide +kernel
theorem dX8_forget_36 : decode cX8_forget 36 = .ok (.aload_n 0, 1) := by decide +kernel
theorem dX8_forget_37 : decode cX8_forget 37 = .ok (.getfield 23, 3) := by decide +kernel
theorem dX8_forget_40 : decode cX8_forget 40 = .ok (.iconst 4, 1) := by decide +kernel
theorem dX8_forget_41 : decode cX8_forget 41 = .ok (.iaload, 1) := by decide +kernel
theorem dX8_forget_42 : decode cX8_forget 42 = .ok (.ireturn, 1) := by decide +kernel
set_option maxRecDepth 20000 in
theorem ggX8_bear_X8_isCow : GoodIn wsX8_bear wsX8_isCow := goodIn_r _ [6, 1, 7, 8, 5, 9, 17, 18, 19, 20, 21, 22, 23, 24, 25, 26, 27, 28, 29, 30, 31, 32, 33, 34] (by decide +kernel) (by decide +kernel)
set_option maxRecDepth 20000 in
theorem gX8_bear_X8_isCow : GoodIn wsX8_bear (wsV RX8 60 RX8 yX8_isCow wsX8_isCow) := goodIn_app (goodIn_of _ (by decide +kernel)) ggX8_bear_X8_isCow
set_option maxRecDepth 20000 in
theorem ggX8_bear_X8_note : GoodIn wsX8_bear wsX8_note := goodIn_r _ [13, 1, 14, 15, 5, 16, 17, 18, 19, 20, 21, 22, 23, 24, 25, 26, 27, 28, 29, 30, 31, 32, 33, 34] (by decide +kernel) (by decide +kernel)
set_option maxRecDepth 20000 in
theorem gX8_bear_X8_note : GoodIn wsX8_bear (wsV RX8 125 RX8 yX8_note wsX8_note) := goodIn_app (goodIn_of _ (by decide +kernel)) ggX8_bear_X8_note
theorem dX8_bear_0 : decode cX8_bear 0 = .ok (.iload_n 1, 1) := by decide +kernel
theorem dX8_bear_1 : decode cX8_bear 1 = .ok (.bipush (-4), 2) := by decide +kernel
theorem dX8_bear_3 : decode cX8_bear 3 = .ok (.if_icmp .eq 13, 3) := by decide +kernel
theorem dX8_bear_6 : decode cX8_bear 6 = .ok (.aload_n 0, 1) := by decide +kernel
theorem dX8_bear_7 : decode cX8_bear 7 = .ok (.iload_n 1, 1) := by decide +kernel
theorem dX8_bear_8 : decode cX8_bear 8 = .ok (.invokevirtual 60, 3) := by decide +kernel
theorem dX8_bear_11 : decode cX8_bear 11 = .ok (.ifCond .ne 5, 3) := by decide +kernel
theorem dX8_bear_14 : decode cX8_bear 14 = .ok (.iconst (-1), 1) := by decide +kernel
theorem dX8_bear_15 : decode cX8_bear 15 = .ok (.ireturn, 1) := by decide +kernel
theorem dX8_bear_16 : decode cX8_bear 16 = .ok (.aload_n 0, 1) := by decide +kernel
theorem dX8_bear_17 : decode cX8_bear 17 = .ok (.getfield 23, 3) := by decide +kernel
theorem dX8_bear_20 : decode cX8_bear 20 = .ok (.iconst 3, 1) := by decide +kernel
theorem dX8_bear_21 : decode cX8_bear 21 = .ok (.iaload, 1) := by decide +kernel
theorem dX8_bear_22 : decode cX8_bear 22 = .ok (.istore_n 2, 1) := by decide +kernel
theorem dX8_bear_23 : decode cX8_bear 23 = .ok (.iload_n 2, 1) := by decide +kernel
theorem dX8_bear_24 : decode cX8_bear 24 = .ok (.iload_n 1, 1) := by decide +kernel
theorem dX8_bear_25 : decode cX8_bear 25 = .ok (.if_icmp .ne 6, 3) := by decide +kernel
theorem dX8_bear_28 : decode cX8_bear 28 = .ok (.bipush (-2), 2) := by decide +kernel
theorem dX8_bear_30 : decode cX8_bear 30 = .ok (.ireturn, 1) := by decide +kernel
theorem dX8_bear_31 : decode cX8_bear 31 = .ok (.aload_n 0, 1) := by decide +kernel
theorem dX8_bear_32 : decode cX8_bear 32 = .ok (.invokevirtual 125, 3) := by decide +kernel
theorem dX8_bear_35 : decode cX8_bear 35 = .ok (.aload_n 0, 1) := by decide +kernel
theorem dX8_bear_36 : decode cX8_bear 36 = .ok (.getfield 23, 3) := by decide +kernel
theorem dX8_bear_39 : decode cX8_bear 39 = .ok (.iconst 3, 1) := by decide +kernel
theorem dX8_bear_40 : decode cX8_bear 40 = .ok (.iload_n 1, 1) := by decide +kernel
theorem dX8_bear_41 : decode cX8_bear 41 = .ok (.iastore, 1) := by decide +kernel
theorem dX8_bear_42 : decode cX8_bear 42 = .ok (.iload_n 2, 1) := by decide +kernel
theorem dX8_bear_43 : decode cX8_bear 43 = .ok (.ireturn, 1) := by decide +kernel
