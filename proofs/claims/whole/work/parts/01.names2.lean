set_option maxRecDepth 20000 in
theorem ggX0_init_X1_init : GoodIn wsX0_init wsX1_init := goodIn_r _ [18, 19, 2, 3, 20, 21, 22, 23, 33, 34, 35, 36] (by decide +kernel) (by decide +kernel)
set_option maxRecDepth 20000 in
theorem gX0_init_X1_init_n30 : GoodIn wsX0_init (wsX1_init) := ggX0_init_X1_init
theorem dX0_init_0 : decode cX0_init 0 = .ok (.aload_n 0, 1) := by decide +kernel
theorem dX0_init_1 : decode cX0_init 1 = .ok (.invokespecial 5, 3) := by decide +kernel
theorem dX0_init_4 : decode cX0_init 4 = .ok (.aload_n 0, 1) := by decide +kernel
theorem dX0_init_5 : decode cX0_init 5 = .ok (.bipush 8, 2) := by decide +kernel
theorem dX0_init_7 : decode cX0_init 7 = .ok (.newarray .int, 2) := by decide +kernel
theorem dX0_init_9 : decode cX0_init 9 = .ok (.putfield 11, 3) := by decide +kernel
theorem dX0_init_12 : decode cX0_init 12 = .ok (.aload_n 0, 1) := by decide +kernel
theorem dX0_init_13 : decode cX0_init 13 = .ok (.iconst 0, 1) := by decide +kernel
theorem dX0_init_14 : decode cX0_init 14 = .ok (.putfield 15, 3) := by decide +kernel
theorem dX0_init_17 : decode cX0_init 17 = .ok (.aload_n 0, 1) := by decide +kernel
theorem dX0_init_18 : decode cX0_init 18 = .ok (.iconst 4, 1) := by decide +kernel
theorem dX0_init_19 : decode cX0_init 19 = .ok (.newarray .int, 2) := by decide +kernel
theorem dX0_init_21 : decode cX0_init 21 = .ok (.putfield 19, 3) := by decide +kernel
theorem dX0_init_24 : decode cX0_init 24 = .ok (.aload_n 0, 1) := by decide +kernel
theorem dX0_init_25 : decode cX0_init 25 = .ok (.iconst 4, 1) := by decide +kernel
theorem dX0_init_26 : decode cX0_init 26 = .ok (.newarray .int, 2) := by decide +kernel
theorem dX0_init_28 : decode cX0_init 28 = .ok (.putfield 22, 3) := by decide +kernel
theorem dX0_init_31 : decode cX0_init 31 = .ok (.aload_n 0, 1) := by decide +kernel
theorem dX0_init_32 : decode cX0_init 32 = .ok (.iconst 0, 1) := by decide +kernel
theorem dX0_init_33 : decode cX0_init 33 = .ok (.putfield 25, 3) := by decide +kernel
theorem dX0_init_36 : decode cX0_init 36 = .ok (.aload_n 0, 1) := by decide +kernel
theorem dX0_init_37 : decode cX0_init 37 = .ok (.new 28, 3) := by decide +kernel
theorem dX0_init_40 : decode cX0_init 40 = .ok (.dup, 1) := by decide +kernel
theorem dX0_init_41 : decode cX0_init 41 = .ok (.invokespecial 30, 3) := by decide +kernel
theorem dX0_init_44 : decode cX0_init 44 = .ok (.putfield 31, 3) := by decide +kernel
theorem dX0_init_47 : decode cX0_init 47 = .ok (.aload_n 0, 1) := by decide +kernel
theorem dX0_init_48 : decode cX0_init 48 = .ok (.bipush 8, 2) := by decide +kernel
theorem dX0_init_50 : decode cX0_init 50 = .ok (.anewarray 28, 3) := by decide +kernel
theorem dX0_init_53 : decode cX0_init 53 = .ok (.putfield 35, 3) := by decide +kernel
theorem dX0_init_56 : decode cX0_init 56 = .ok (.aload_n 0, 1) := by decide +kernel
theorem dX0_init_57 : decode cX0_init 57 = .ok (.iconst 0, 1) := by decide +kernel
theorem dX0_init_58 : decode cX0_init 58 = .ok (.putfield 39, 3) := by decide +kernel
theorem dX0_init_61 : decode cX0_init 61 = .ok (.aload_n 0, 1) := by decide +kernel
theorem dX0_init_62 : decode cX0_init 62 = .ok (.iconst 0, 1) := by decide +kernel
theorem dX0_init_63 : decode cX0_init 63 = .ok (.putfield 42, 3) := by decide +kernel
theorem dX0_init_66 : decode cX0_init 66 = .ok (.iconst 0, 1) := by decide +kernel
theorem dX0_init_67 : decode cX0_init 67 = .ok (.istore_n 1, 1) := by decide +kernel
theorem dX0_init_68 : decode cX0_init 68 = .ok (.iload_n 1, 1) := by decide +kernel
theorem dX0_init_69 : decode cX0_init 69 = .ok (.aload_n 0, 1) := by decide +kernel
theorem dX0_init_70 : decode cX0_init 70 = .ok (.getfield 35, 3) := by decide +kernel
theorem dX0_init_73 : decode cX0_init 73 = .ok (.arraylength, 1) := by decide +kernel
theorem dX0_init_74 : decode cX0_init 74 = .ok (.if_icmp .ge 22, 3) := by decide +kernel
theorem dX0_init_77 : decode cX0_init 77 = .ok (.aload_n 0, 1) := by decide +kernel
theorem dX0_init_78 : decode cX0_init 78 = .ok (.getfield 35, 3) := by decide +kernel
theorem dX0_init_81 : decode cX0_init 81 = .ok (.iload_n 1, 1) := by decide +kernel
theorem dX0_init_82 : decode cX0_init 82 = .ok (.new 28, 3) := by decide +kernel
theorem dX0_init_85 : decode cX0_init 85 = .ok (.dup, 1) := by decide +kernel
theorem dX0_init_86 : decode cX0_init 86 = .ok (.invokespecial 30, 3) := by decide +kernel
theorem dX0_init_89 : decode cX0_init 89 = .ok (.aastore, 1) := by decide +kernel
theorem dX0_init_90 : decode cX0_init 90 = .ok (.iinc 1 1, 3) := by decide +kernel
theorem dX0_init_93 : decode cX0_init 93 = .ok (.goto (-25), 3) := by decide +kernel
theorem dX0_init_96 : decode cX0_init 96 = .ok (.return_, 1) := by decide +kernel
set_option maxRecDepth 20000 in
theorem ggX0_becomeLike_X1_becomeLike : GoodIn wsX0_becomeLike wsX1_becomeLike := goodIn_r _ [18, 19, 20, 21, 22, 32, 33, 34, 35] (by decide +kernel) (by decide +kernel)
set_option maxRecDepth 20000 in
theorem gX0_becomeLike_X1_becomeLike : GoodIn wsX0_becomeLike (wsV RX0 51 RX1 yX1_becomeLike wsX1_becomeLike) := goodIn_app (goodIn_of _ (by decide +kernel)) ggX0_becomeLike_X1_becomeLike
theorem dX0_becomeLike_0 : decode cX0_becomeLike 0 = .ok (.aload_n 1, 1) := by decide +kernel
theorem dX0_becomeLike_1 : decode cX0_becomeLike 1 = .ok (.getfield 11, 3) := by decide +kernel
theorem dX0_becomeLike_4 : decode cX0_becomeLike 4 = .ok (.iconst 0, 1) := by decide +kernel
theorem dX0_becomeLike_5 : decode cX0_becomeLike 5 = .ok (.aload_n 0, 1) := by decide +kernel
theorem dX0_becomeLike_6 : decode cX0_becomeLike 6 = .ok (.getfield 11, 3) := by decide +kernel
theorem dX0_becomeLike_9 : decode cX0_becomeLike 9 = .ok (.iconst 0, 1) := by decide +kernel
theorem dX0_becomeLike_10 : decode cX0_becomeLike 10 = .ok (.bipush 8, 2) := by decide +kernel
theorem dX0_becomeLike_12 : decode cX0_becomeLike 12 = .ok (.invokestatic 45, 3) := by decide +kernel
theorem dX0_becomeLike_15 : decode cX0_becomeLike 15 = .ok (.aload_n 1, 1) := by decide +kernel
theorem dX0_becomeLike_16 : decode cX0_becomeLike 16 = .ok (.getfield 19, 3) := by decide +kernel
theorem dX0_becomeLike_19 : decode cX0_becomeLike 19 = .ok (.iconst 0, 1) := by decide +kernel
theorem dX0_becomeLike_20 : decode cX0_becomeLike 20 = .ok (.aload_n 0, 1) := by decide +kernel
theorem dX0_becomeLike_21 : decode cX0_becomeLike 21 = .ok (.getfield 19, 3) := by decide +kernel
theorem dX0_becomeLike_24 : decode cX0_becomeLike 24 = .ok (.iconst 0, 1) := by decide +kernel
theorem dX0_becomeLike_25 : decode cX0_becomeLike 25 = .ok (.iconst 4, 1) := by decide +kernel
theorem dX0_becomeLike_26 : decode cX0_becomeLike 26 = .ok (.invokestatic 45, 3) := by decide +kernel
theorem dX0_becomeLike_29 : decode cX0_becomeLike 29 = .ok (.aload_n 1, 1) := by decide +kernel
theorem dX0_becomeLike_30 : decode cX0_becomeLike 30 = .ok (.getfield 22, 3) := by decide +kernel
theorem dX0_becomeLike_33 : decode cX0_becomeLike 33 = .ok (.iconst 0, 1) := by decide +kernel
theorem dX0_becomeLike_34 : decode cX0_becomeLike 34 = .ok (.aload_n 0, 1) := by decide +kernel
theorem dX0_becomeLike_35 : decode cX0_becomeLike 35 = .ok (.getfield 22, 3) := by decide +kernel
theorem dX0_becomeLike_38 : decode cX0_becomeLike 38 = .ok (.iconst 0, 1) := by decide +kernel
theorem dX0_becomeLike_39 : decode cX0_becomeLike 39 = .ok (.iconst 4, 1) := by decide +kernel
theorem dX0_becomeLike_40 : decode cX0_becomeLike 40 = .ok (.invokestatic 45, 3) := by decide +kernel
theorem dX0_becomeLike_43 : decode cX0_becomeLike 43 = .ok (.aload_n 0, 1) := by decide +kernel
theorem dX0_becomeLike_44 : decode cX0_becomeLike 44 = .ok (.aload_n 1, 1) := by decide +kernel
theorem dX0_becomeLike_45 : decode cX0_becomeLike 45 = .ok (.getfield 15, 3) := by decide +kernel
theorem dX0_becomeLike_48 : decode cX0_becomeLike 48 = .ok (.putfield 15, 3) := by decide +kernel
theorem dX0_becomeLike_51 : decode cX0_becomeLike 51 = .ok (.aload_n 0, 1) := by decide +kernel
theorem dX0_becomeLike_52 : decode cX0_becomeLike 52 = .ok (.aload_n 1, 1) := by decide +kernel
theorem dX0_becomeLike_53 : decode cX0_becomeLike 53 = .ok (.getfield 25, 3) := by decide +kernel
theorem dX0_becomeLike_56 : decode cX0_becomeLike 56 = .ok (.putfield 25, 3) := by decide +kernel
theorem dX0_becomeLike_59 : decode cX0_becomeLike 59 = .ok (.aload_n 0, 1) := by decide +kernel
theorem dX0_becomeLike_60 : decode cX0_becomeLike 60 = .ok (.getfield 31, 3) := by decide +kernel
theorem dX0_becomeLike_63 : decode cX0_becomeLike 63 = .ok (.aload_n 1, 1) := by decide +kernel
theorem dX0_becomeLike_64 : decode cX0_becomeLike 64 = .ok (.getfield 31, 3) := by decide +kernel
theorem dX0_becomeLike_67 : decode cX0_becomeLike 67 = .ok (.invokevirtual 51, 3) := by decide +kernel
theorem dX0_becomeLike_70 : decode cX0_becomeLike 70 = .ok (.iconst 0, 1) := by decide +kernel
theorem dX0_becomeLike_71 : decode cX0_becomeLike 71 = .ok (.istore_n 2, 1) := by decide +kernel
theorem dX0_becomeLike_72 : decode cX0_becomeLike 72 = .ok (.iload_n 2, 1) := by decide +kernel
theorem dX0_becomeLike_73 : decode cX0_becomeLike 73 = .ok (.bipush 8, 2) := by decide +kernel
theorem dX0_becomeLike_75 : decode cX0_becomeLike 75 = .ok (.if_icmp .ge 24, 3) := by decide +kernel
theorem dX0_becomeLike_78 : decode cX0_becomeLike 78 = .ok (.aload_n 0, 1) := by decide +kernel
theorem dX0_becomeLike_79 : decode cX0_becomeLike 79 = .ok (.getfield 35, 3) := by decide +kernel
theorem dX0_becomeLike_82 : decode cX0_becomeLike 82 = .ok (.iload_n 2, 1) := by decide +kernel
theorem dX0_becomeLike_83 : decode cX0_becomeLike 83 = .ok (.aaload, 1) := by decide +kernel
theorem dX0_becomeLike_84 : decode cX0_becomeLike 84 = .ok (.aload_n 1, 1) := by decide +kernel
theorem dX0_becomeLike_85 : decode cX0_becomeLike 85 = .ok (.getfield 35, 3) := by decide +kernel
theorem dX0_becomeLike_88 : decode cX0_becomeLike 88 = .ok (.iload_n 2, 1) := by decide +kernel
theorem dX0_becomeLike_89 : decode cX0_becomeLike 89 = .ok (.aaload, 1) := by decide +kernel
theorem dX0_becomeLike_90 : decode cX0_becomeLike 90 = .ok (.invokevirtual 51, 3) := by decide +kernel
theorem dX0_becomeLike_93 : decode cX0_becomeLike 93 = .ok (.iinc 2 1, 3) := by decide +kernel
theorem dX0_becomeLike_96 : decode cX0_becomeLike 96 = .ok (.goto (-24), 3) := by decide +kernel
theorem dX0_becomeLike_99 : decode cX0_becomeLike 99 = .ok (.aload_n 0, 1) := by decide +kernel
theorem dX0_becomeLike_100 : decode cX0_becomeLike 100 = .ok (.aload_n 1, 1) := by decide +kernel
theorem dX0_becomeLike_101 : decode cX0_becomeLike 101 = .ok (.getfield 39, 3) := by decide +kernel
theorem dX0_becomeLike_104 : decode cX0_becomeLike 104 = .ok (.putfield 39, 3) := by decide +kernel
theorem dX0_becomeLike_107 : decode cX0_becomeLike 107 = .ok (.aload_n 0, 1) := by decide +kernel
theorem dX0_becomeLike_108 : decode cX0_becomeLike 108 = .ok (.aload_n 1, 1) := by decide +kernel
theorem dX0_becomeLike_109 : decode cX0_becomeLike 109 = .ok (.getfield 42, 3) := by decide +kernel
theorem dX0_becomeLike_112 : decode cX0_becomeLike 112 = .ok (.putfield 42, 3) := by decide +kernel
theorem dX0_becomeLike_115 : decode cX0_becomeLike 115 = .ok (.return_, 1) := by decide +kernel
theorem dX0_addCow_0 : decode cX0_addCow 0 = .ok (.aload_n 0, 1) := by decide +kernel
theorem dX0_addCow_1 : decode cX0_addCow 1 = .ok (.getfield 11, 3) := by decide +kernel
theorem dX0_addCow_4 : decode cX0_addCow 4 = .ok (.aload_n 0, 1) := by decide +kernel
theorem dX0_addCow_5 : decode cX0_addCow 5 = .ok (.getfield 15, 3) := by decide +kernel
theorem dX0_addCow_8 : decode cX0_addCow 8 = .ok (.iload_n 1, 1) := by decide +kernel
theorem dX0_addCow_9 : decode cX0_addCow 9 = .ok (.iastore, 1) := by decide +kernel
theorem dX0_addCow_10 : decode cX0_addCow 10 = .ok (.aload_n 0, 1) := by decide +kernel
theorem dX0_addCow_11 : decode cX0_addCow 11 = .ok (.dup, 1) := by decide +kernel
theorem dX0_addCow_12 : decode cX0_addCow 12 = .ok (.getfield 15, 3) := by decide +kernel
theorem dX0_addCow_15 : decode cX0_addCow 15 = .ok (.iconst 1, 1) := by decide +kernel
theorem dX0_addCow_16 : decode cX0_addCow 16 = .ok (.iadd, 1) := by decide +kernel
theorem dX0_addCow_17 : decode cX0_addCow 17 = .ok (.putfield 15, 3) := by decide +kernel
theorem dX0_addCow_20 : decode cX0_addCow 20 = .ok (.return_, 1) := by decide +kernel
theorem dX0_addTaster_0 : decode cX0_addTaster 0 = .ok (.aload_n 0, 1) := by decide +kernel
theorem dX0_addTaster_1 : decode cX0_addTaster 1 = .ok (.getfield 19, 3) := by decide +kernel
theorem dX0_addTaster_4 : decode cX0_addTaster 4 = .ok (.aload_n 0, 1) := by decide +kernel
theorem dX0_addTaster_5 : decode cX0_addTaster 5 = .ok (.getfield 25, 3) := by decide +kernel
theorem dX0_addTaster_8 : decode cX0_addTaster 8 = .ok (.iload_n 1, 1) := by decide +kernel
theorem dX0_addTaster_9 : decode cX0_addTaster 9 = .ok (.iastore, 1) := by decide +kernel
theorem dX0_addTaster_10 : decode cX0_addTaster 10 = .ok (.aload_n 0, 1) := by decide +kernel
theorem dX0_addTaster_11 : decode cX0_addTaster 11 = .ok (.getfield 22, 3) := by decide +kernel
theorem dX0_addTaster_14 : decode cX0_addTaster 14 = .ok (.aload_n 0, 1) := by decide +kernel
theorem dX0_addTaster_15 : decode cX0_addTaster 15 = .ok (.getfield 25, 3) := by decide +kernel
theorem dX0_addTaster_18 : decode cX0_addTaster 18 = .ok (.iload_n 2, 1) := by decide +kernel
theorem dX0_addTaster_19 : decode cX0_addTaster 19 = .ok (.iastore, 1) := by decide +kernel
theorem dX0_addTaster_20 : decode cX0_addTaster 20 = .ok (.aload_n 0, 1) := by decide +kernel
theorem dX0_addTaster_21 : decode cX0_addTaster 21 = .ok (.dup, 1) := by decide +kernel
theorem dX0_addTaster_22 : decode cX0_addTaster 22 = .ok (.getfield 25, 3) := by decide +kernel
theorem dX0_addTaster_25 : decode cX0_addTaster 25 = .ok (.iconst 1, 1) := by decide +kernel
theorem dX0_addTaster_26 : decode cX0_addTaster 26 = .ok (.iadd, 1) := by decide +kernel
theorem dX0_addTaster_27 : decode cX0_addTaster 27 = .ok (.putfield 25, 3) := by decide +kernel
theorem dX0_addTaster_30 : decode cX0_addTaster 30 = .ok (.return_, 1) := by decide +kernel
set_option maxRecDepth 20000 in
theorem ggX0_settle_X0_addCow : GoodIn wsX0_settle wsX0_addCow := goodIn_r _ [18, 19, 1, 30, 31, 32, 33, 34, 35, 36, 37, 38] (by decide +kernel) (by decide +kernel)
set_option maxRecDepth 20000 in
theorem gX0_settle_X0_addCow : GoodIn wsX0_settle (wsV RX0 59 RX0 yX0_addCow wsX0_addCow) := goodIn_app (goodIn_of _ (by decide +kernel)) ggX0_settle_X0_addCow
set_option maxRecDepth 20000 in
theorem ggX0_settle_X0_addTaster : GoodIn wsX0_settle wsX0_addTaster := goodIn_r _ [23, 24, 4, 25, 30, 31, 32, 33, 34, 35, 36, 37, 38] (by decide +kernel) (by decide +kernel)
set_option maxRecDepth 20000 in
theorem gX0_settle_X0_addTaster : GoodIn wsX0_settle (wsV RX0 66 RX0 yX0_addTaster wsX0_addTaster) := goodIn_app (goodIn_of _ (by decide +kernel)) ggX0_settle_X0_addTaster
set_option maxRecDepth 20000 in
theorem ggX0_settle_X0_allCows : GoodIn wsX0_settle wsX0_allCows := goodIn_r _ [29, 1, 30, 31, 32, 33, 34, 35, 36, 37, 38] (by decide +kernel) (by decide +kernel)
set_option maxRecDepth 20000 in
theorem gX0_settle_X0_allCows : GoodIn wsX0_settle (wsV RX0 70 RX0 yX0_allCows wsX0_allCows) := goodIn_app (goodIn_of _ (by decide +kernel)) ggX0_settle_X0_allCows
theorem dX0_settle_0 : decode cX0_settle 0 = .ok (.aload_n 0, 1) := by decide +kernel
theorem dX0_settle_1 : decode cX0_settle 1 = .ok (.iconst 0, 1) := by decide +kernel
theorem dX0_settle_2 : decode cX0_settle 2 = .ok (.putfield 15, 3) := by decide +kernel
theorem dX0_settle_5 : decode cX0_settle 5 = .ok (.iconst 0, 1) := by decide +kernel
theorem dX0_settle_6 : decode cX0_settle 6 = .ok (.istore_n 2, 1) := by decide +kernel
theorem dX0_settle_7 : decode cX0_settle 7 = .ok (.iload_n 2, 1) := by decide +kernel
theorem dX0_settle_8 : decode cX0_settle 8 = .ok (.aload_n 1, 1) := by decide +kernel
theorem dX0_settle_9 : decode cX0_settle 9 = .ok (.getfield 55, 3) := by decide +kernel
theorem dX0_settle_12 : decode cX0_settle 12 = .ok (.if_icmp .ge 19, 3) := by decide +kernel
theorem dX0_settle_15 : decode cX0_settle 15 = .ok (.aload_n 0, 1) := by decide +kernel
theorem dX0_settle_16 : decode cX0_settle 16 = .ok (.aload_n 1, 1) := by decide +kernel
theorem dX0_settle_17 : decode cX0_settle 17 = .ok (.getfield 58, 3) := by decide +kernel
theorem dX0_settle_20 : decode cX0_settle 20 = .ok (.iload_n 2, 1) := by decide +kernel
theorem dX0_settle_21 : decode cX0_settle 21 = .ok (.iaload, 1) := by decide +kernel
theorem dX0_settle_22 : decode cX0_settle 22 = .ok (.invokevirtual 59, 3) := by decide +kernel
theorem dX0_settle_25 : decode cX0_settle 25 = .ok (.iinc 2 1, 3) := by decide +kernel
theorem dX0_settle_28 : decode cX0_settle 28 = .ok (.goto (-21), 3) := by decide +kernel
theorem dX0_settle_31 : decode cX0_settle 31 = .ok (.aload_n 0, 1) := by decide +kernel
theorem dX0_settle_32 : decode cX0_settle 32 = .ok (.iconst 0, 1) := by decide +kernel
theorem dX0_settle_33 : decode cX0_settle 33 = .ok (.putfield 25, 3) := by decide +kernel
theorem dX0_settle_36 : decode cX0_settle 36 = .ok (.iconst 0, 1) := by decide +kernel
theorem dX0_settle_37 : decode cX0_settle 37 = .ok (.istore_n 2, 1) := by decide +kernel
theorem dX0_settle_38 : decode cX0_settle 38 = .ok (.iload_n 2, 1) := by decide +kernel
theorem dX0_settle_39 : decode cX0_settle 39 = .ok (.aload_n 1, 1) := by decide +kernel
theorem dX0_settle_40 : decode cX0_settle 40 = .ok (.getfield 63, 3) := by decide +kernel
theorem dX0_settle_43 : decode cX0_settle 43 = .ok (.if_icmp .ge 25, 3) := by decide +kernel
theorem dX0_settle_46 : decode cX0_settle 46 = .ok (.aload_n 0, 1) := by decide +kernel
theorem dX0_settle_47 : decode cX0_settle 47 = .ok (.aload_n 1, 1) := by decide +kernel
theorem dX0_settle_48 : decode cX0_settle 48 = .ok (.getfield 64, 3) := by decide +kernel
theorem dX0_settle_51 : decode cX0_settle 51 = .ok (.iload_n 2, 1) := by decide +kernel
theorem dX0_settle_52 : decode cX0_settle 52 = .ok (.iaload, 1) := by decide +kernel
theorem dX0_settle_53 : decode cX0_settle 53 = .ok (.aload_n 1, 1) := by decide +kernel
theorem dX0_settle_54 : decode cX0_settle 54 = .ok (.getfield 65, 3) := by decide +kernel
theorem dX0_settle_57 : decode cX0_settle 57 = .ok (.iload_n 2, 1) := by decide +kernel
theorem dX0_settle_58 : decode cX0_settle 58 = .ok (.iaload, 1) := by decide +kernel
theorem dX0_settle_59 : decode cX0_settle 59 = .ok (.invokevirtual 66, 3) := by decide +kernel
theorem dX0_settle_62 : decode cX0_settle 62 = .ok (.iinc 2 1, 3) := by decide +kernel
theorem dX0_settle_65 : decode cX0_settle 65 = .ok (.goto (-27), 3) := by decide +kernel
theorem dX0_settle_68 : decode cX0_settle 68 = .ok (.aload_n 0, 1) := by decide +kernel
theorem dX0_settle_69 : decode cX0_settle 69 = .ok (.getfield 31, 3) := by decide +kernel
theorem dX0_settle_72 : decode cX0_settle 72 = .ok (.aload_n 0, 1) := by decide +kernel
theorem dX0_settle_73 : decode cX0_settle 73 = .ok (.invokevirtual 70, 3) := by decide +kernel
theorem dX0_settle_76 : decode cX0_settle 76 = .ok (.putfield 74, 3) := by decide +kernel
theorem dX0_settle_79 : decode cX0_settle 79 = .ok (.aload_n 0, 1) := by decide +kernel
theorem dX0_settle_80 : decode cX0_settle 80 = .ok (.getfield 31, 3) := by decide +kernel
theorem dX0_settle_83 : decode cX0_settle 83 = .ok (.aload_n 1, 1) := by decide +kernel
theorem dX0_settle_84 : decode cX0_settle 84 = .ok (.getfield 77, 3) := by decide +kernel
theorem dX0_settle_87 : decode cX0_settle 87 = .ok (.putfield 80, 3) := by decide +kernel
theorem dX0_settle_90 : decode cX0_settle 90 = .ok (.aload_n 0, 1) := by decide +kernel
theorem dX0_settle_91 : decode cX0_settle 91 = .ok (.getfield 31, 3) := by decide +kernel
theorem dX0_settle_94 : decode cX0_settle 94 = .ok (.iconst 0, 1) := by decide +kernel
theorem dX0_settle_95 : decode cX0_settle 95 = .ok (.putfield 81, 3) := by decide +kernel
theorem dX0_settle_98 : decode cX0_settle 98 = .ok (.aload_n 0, 1) := by decide +kernel
theorem dX0_settle_99 : decode cX0_settle 99 = .ok (.iconst 0, 1) := by decide +kernel
theorem dX0_settle_100 : decode cX0_settle 100 = .ok (.putfield 42, 3) := by decide +kernel
theorem dX0_settle_103 : decode cX0_settle 103 = .ok (.return_, 1) := by decide +kernel
theorem dX0_allCows_0 : decode cX0_allCows 0 = .ok (.iconst 1, 1) := by decide +kernel
theorem dX0_allCows_1 : decode cX0_allCows 1 = .ok (.aload_n 0, 1) := by decide +kernel
theorem dX0_allCows_2 : decode cX0_allCows 2 = .ok (.getfield 15, 3) := by decide +kernel
theorem dX0_allCows_5 : decode cX0_allCows 5 = .ok (.ishl, 1) := by decide +kernel
theorem dX0_allCows_6 : decode cX0_allCows 6 = .ok (.iconst 1, 1) := by decide +kernel
theorem dX0_allCows_7 : decode cX0_allCows 7 = .ok (.isub, 1) := by decide +kernel
theorem dX0_allCows_8 : decode cX0_allCows 8 = .ok (.ireturn, 1) := by decide +kernel
theorem dX0_milkOf_0 : decode cX0_milkOf 0 = .ok (.iconst 0, 1) := by decide +kernel
theorem dX0_milkOf_1 : decode cX0_milkOf 1 = .ok (.istore_n 2, 1) := by decide +kernel
theorem dX0_milkOf_2 : decode cX0_milkOf 2 = .ok (.iconst 0, 1) := by decide +kernel
theorem dX0_milkOf_3 : decode cX0_milkOf 3 = .ok (.istore_n 3, 1) := by decide +kernel
theorem dX0_milkOf_4 : decode cX0_milkOf 4 = .ok (.iload_n 3, 1) := by decide +kernel
theorem dX0_milkOf_5 : decode cX0_milkOf 5 = .ok (.aload_n 0, 1) := by decide +kernel
theorem dX0_milkOf_6 : decode cX0_milkOf 6 = .ok (.getfield 15, 3) := by decide +kernel
theorem dX0_milkOf_9 : decode cX0_milkOf 9 = .ok (.if_icmp .ge 27, 3) := by decide +kernel
theorem dX0_milkOf_12 : decode cX0_milkOf 12 = .ok (.iload_n 1, 1) := by decide +kernel
theorem dX0_milkOf_13 : decode cX0_milkOf 13 = .ok (.iload_n 3, 1) := by decide +kernel
theorem dX0_milkOf_14 : decode cX0_milkOf 14 = .ok (.ishr, 1) := by decide +kernel
theorem dX0_milkOf_15 : decode cX0_milkOf 15 = .ok (.iconst 1, 1) := by decide +kernel
theorem dX0_milkOf_16 : decode cX0_milkOf 16 = .ok (.iand, 1) := by decide +kernel
theorem dX0_milkOf_17 : decode cX0_milkOf 17 = .ok (.iconst 1, 1) := by decide +kernel
theorem dX0_milkOf_18 : decode cX0_milkOf 18 = .ok (.if_icmp .ne 12, 3) := by decide +kernel
theorem dX0_milkOf_21 : decode cX0_milkOf 21 = .ok (.iload_n 2, 1) := by decide +kernel
theorem dX0_milkOf_22 : decode cX0_milkOf 22 = .ok (.aload_n 0, 1) := by decide +kernel
theorem dX0_milkOf_23 : decode cX0_milkOf 23 = .ok (.getfield 11, 3) := by decide +kernel
theorem dX0_milkOf_26 : decode cX0_milkOf 26 = .ok (.iload_n 3, 1) := by decide +kernel
theorem dX0_milkOf_27 : decode cX0_milkOf 27 = .ok (.iaload, 1) := by decide +kernel
theorem dX0_milkOf_28 : decode cX0_milkOf 28 = .ok (.iadd, 1) := by decide +kernel
theorem dX0_milkOf_29 : decode cX0_milkOf 29 = .ok (.istore_n 2, 1) := by decide +kernel
theorem dX0_milkOf_30 : decode cX0_milkOf 30 = .ok (.iinc 3 1, 3) := by decide +kernel
theorem dX0_milkOf_33 : decode cX0_milkOf 33 = .ok (.goto (-29), 3) := by decide +kernel
theorem dX0_milkOf_36 : decode cX0_milkOf 36 = .ok (.iload_n 2, 1) := by decide +kernel
theorem dX0_milkOf_37 : decode cX0_milkOf 37 = .ok (.ireturn, 1) := by decide +kernel
set_option maxRecDepth 20000 in
theorem ggX0_noticedBy_X0_noticedAs : GoodIn wsX0_noticedBy wsX0_noticedAs := goodIn_r _ [7, 8, 9, 10, 11, 12, 6, 13, 14, 15, 16, 17, 18, 19, 20, 21, 22, 23, 24, 25, 26, 27, 28, 29, 30, 31, 32, 33, 34, 35, 36, 37, 38, 39, 40, 41, 42, 43, 44, 45, 46, 47] (by decide +kernel) (by decide +kernel)
set_option maxRecDepth 20000 in
theorem gX0_noticedBy_X0_noticedAs : GoodIn wsX0_noticedBy (wsV RX0 84 RX0 yX0_noticedAs wsX0_noticedAs) := goodIn_app (goodIn_of _ (by decide +kernel)) ggX0_noticedBy_X0_noticedAs
theorem dX0_noticedBy_0 : decode cX0_noticedBy 0 = .ok (.aload_n 0, 1) := by decide +kernel
theorem dX0_noticedBy_1 : decode cX0_noticedBy 1 = .ok (.aload_n 0, 1) := by decide +kernel
theorem dX0_noticedBy_2 : decode cX0_noticedBy 2 = .ok (.getfield 19, 3) := by decide +kernel
theorem dX0_noticedBy_5 : decode cX0_noticedBy 5 = .ok (.iload_n 1, 1) := by decide +kernel
theorem dX0_noticedBy_6 : decode cX0_noticedBy 6 = .ok (.iaload, 1) := by decide +kernel
theorem dX0_noticedBy_7 : decode cX0_noticedBy 7 = .ok (.aload_n 0, 1) := by decide +kernel
theorem dX0_noticedBy_8 : decode cX0_noticedBy 8 = .ok (.getfield 22, 3) := by decide +kernel
theorem dX0_noticedBy_11 : decode cX0_noticedBy 11 = .ok (.iload_n 1, 1) := by decide +kernel
theorem dX0_noticedBy_12 : decode cX0_noticedBy 12 = .ok (.iaload, 1) := by decide +kernel
theorem dX0_noticedBy_13 : decode cX0_noticedBy 13 = .ok (.iload_n 2, 1) := by decide +kernel
theorem dX0_noticedBy_14 : decode cX0_noticedBy 14 = .ok (.invokevirtual 84, 3) := by decide +kernel
theorem dX0_noticedBy_17 : decode cX0_noticedBy 17 = .ok (.ireturn, 1) := by decide +kernel
set_option maxRecDepth 20000 in
theorem ggX0_noticedAs_X0_dull : GoodIn wsX0_noticedAs wsX0_dull := goodIn_r _ [7, 8, 9, 10, 11, 12, 6, 13, 29, 30, 31, 32, 33, 34, 35, 36, 37] (by decide +kernel) (by decide +kernel)
set_option maxRecDepth 20000 in
theorem gX0_noticedAs_X0_dull : GoodIn wsX0_noticedAs (wsV RX0 88 RX0 yX0_dull wsX0_dull) := goodIn_app (goodIn_of _ (by decide +kernel)) ggX0_noticedAs_X0_dull
set_option maxRecDepth 20000 in
theorem ggX0_noticedAs_X0_fanciful : GoodIn wsX0_noticedAs wsX0_fanciful := goodIn_r _ [17, 18, 19, 20, 21, 22, 23, 24, 25, 26, 27, 6, 28, 8, 29, 30, 31, 32, 33, 34, 35, 36, 37] (by decide +kernel) (by decide +kernel)
set_option maxRecDepth 20000 in
theorem gX0_noticedAs_X0_fanciful : GoodIn wsX0_noticedAs (wsV RX0 92 RX0 yX0_fanciful wsX0_fanciful) := goodIn_app (goodIn_of _ (by decide +kernel)) ggX0_noticedAs_X0_fanciful
set_option maxRecDepth 20000 in
theorem ggX0_noticedAs_X0_allCows : GoodIn wsX0_noticedAs wsX0_allCows := goodIn_r _ [28, 8, 29, 30, 31, 32, 33, 34, 35, 36, 37] (by decide +kernel) (by decide +kernel)
set_option maxRecDepth 20000 in
theorem gX0_noticedAs_X0_allCows : GoodIn wsX0_noticedAs (wsV RX0 70 RX0 yX0_allCows wsX0_allCows) := goodIn_app (goodIn_of _ (by decide +kernel)) ggX0_noticedAs_X0_allCows
theorem dX0_noticedAs_0 : decode cX0_noticedAs 0 = .ok (.iload_n 1, 1) := by decide +kernel
theorem dX0_noticedAs_1 : decode cX0_noticedAs 1 = .ok (.tableswitch 103 1 4 #[31, 38, 45, 68], 31) := by decide +kernel
theorem dX0_noticedAs_32 : decode cX0_noticedAs 32 = .ok (.aload_n 0, 1) := by decide +kernel
theorem dX0_noticedAs_33 : decode cX0_noticedAs 33 = .ok (.iload_n 2, 1) := by decide +kernel
theorem dX0_noticedAs_34 : decode cX0_noticedAs 34 = .ok (.iload_n 3, 1) := by decide +kernel
theorem dX0_noticedAs_35 : decode cX0_noticedAs 35 = .ok (.invokevirtual 88, 3) := by decide +kernel
theorem dX0_noticedAs_38 : decode cX0_noticedAs 38 = .ok (.ireturn, 1) := by decide +kernel
theorem dX0_noticedAs_39 : decode cX0_noticedAs 39 = .ok (.aload_n 0, 1) := by decide +kernel
theorem dX0_noticedAs_40 : decode cX0_noticedAs 40 = .ok (.iload_n 2, 1) := by decide +kernel
theorem dX0_noticedAs_41 : decode cX0_noticedAs 41 = .ok (.iload_n 3, 1) := by decide +kernel
theorem dX0_noticedAs_42 : decode cX0_noticedAs 42 = .ok (.invokevirtual 92, 3) := by decide +kernel
theorem dX0_noticedAs_45 : decode cX0_noticedAs 45 = .ok (.ireturn, 1) := by decide +kernel
theorem dX0_noticedAs_46 : decode cX0_noticedAs 46 = .ok (.aload_n 0, 1) := by decide +kernel
theorem dX0_noticedAs_47 : decode cX0_noticedAs 47 = .ok (.getfield 31, 3) := by decide +kernel
theorem dX0_noticedAs_50 : decode cX0_noticedAs 50 = .ok (.getfield 81, 3) := by decide +kernel
theorem dX0_noticedAs_53 : decode cX0_noticedAs 53 = .ok (.iconst 3, 1) := by decide +kernel
theorem dX0_noticedAs_54 : decode cX0_noticedAs 54 = .ok (.irem, 1) := by decide +kernel
theorem dX0_noticedAs_55 : decode cX0_noticedAs 55 = .ok (.ifCond .ne 7, 3) := by decide +kernel
theorem dX0_noticedAs_58 : decode cX0_noticedAs 58 = .ok (.iconst 0, 1) := by decide +kernel
theorem dX0_noticedAs_59 : decode cX0_noticedAs 59 = .ok (.goto 9, 3) := by decide +kernel
theorem dX0_noticedAs_62 : decode cX0_noticedAs 62 = .ok (.aload_n 0, 1) := by decide +kernel
theorem dX0_noticedAs_63 : decode cX0_noticedAs 63 = .ok (.iload_n 2, 1) := by decide +kernel
theorem dX0_noticedAs_64 : decode cX0_noticedAs 64 = .ok (.iload_n 3, 1) := by decide +kernel
theorem dX0_noticedAs_65 : decode cX0_noticedAs 65 = .ok (.invokevirtual 88, 3) := by decide +kernel
theorem dX0_noticedAs_68 : decode cX0_noticedAs 68 = .ok (.ireturn, 1) := by decide +kernel
theorem dX0_noticedAs_69 : decode cX0_noticedAs 69 = .ok (.aload_n 0, 1) := by decide +kernel
theorem dX0_noticedAs_70 : decode cX0_noticedAs 70 = .ok (.getfield 31, 3) := by decide +kernel
theorem dX0_noticedAs_73 : decode cX0_noticedAs 73 = .ok (.getfield 81, 3) := by decide +kernel
theorem dX0_noticedAs_76 : decode cX0_noticedAs 76 = .ok (.iconst 2, 1) := by decide +kernel
theorem dX0_noticedAs_77 : decode cX0_noticedAs 77 = .ok (.irem, 1) := by decide +kernel
theorem dX0_noticedAs_78 : decode cX0_noticedAs 78 = .ok (.ifCond .ne 12, 3) := by decide +kernel
theorem dX0_noticedAs_81 : decode cX0_noticedAs 81 = .ok (.aload_n 0, 1) := by decide +kernel
theorem dX0_noticedAs_82 : decode cX0_noticedAs 82 = .ok (.iload_n 2, 1) := by decide +kernel
theorem dX0_noticedAs_83 : decode cX0_noticedAs 83 = .ok (.iload_n 3, 1) := by decide +kernel
theorem dX0_noticedAs_84 : decode cX0_noticedAs 84 = .ok (.invokevirtual 92, 3) := by decide +kernel
theorem dX0_noticedAs_87 : decode cX0_noticedAs 87 = .ok (.goto 16, 3) := by decide +kernel
theorem dX0_noticedAs_90 : decode cX0_noticedAs 90 = .ok (.aload_n 0, 1) := by decide +kernel
theorem dX0_noticedAs_91 : decode cX0_noticedAs 91 = .ok (.invokevirtual 70, 3) := by decide +kernel
theorem dX0_noticedAs_94 : decode cX0_noticedAs 94 = .ok (.aload_n 0, 1) := by decide +kernel
theorem dX0_noticedAs_95 : decode cX0_noticedAs 95 = .ok (.iload_n 2, 1) := by decide +kernel
theorem dX0_noticedAs_96 : decode cX0_noticedAs 96 = .ok (.iload_n 3, 1) := by decide +kernel
theorem dX0_noticedAs_97 : decode cX0_noticedAs 97 = .ok (.invokevirtual 92, 3) := by decide +kernel
theorem dX0_noticedAs_100 : decode cX0_noticedAs 100 = .ok (.iconst (-1), 1) := by decide +kernel
theorem dX0_noticedAs_101 : decode cX0_noticedAs 101 = .ok (.ixor, 1) := by decide +kernel
theorem dX0_noticedAs_102 : decode cX0_noticedAs 102 = .ok (.iand, 1) := by decide +kernel
theorem dX0_noticedAs_103 : decode cX0_noticedAs 103 = .ok (.ireturn, 1) := by decide +kernel
theorem dX0_noticedAs_104 : decode cX0_noticedAs 104 = .ok (.iload_n 3, 1) := by decide +kernel
theorem dX0_noticedAs_105 : decode cX0_noticedAs 105 = .ok (.ireturn, 1) := by decide +kernel
set_option maxRecDepth 20000 in
theorem ggX0_dull_X0_milkOf : GoodIn wsX0_dull wsX0_milkOf := goodIn_r _ [7, 1, 2, 8, 9, 10, 11, 12, 13, 14, 15, 16] (by decide +kernel) (by decide +kernel)
set_option maxRecDepth 20000 in
theorem gX0_dull_X0_milkOf : GoodIn wsX0_dull (wsV RX0 95 RX0 yX0_milkOf wsX0_milkOf) := goodIn_app (goodIn_of _ (by decide +kernel)) ggX0_dull_X0_milkOf
theorem dX0_dull_0 : decode cX0_dull 0 = .ok (.aload_n 0, 1) := by decide +kernel
theorem dX0_dull_1 : decode cX0_dull 1 = .ok (.iload_n 2, 1) := by decide +kernel
theorem dX0_dull_2 : decode cX0_dull 2 = .ok (.invokevirtual 95, 3) := by decide +kernel
theorem dX0_dull_5 : decode cX0_dull 5 = .ok (.istore_n 3, 1) := by decide +kernel
theorem dX0_dull_6 : decode cX0_dull 6 = .ok (.iconst 0, 1) := by decide +kernel
theorem dX0_dull_7 : decode cX0_dull 7 = .ok (.istore 4, 2) := by decide +kernel
theorem dX0_dull_9 : decode cX0_dull 9 = .ok (.iconst 0, 1) := by decide +kernel
theorem dX0_dull_10 : decode cX0_dull 10 = .ok (.istore 5, 2) := by decide +kernel
theorem dX0_dull_12 : decode cX0_dull 12 = .ok (.iload 5, 2) := by decide +kernel
theorem dX0_dull_14 : decode cX0_dull 14 = .ok (.aload_n 0, 1) := by decide +kernel
theorem dX0_dull_15 : decode cX0_dull 15 = .ok (.getfield 15, 3) := by decide +kernel
theorem dX0_dull_18 : decode cX0_dull 18 = .ok (.if_icmp .ge 31, 3) := by decide +kernel
theorem dX0_dull_21 : decode cX0_dull 21 = .ok (.aload_n 0, 1) := by decide +kernel
theorem dX0_dull_22 : decode cX0_dull 22 = .ok (.getfield 11, 3) := by decide +kernel
theorem dX0_dull_25 : decode cX0_dull 25 = .ok (.iload 5, 2) := by decide +kernel
theorem dX0_dull_27 : decode cX0_dull 27 = .ok (.iaload, 1) := by decide +kernel
theorem dX0_dull_28 : decode cX0_dull 28 = .ok (.iload_n 1, 1) := by decide +kernel
theorem dX0_dull_29 : decode cX0_dull 29 = .ok (.imul, 1) := by decide +kernel
theorem dX0_dull_30 : decode cX0_dull 30 = .ok (.iload_n 3, 1) := by decide +kernel
theorem dX0_dull_31 : decode cX0_dull 31 = .ok (.if_icmp .lt 12, 3) := by decide +kernel
theorem dX0_dull_34 : decode cX0_dull 34 = .ok (.iload 4, 2) := by decide +kernel
theorem dX0_dull_36 : decode cX0_dull 36 = .ok (.iconst 1, 1) := by decide +kernel
theorem dX0_dull_37 : decode cX0_dull 37 = .ok (.iload 5, 2) := by decide +kernel
theorem dX0_dull_39 : decode cX0_dull 39 = .ok (.ishl, 1) := by decide +kernel
theorem dX0_dull_40 : decode cX0_dull 40 = .ok (.ior, 1) := by decide +kernel
theorem dX0_dull_41 : decode cX0_dull 41 = .ok (.istore 4, 2) := by decide +kernel
theorem dX0_dull_43 : decode cX0_dull 43 = .ok (.iinc 5 1, 3) := by decide +kernel
theorem dX0_dull_46 : decode cX0_dull 46 = .ok (.goto (-34), 3) := by decide +kernel
theorem dX0_dull_49 : decode cX0_dull 49 = .ok (.iload 4, 2) := by decide +kernel
theorem dX0_dull_51 : decode cX0_dull 51 = .ok (.iload_n 2, 1) := by decide +kernel
theorem dX0_dull_52 : decode cX0_dull 52 = .ok (.iand, 1) := by decide +kernel
theorem dX0_dull_53 : decode cX0_dull 53 = .ok (.ireturn, 1) := by decide +kernel
set_option maxRecDepth 20000 in
theorem ggX0_fanciful_J6_bitCount_0f7a4 : GoodIn wsX0_fanciful wsJ6_bitCount_0f7a4 := goodIn_r _ [4, 5, 6, 7] (by decide +kernel) (by decide +kernel)
set_option maxRecDepth 20000 in
theorem gX0_fanciful_J6_bitCount_0f7a4 : GoodIn wsX0_fanciful (va_wsS RX0 99 yJ6_bitCount_0f7a4 wsJ6_bitCount_0f7a4) := goodIn_app (goodIn_of _ (by decide +kernel)) ggX0_fanciful_J6_bitCount_0f7a4
set_option maxRecDepth 20000 in
theorem ggX0_fanciful_X0_allCows : GoodIn wsX0_fanciful wsX0_allCows := goodIn_r _ [12, 13, 14, 15, 16, 17, 18, 19, 20, 21, 22] (by decide +kernel) (by decide +kernel)
set_option maxRecDepth 20000 in
theorem gX0_fanciful_X0_allCows : GoodIn wsX0_fanciful (wsV RX0 70 RX0 yX0_allCows wsX0_allCows) := goodIn_app (goodIn_of _ (by decide +kernel)) ggX0_fanciful_X0_allCows
theorem dX0_fanciful_0 : decode cX0_fanciful 0 = .ok (.iload_n 2, 1) := by decide +kernel
theorem dX0_fanciful_1 : decode cX0_fanciful 1 = .ok (.invokestatic 99, 3) := by decide +kernel
theorem dX0_fanciful_4 : decode cX0_fanciful 4 = .ok (.iload_n 1, 1) := by decide +kernel
theorem dX0_fanciful_5 : decode cX0_fanciful 5 = .ok (.if_icmp .le 10, 3) := by decide +kernel
theorem dX0_fanciful_8 : decode cX0_fanciful 8 = .ok (.aload_n 0, 1) := by decide +kernel
theorem dX0_fanciful_9 : decode cX0_fanciful 9 = .ok (.invokevirtual 70, 3) := by decide +kernel
theorem dX0_fanciful_12 : decode cX0_fanciful 12 = .ok (.goto 4, 3) := by decide +kernel
theorem dX0_fanciful_15 : decode cX0_fanciful 15 = .ok (.iload_n 2, 1) := by decide +kernel
theorem dX0_fanciful_16 : decode cX0_fanciful 16 = .ok (.ireturn, 1) := by decide +kernel
set_option maxRecDepth 20000 in
theorem ggX0_agreeing_X0_noticedAs : GoodIn wsX0_agreeing wsX0_noticedAs := goodIn_r _ [5, 6, 7, 8, 9, 10, 4, 11, 12, 13, 14, 15, 16, 17, 18, 19, 20, 21, 22, 23, 24, 25, 26, 27, 28, 29, 30, 31, 32, 33, 34, 35, 36, 37, 38, 39, 40, 41, 42, 43, 44, 45] (by decide +kernel) (by decide +kernel)
set_option maxRecDepth 20000 in
theorem gX0_agreeing_X0_noticedAs : GoodIn wsX0_agreeing (wsV RX0 84 RX0 yX0_noticedAs wsX0_noticedAs) := goodIn_app (goodIn_of _ (by decide +kernel)) ggX0_agreeing_X0_noticedAs
set_option maxRecDepth 20000 in
theorem ggX0_agreeing_X0_allCows : GoodIn wsX0_agreeing wsX0_allCows := goodIn_r _ [32, 12, 33, 34, 35, 36, 37, 38, 39, 40, 41] (by decide +kernel) (by decide +kernel)
set_option maxRecDepth 20000 in
theorem gX0_agreeing_X0_allCows : GoodIn wsX0_agreeing (wsV RX0 70 RX0 yX0_allCows wsX0_allCows) := goodIn_app (goodIn_of _ (by decide +kernel)) ggX0_agreeing_X0_allCows
theorem dX0_agreeing_0 : decode cX0_agreeing 0 = .ok (.aload_n 0, 1) := by decide +kernel
theorem dX0_agreeing_1 : decode cX0_agreeing 1 = .ok (.iload_n 1, 1) := by decide +kernel
theorem dX0_agreeing_2 : decode cX0_agreeing 2 = .ok (.iload_n 2, 1) := by decide +kernel
theorem dX0_agreeing_3 : decode cX0_agreeing 3 = .ok (.iload_n 3, 1) := by decide +kernel
theorem dX0_agreeing_4 : decode cX0_agreeing 4 = .ok (.invokevirtual 84, 3) := by decide +kernel
theorem dX0_agreeing_7 : decode cX0_agreeing 7 = .ok (.istore 5, 2) := by decide +kernel
theorem dX0_agreeing_9 : decode cX0_agreeing 9 = .ok (.iload 4, 2) := by decide +kernel
theorem dX0_agreeing_11 : decode cX0_agreeing 11 = .ok (.iconst 1, 1) := by decide +kernel
theorem dX0_agreeing_12 : decode cX0_agreeing 12 = .ok (.if_icmp .ne 8, 3) := by decide +kernel
theorem dX0_agreeing_15 : decode cX0_agreeing 15 = .ok (.iload 5, 2) := by decide +kernel
theorem dX0_agreeing_17 : decode cX0_agreeing 17 = .ok (.goto 12, 3) := by decide +kernel
theorem dX0_agreeing_20 : decode cX0_agreeing 20 = .ok (.aload_n 0, 1) := by decide +kernel
theorem dX0_agreeing_21 : decode cX0_agreeing 21 = .ok (.invokevirtual 70, 3) := by decide +kernel
theorem dX0_agreeing_24 : decode cX0_agreeing 24 = .ok (.iload 5, 2) := by decide +kernel
theorem dX0_agreeing_26 : decode cX0_agreeing 26 = .ok (.iconst (-1), 1) := by decide +kernel
theorem dX0_agreeing_27 : decode cX0_agreeing 27 = .ok (.ixor, 1) := by decide +kernel
theorem dX0_agreeing_28 : decode cX0_agreeing 28 = .ok (.iand, 1) := by decide +kernel
theorem dX0_agreeing_29 : decode cX0_agreeing 29 = .ok (.ireturn, 1) := by decide +kernel
theorem dX0_hear_0 : decode cX0_hear 0 = .ok (.aload_n 0, 1) := by decide +kernel
theorem dX0_hear_1 : decode cX0_hear 1 = .ok (.getfield 31, 3) := by decide +kernel
theorem dX0_hear_4 : decode cX0_hear 4 = .ok (.dup, 1) := by decide +kernel
theorem dX0_hear_5 : decode cX0_hear 5 = .ok (.getfield 74, 3) := by decide +kernel
theorem dX0_hear_8 : decode cX0_hear 8 = .ok (.iload_n 1, 1) := by decide +kernel
theorem dX0_hear_9 : decode cX0_hear 9 = .ok (.iand, 1) := by decide +kernel
theorem dX0_hear_10 : decode cX0_hear 10 = .ok (.putfield 74, 3) := by decide +kernel
theorem dX0_hear_13 : decode cX0_hear 13 = .ok (.aload_n 0, 1) := by decide +kernel
theorem dX0_hear_14 : decode cX0_hear 14 = .ok (.getfield 31, 3) := by decide +kernel
theorem dX0_hear_17 : decode cX0_hear 17 = .ok (.dup, 1) := by decide +kernel
theorem dX0_hear_18 : decode cX0_hear 18 = .ok (.getfield 81, 3) := by decide +kernel
theorem dX0_hear_21 : decode cX0_hear 21 = .ok (.iconst 1, 1) := by decide +kernel
theorem dX0_hear_22 : decode cX0_hear 22 = .ok (.iadd, 1) := by decide +kernel
theorem dX0_hear_23 : decode cX0_hear 23 = .ok (.putfield 81, 3) := by decide +kernel
theorem dX0_hear_26 : decode cX0_hear 26 = .ok (.return_, 1) := by decide +kernel
set_option maxRecDepth 20000 in
theorem ggX0_swallow_X0_noticedBy : GoodIn wsX0_swallow wsX0_noticedBy := goodIn_r _ [7, 8, 9, 10, 11, 12, 6, 13, 1, 14, 15, 16, 17, 18, 19, 20, 21, 22, 23, 24, 25, 26, 27, 28, 29, 30, 31, 32, 33, 34, 35, 36, 37, 38, 39, 45, 46, 47, 48, 49, 50, 51, 52, 53, 54, 55, 56, 57] (by decide +kernel) (by decide +kernel)
set_option maxRecDepth 20000 in
theorem gX0_swallow_X0_noticedBy : GoodIn wsX0_swallow (wsV RX0 104 RX0 yX0_noticedBy wsX0_noticedBy) := goodIn_app (goodIn_of _ (by decide +kernel)) ggX0_swallow_X0_noticedBy
set_option maxRecDepth 20000 in
theorem ggX0_swallow_X0_hear : GoodIn wsX0_swallow wsX0_hear := goodIn_r _ [43, 1, 44, 14, 45, 46, 47, 48, 49, 50, 51, 52, 53, 54, 55, 56, 57] (by decide +kernel) (by decide +kernel)
set_option maxRecDepth 20000 in
theorem gX0_swallow_X0_hear : GoodIn wsX0_swallow (wsV RX0 107 RX0 yX0_hear wsX0_hear) := goodIn_app (goodIn_of _ (by decide +kernel)) ggX0_swallow_X0_hear
theorem dX0_swallow_0 : decode cX0_swallow 0 = .ok (.aload_n 0, 1) := by decide +kernel
theorem dX0_swallow_1 : decode cX0_swallow 1 = .ok (.iload_n 1, 1) := by decide +kernel
theorem dX0_swallow_2 : decode cX0_swallow 2 = .ok (.iload_n 2, 1) := by decide +kernel
theorem dX0_swallow_3 : decode cX0_swallow 3 = .ok (.invokevirtual 104, 3) := by decide +kernel
theorem dX0_swallow_6 : decode cX0_swallow 6 = .ok (.istore_n 3, 1) := by decide +kernel
theorem dX0_swallow_7 : decode cX0_swallow 7 = .ok (.iload_n 3, 1) := by decide +kernel
theorem dX0_swallow_8 : decode cX0_swallow 8 = .ok (.aload_n 0, 1) := by decide +kernel
theorem dX0_swallow_9 : decode cX0_swallow 9 = .ok (.getfield 31, 3) := by decide +kernel
theorem dX0_swallow_12 : decode cX0_swallow 12 = .ok (.getfield 80, 3) := by decide +kernel
theorem dX0_swallow_15 : decode cX0_swallow 15 = .ok (.ishr, 1) := by decide +kernel
theorem dX0_swallow_16 : decode cX0_swallow 16 = .ok (.iconst 1, 1) := by decide +kernel
theorem dX0_swallow_17 : decode cX0_swallow 17 = .ok (.iand, 1) := by decide +kernel
theorem dX0_swallow_18 : decode cX0_swallow 18 = .ok (.istore 4, 2) := by decide +kernel
theorem dX0_swallow_20 : decode cX0_swallow 20 = .ok (.aload_n 0, 1) := by decide +kernel
theorem dX0_swallow_21 : decode cX0_swallow 21 = .ok (.iload 4, 2) := by decide +kernel
theorem dX0_swallow_23 : decode cX0_swallow 23 = .ok (.iconst 1, 1) := by decide +kernel
theorem dX0_swallow_24 : decode cX0_swallow 24 = .ok (.if_icmp .ne 7, 3) := by decide +kernel
theorem dX0_swallow_27 : decode cX0_swallow 27 = .ok (.iload_n 3, 1) := by decide +kernel
theorem dX0_swallow_28 : decode cX0_swallow 28 = .ok (.goto 6, 3) := by decide +kernel
theorem dX0_swallow_31 : decode cX0_swallow 31 = .ok (.iload_n 3, 1) := by decide +kernel
theorem dX0_swallow_32 : decode cX0_swallow 32 = .ok (.iconst (-1), 1) := by decide +kernel
theorem dX0_swallow_33 : decode cX0_swallow 33 = .ok (.ixor, 1) := by decide +kernel
theorem dX0_swallow_34 : decode cX0_swallow 34 = .ok (.invokevirtual 107, 3) := by decide +kernel
theorem dX0_swallow_37 : decode cX0_swallow 37 = .ok (.iload 4, 2) := by decide +kernel
theorem dX0_swallow_39 : decode cX0_swallow 39 = .ok (.ireturn, 1) := by decide +kernel
set_option maxRecDepth 20000 in
theorem ggX0_driftOnce_X0_remember : GoodIn wsX0_driftOnce wsX0_remember := goodIn_r _ [12, 13, 14, 1, 15, 16, 17, 18, 19, 20, 21, 22, 23, 24, 25, 26, 27, 28, 74, 75, 76, 77, 78, 79, 80, 81, 82, 83, 84, 85, 86] (by decide +kernel) (by decide +kernel)
set_option maxRecDepth 20000 in
theorem gX0_driftOnce_X0_remember : GoodIn wsX0_driftOnce (wsV RX0 110 RX0 yX0_remember wsX0_remember) := goodIn_app (goodIn_of _ (by decide +kernel)) ggX0_driftOnce_X0_remember
set_option maxRecDepth 20000 in
theorem ggX0_driftOnce_X0_allCows : GoodIn wsX0_driftOnce wsX0_allCows := goodIn_r _ [32, 33, 74, 75, 76, 77, 78, 79, 80, 81, 82] (by decide +kernel) (by decide +kernel)
set_option maxRecDepth 20000 in
theorem gX0_driftOnce_X0_allCows : GoodIn wsX0_driftOnce (wsV RX0 70 RX0 yX0_allCows wsX0_allCows) := goodIn_app (goodIn_of _ (by decide +kernel)) ggX0_driftOnce_X0_allCows
set_option maxRecDepth 20000 in
theorem ggX0_driftOnce_X0_swallow : GoodIn wsX0_driftOnce wsX0_swallow := goodIn_r _ [37, 1, 6, 38, 39, 40, 11, 41, 42, 43, 44, 45, 46, 47, 48, 49, 50, 51, 52, 33, 53, 54, 55, 56, 57, 58, 59, 60, 61, 62, 63, 64, 65, 66, 67, 68, 29, 30, 31, 32, 69, 70, 71, 72, 73, 74, 75, 76, 77, 78, 79, 80, 81, 82, 83, 84, 85, 86] (by decide +kernel) (by decide +kernel)
set_option maxRecDepth 20000 in
theorem gX0_driftOnce_X0_swallow : GoodIn wsX0_driftOnce (wsV RX0 119 RX0 yX0_swallow wsX0_swallow) := goodIn_app (goodIn_of _ (by decide +kernel)) ggX0_driftOnce_X0_swallow
theorem dX0_driftOnce_0 : decode cX0_driftOnce 0 = .ok (.aload_n 0, 1) := by decide +kernel
theorem dX0_driftOnce_1 : decode cX0_driftOnce 1 = .ok (.invokevirtual 110, 3) := by decide +kernel
theorem dX0_driftOnce_4 : decode cX0_driftOnce 4 = .ok (.aload_n 0, 1) := by decide +kernel
theorem dX0_driftOnce_5 : decode cX0_driftOnce 5 = .ok (.getfield 31, 3) := by decide +kernel
theorem dX0_driftOnce_8 : decode cX0_driftOnce 8 = .ok (.aload_n 0, 1) := by decide +kernel
theorem dX0_driftOnce_9 : decode cX0_driftOnce 9 = .ok (.getfield 31, 3) := by decide +kernel
theorem dX0_driftOnce_12 : decode cX0_driftOnce 12 = .ok (.getfield 113, 3) := by decide +kernel
theorem dX0_driftOnce_15 : decode cX0_driftOnce 15 = .ok (.ldc 116, 2) := by decide +kernel
theorem dX0_driftOnce_17 : decode cX0_driftOnce 17 = .ok (.imul, 1) := by decide +kernel
theorem dX0_driftOnce_18 : decode cX0_driftOnce 18 = .ok (.sipush 12345, 3) := by decide +kernel
theorem dX0_driftOnce_21 : decode cX0_driftOnce 21 = .ok (.iadd, 1) := by decide +kernel
theorem dX0_driftOnce_22 : decode cX0_driftOnce 22 = .ok (.ldc 117, 2) := by decide +kernel
theorem dX0_driftOnce_24 : decode cX0_driftOnce 24 = .ok (.iand, 1) := by decide +kernel
theorem dX0_driftOnce_25 : decode cX0_driftOnce 25 = .ok (.putfield 113, 3) := by decide +kernel
theorem dX0_driftOnce_28 : decode cX0_driftOnce 28 = .ok (.aload_n 0, 1) := by decide +kernel
theorem dX0_driftOnce_29 : decode cX0_driftOnce 29 = .ok (.getfield 31, 3) := by decide +kernel
theorem dX0_driftOnce_32 : decode cX0_driftOnce 32 = .ok (.getfield 113, 3) := by decide +kernel
theorem dX0_driftOnce_35 : decode cX0_driftOnce 35 = .ok (.sipush 128, 3) := by decide +kernel
theorem dX0_driftOnce_38 : decode cX0_driftOnce 38 = .ok (.idiv, 1) := by decide +kernel
theorem dX0_driftOnce_39 : decode cX0_driftOnce 39 = .ok (.aload_n 0, 1) := by decide +kernel
theorem dX0_driftOnce_40 : decode cX0_driftOnce 40 = .ok (.invokevirtual 70, 3) := by decide +kernel
theorem dX0_driftOnce_43 : decode cX0_driftOnce 43 = .ok (.iand, 1) := by decide +kernel
theorem dX0_driftOnce_44 : decode cX0_driftOnce 44 = .ok (.istore_n 1, 1) := by decide +kernel
theorem dX0_driftOnce_45 : decode cX0_driftOnce 45 = .ok (.aload_n 0, 1) := by decide +kernel
theorem dX0_driftOnce_46 : decode cX0_driftOnce 46 = .ok (.getfield 25, 3) := by decide +kernel
theorem dX0_driftOnce_49 : decode cX0_driftOnce 49 = .ok (.ifCond .le 40, 3) := by decide +kernel
theorem dX0_driftOnce_52 : decode cX0_driftOnce 52 = .ok (.iload_n 1, 1) := by decide +kernel
theorem dX0_driftOnce_53 : decode cX0_driftOnce 53 = .ok (.ifCond .eq 36, 3) := by decide +kernel
theorem dX0_driftOnce_56 : decode cX0_driftOnce 56 = .ok (.aload_n 0, 1) := by decide +kernel
theorem dX0_driftOnce_57 : decode cX0_driftOnce 57 = .ok (.getfield 31, 3) := by decide +kernel
theorem dX0_driftOnce_60 : decode cX0_driftOnce 60 = .ok (.getfield 80, 3) := by decide +kernel
theorem dX0_driftOnce_63 : decode cX0_driftOnce 63 = .ok (.bipush (-4), 2) := by decide +kernel
theorem dX0_driftOnce_65 : decode cX0_driftOnce 65 = .ok (.if_icmp .eq 24, 3) := by decide +kernel
theorem dX0_driftOnce_68 : decode cX0_driftOnce 68 = .ok (.aload_n 0, 1) := by decide +kernel
theorem dX0_driftOnce_69 : decode cX0_driftOnce 69 = .ok (.aload_n 0, 1) := by decide +kernel
theorem dX0_driftOnce_70 : decode cX0_driftOnce 70 = .ok (.getfield 31, 3) := by decide +kernel
theorem dX0_driftOnce_73 : decode cX0_driftOnce 73 = .ok (.getfield 113, 3) := by decide +kernel
theorem dX0_driftOnce_76 : decode cX0_driftOnce 76 = .ok (.ldc 118, 2) := by decide +kernel
theorem dX0_driftOnce_78 : decode cX0_driftOnce 78 = .ok (.idiv, 1) := by decide +kernel
theorem dX0_driftOnce_79 : decode cX0_driftOnce 79 = .ok (.aload_n 0, 1) := by decide +kernel
theorem dX0_driftOnce_80 : decode cX0_driftOnce 80 = .ok (.getfield 25, 3) := by decide +kernel
theorem dX0_driftOnce_83 : decode cX0_driftOnce 83 = .ok (.irem, 1) := by decide +kernel
theorem dX0_driftOnce_84 : decode cX0_driftOnce 84 = .ok (.iload_n 1, 1) := by decide +kernel
theorem dX0_driftOnce_85 : decode cX0_driftOnce 85 = .ok (.invokevirtual 119, 3) := by decide +kernel
theorem dX0_driftOnce_88 : decode cX0_driftOnce 88 = .ok (.pop, 1) := by decide +kernel
theorem dX0_driftOnce_89 : decode cX0_driftOnce 89 = .ok (.return_, 1) := by decide +kernel
set_option maxRecDepth 20000 in
theorem ggX0_remember_X1_becomeLike : GoodIn wsX0_remember wsX1_becomeLike := goodIn_r _ [13, 14, 15, 16, 17, 27, 28, 29, 30] (by decide +kernel) (by decide +kernel)
set_option maxRecDepth 20000 in
theorem gX0_remember_X1_becomeLike : GoodIn wsX0_remember (wsV RX0 51 RX1 yX1_becomeLike wsX1_becomeLike) := goodIn_app (goodIn_of _ (by decide +kernel)) ggX0_remember_X1_becomeLike
theorem dX0_remember_0 : decode cX0_remember 0 = .ok (.aload_n 0, 1) := by decide +kernel
theorem dX0_remember_1 : decode cX0_remember 1 = .ok (.aload_n 0, 1) := by decide +kernel
theorem dX0_remember_2 : decode cX0_remember 2 = .ok (.getfield 39, 3) := by decide +kernel
theorem dX0_remember_5 : decode cX0_remember 5 = .ok (.iconst 1, 1) := by decide +kernel
theorem dX0_remember_6 : decode cX0_remember 6 = .ok (.iadd, 1) := by decide +kernel
theorem dX0_remember_7 : decode cX0_remember 7 = .ok (.bipush 7, 2) := by decide +kernel
theorem dX0_remember_9 : decode cX0_remember 9 = .ok (.iand, 1) := by decide +kernel
theorem dX0_remember_10 : decode cX0_remember 10 = .ok (.putfield 39, 3) := by decide +kernel
theorem dX0_remember_13 : decode cX0_remember 13 = .ok (.aload_n 0, 1) := by decide +kernel
theorem dX0_remember_14 : decode cX0_remember 14 = .ok (.getfield 35, 3) := by decide +kernel
theorem dX0_remember_17 : decode cX0_remember 17 = .ok (.aload_n 0, 1) := by decide +kernel
theorem dX0_remember_18 : decode cX0_remember 18 = .ok (.getfield 39, 3) := by decide +kernel
theorem dX0_remember_21 : decode cX0_remember 21 = .ok (.aaload, 1) := by decide +kernel
theorem dX0_remember_22 : decode cX0_remember 22 = .ok (.aload_n 0, 1) := by decide +kernel
theorem dX0_remember_23 : decode cX0_remember 23 = .ok (.getfield 31, 3) := by decide +kernel
theorem dX0_remember_26 : decode cX0_remember 26 = .ok (.invokevirtual 51, 3) := by decide +kernel
theorem dX0_remember_29 : decode cX0_remember 29 = .ok (.aload_n 0, 1) := by decide +kernel
theorem dX0_remember_30 : decode cX0_remember 30 = .ok (.bipush 8, 2) := by decide +kernel
theorem dX0_remember_32 : decode cX0_remember 32 = .ok (.aload_n 0, 1) := by decide +kernel
theorem dX0_remember_33 : decode cX0_remember 33 = .ok (.getfield 42, 3) := by decide +kernel
theorem dX0_remember_36 : decode cX0_remember 36 = .ok (.iconst 1, 1) := by decide +kernel
theorem dX0_remember_37 : decode cX0_remember 37 = .ok (.iadd, 1) := by decide +kernel
theorem dX0_remember_38 : decode cX0_remember 38 = .ok (.invokestatic 122, 3) := by decide +kernel
theorem dX0_remember_41 : decode cX0_remember 41 = .ok (.putfield 42, 3) := by decide +kernel
theorem dX0_remember_44 : decode cX0_remember 44 = .ok (.return_, 1) := by decide +kernel
set_option maxRecDepth 20000 in
theorem ggX0_goBack_X1_becomeLike : GoodIn wsX0_goBack wsX1_becomeLike := goodIn_r _ [9, 10, 11, 12, 13, 23, 24, 25, 26] (by decide +kernel) (by decide +kernel)
set_option maxRecDepth 20000 in
theorem gX0_goBack_X1_becomeLike : GoodIn wsX0_goBack (wsV RX0 51 RX1 yX1_becomeLike wsX1_becomeLike) := goodIn_app (goodIn_of _ (by decide +kernel)) ggX0_goBack_X1_becomeLike
theorem dX0_goBack_0 : decode cX0_goBack 0 = .ok (.aload_n 0, 1) := by decide +kernel
theorem dX0_goBack_1 : decode cX0_goBack 1 = .ok (.getfield 31, 3) := by decide +kernel
theorem dX0_goBack_4 : decode cX0_goBack 4 = .ok (.aload_n 0, 1) := by decide +kernel
theorem dX0_goBack_5 : decode cX0_goBack 5 = .ok (.getfield 35, 3) := by decide +kernel
theorem dX0_goBack_8 : decode cX0_goBack 8 = .ok (.aload_n 0, 1) := by decide +kernel
theorem dX0_goBack_9 : decode cX0_goBack 9 = .ok (.getfield 39, 3) := by decide +kernel
theorem dX0_goBack_12 : decode cX0_goBack 12 = .ok (.aaload, 1) := by decide +kernel
theorem dX0_goBack_13 : decode cX0_goBack 13 = .ok (.invokevirtual 51, 3) := by decide +kernel
theorem dX0_goBack_16 : decode cX0_goBack 16 = .ok (.aload_n 0, 1) := by decide +kernel
theorem dX0_goBack_17 : decode cX0_goBack 17 = .ok (.aload_n 0, 1) := by decide +kernel
theorem dX0_goBack_18 : decode cX0_goBack 18 = .ok (.getfield 39, 3) := by decide +kernel
theorem dX0_goBack_21 : decode cX0_goBack 21 = .ok (.iconst 1, 1) := by decide +kernel
theorem dX0_goBack_22 : decode cX0_goBack 22 = .ok (.isub, 1) := by decide +kernel
theorem dX0_goBack_23 : decode cX0_goBack 23 = .ok (.bipush 7, 2) := by decide +kernel
theorem dX0_goBack_25 : decode cX0_goBack 25 = .ok (.iand, 1) := by decide +kernel
theorem dX0_goBack_26 : decode cX0_goBack 26 = .ok (.putfield 39, 3) := by decide +kernel
theorem dX0_goBack_29 : decode cX0_goBack 29 = .ok (.aload_n 0, 1) := by decide +kernel
theorem dX0_goBack_30 : decode cX0_goBack 30 = .ok (.dup, 1) := by decide +kernel
theorem dX0_goBack_31 : decode cX0_goBack 31 = .ok (.getfield 42, 3) := by decide +kernel
theorem dX0_goBack_34 : decode cX0_goBack 34 = .ok (.iconst 1, 1) := by decide +kernel
theorem dX0_goBack_35 : decode cX0_goBack 35 = .ok (.isub, 1) := by decide +kernel
theorem dX0_goBack_36 : decode cX0_goBack 36 = .ok (.putfield 42, 3) := by decide +kernel
theorem dX0_goBack_39 : decode cX0_goBack 39 = .ok (.return_, 1) := by decide +kernel
theorem dX1_init_0 : decode cX1_init 0 = .ok (.aload_n 0, 1) := by decide +kernel
theorem dX1_init_1 : decode cX1_init 1 = .ok (.invokespecial 3, 3) := by decide +kernel
theorem dX1_init_4 : decode cX1_init 4 = .ok (.aload_n 0, 1) := by decide +kernel
theorem dX1_init_5 : decode cX1_init 5 = .ok (.iconst 0, 1) := by decide +kernel
theorem dX1_init_6 : decode cX1_init 6 = .ok (.putfield 9, 3) := by decide +kernel
theorem dX1_init_9 : decode cX1_init 9 = .ok (.aload_n 0, 1) := by decide +kernel
theorem dX1_init_10 : decode cX1_init 10 = .ok (.bipush (-4), 2) := by decide +kernel
theorem dX1_init_12 : decode cX1_init 12 = .ok (.putfield 15, 3) := by decide +kernel
theorem dX1_init_15 : decode cX1_init 15 = .ok (.aload_n 0, 1) := by decide +kernel
theorem dX1_init_16 : decode cX1_init 16 = .ok (.iconst 0, 1) := by decide +kernel
theorem dX1_init_17 : decode cX1_init 17 = .ok (.putfield 18, 3) := by decide +kernel
theorem dX1_init_20 : decode cX1_init 20 = .ok (.aload_n 0, 1) := by decide +kernel
theorem dX1_init_21 : decode cX1_init 21 = .ok (.iconst 1, 1) := by decide +kernel
theorem dX1_init_22 : decode cX1_init 22 = .ok (.putfield 21, 3) := by decide +kernel
theorem dX1_init_25 : decode cX1_init 25 = .ok (.return_, 1) := by decide +kernel
theorem dX1_becomeLike_0 : decode cX1_becomeLike 0 = .ok (.aload_n 0, 1) := by decide +kernel
theorem dX1_becomeLike_1 : decode cX1_becomeLike 1 = .ok (.aload_n 1, 1) := by decide +kernel
theorem dX1_becomeLike_2 : decode cX1_becomeLike 2 = .ok (.getfield 9, 3) := by decide +kernel
theorem dX1_becomeLike_5 : decode cX1_becomeLike 5 = .ok (.putfield 9, 3) := by decide +kernel
theorem dX1_becomeLike_8 : decode cX1_becomeLike 8 = .ok (.aload_n 0, 1) := by decide +kernel
theorem dX1_becomeLike_9 : decode cX1_becomeLike 9 = .ok (.aload_n 1, 1) := by decide +kernel
theorem dX1_becomeLike_10 : decode cX1_becomeLike 10 = .ok (.getfield 15, 3) := by decide +kernel
theorem dX1_becomeLike_13 : decode cX1_becomeLike 13 = .ok (.putfield 15, 3) := by decide +kernel
theorem dX1_becomeLike_16 : decode cX1_becomeLike 16 = .ok (.aload_n 0, 1) := by decide +kernel
theorem dX1_becomeLike_17 : decode cX1_becomeLike 17 = .ok (.aload_n 1, 1) := by decide +kernel
theorem dX1_becomeLike_18 : decode cX1_becomeLike 18 = .ok (.getfield 18, 3) := by decide +kernel
theorem dX1_becomeLike_21 : decode cX1_becomeLike 21 = .ok (.putfield 18, 3) := by decide +kernel
theorem dX1_becomeLike_24 : decode cX1_becomeLike 24 = .ok (.aload_n 0, 1) := by decide +kernel
theorem dX1_becomeLike_25 : decode cX1_becomeLike 25 = .ok (.aload_n 1, 1) := by decide +kernel
theorem dX1_becomeLike_26 : decode cX1_becomeLike 26 = .ok (.getfield 21, 3) := by decide +kernel
theorem dX1_becomeLike_29 : decode cX1_becomeLike 29 = .ok (.putfield 21, 3) := by decide +kernel
theorem dX1_becomeLike_32 : decode cX1_becomeLike 32 = .ok (.return_, 1) := by decide +kernel
theorem dX2_init_0 : decode cX2_init 0 = .ok (.aload_n 0, 1) := by decide +kernel
theorem dX2_init_1 : decode cX2_init 1 = .ok (.invokespecial 3, 3) := by decide +kernel
theorem dX2_init_4 : decode cX2_init 4 = .ok (.aload_n 0, 1) := by decide +kernel
theorem dX2_init_5 : decode cX2_init 5 = .ok (.iconst 0, 1) := by decide +kernel
theorem dX2_init_6 : decode cX2_init 6 = .ok (.putfield 9, 3) := by decide +kernel
theorem dX2_init_9 : decode cX2_init 9 = .ok (.aload_n 0, 1) := by decide +kernel
theorem dX2_init_10 : decode cX2_init 10 = .ok (.iconst 0, 1) := by decide +kernel
theorem dX2_init_11 : decode cX2_init 11 = .ok (.putfield 15, 3) := by decide +kernel
theorem dX2_init_14 : decode cX2_init 14 = .ok (.aload_n 0, 1) := by decide +kernel
theorem dX2_init_15 : decode cX2_init 15 = .ok (.sipush 256, 3) := by decide +kernel
theorem dX2_init_18 : decode cX2_init 18 = .ok (.newarray .int, 2) := by decide +kernel
theorem dX2_init_20 : decode cX2_init 20 = .ok (.putfield 18, 3) := by decide +kernel
theorem dX2_init_23 : decode cX2_init 23 = .ok (.aload_n 0, 1) := by decide +kernel
theorem dX2_init_24 : decode cX2_init 24 = .ok (.sipush 256, 3) := by decide +kernel
theorem dX2_init_27 : decode cX2_init 27 = .ok (.newarray .int, 2) := by decide +kernel
theorem dX2_init_29 : decode cX2_init 29 = .ok (.putfield 22, 3) := by decide +kernel
theorem dX2_init_32 : decode cX2_init 32 = .ok (.aload_n 0, 1) := by decide +kernel
theorem dX2_init_33 : decode cX2_init 33 = .ok (.iconst 0, 1) := by decide +kernel
theorem dX2_init_34 : decode cX2_init 34 = .ok (.putfield 25, 3) := by decide +kernel
theorem dX2_init_37 : decode cX2_init 37 = .ok (.aload_n 0, 1) := by decide +kernel
theorem dX2_init_38 : decode cX2_init 38 = .ok (.sipush 256, 3) := by decide +kernel
theorem dX2_init_41 : decode cX2_init 41 = .ok (.newarray .boolean, 2) := by decide +kernel
theorem dX2_init_43 : decode cX2_init 43 = .ok (.putfield 28, 3) := by decide +kernel
theorem dX2_init_46 : decode cX2_init 46 = .ok (.aload_n 0, 1) := by decide +kernel
theorem dX2_init_47 : decode cX2_init 47 = .ok (.sipush 256, 3) := by decide +kernel
theorem dX2_init_50 : decode cX2_init 50 = .ok (.newarray .int, 2) := by decide +kernel
theorem dX2_init_52 : decode cX2_init 52 = .ok (.putfield 32, 3) := by decide +kernel
theorem dX2_init_55 : decode cX2_init 55 = .ok (.aload_n 0, 1) := by decide +kernel
theorem dX2_init_56 : decode cX2_init 56 = .ok (.bipush (-4), 2) := by decide +kernel
theorem dX2_init_58 : decode cX2_init 58 = .ok (.putfield 35, 3) := by decide +kernel
theorem dX2_init_61 : decode cX2_init 61 = .ok (.aload_n 0, 1) := by decide +kernel
theorem dX2_init_62 : decode cX2_init 62 = .ok (.bipush (-4), 2) := by decide +kernel
theorem dX2_init_64 : decode cX2_init 64 = .ok (.putfield 38, 3) := by decide +kernel
theorem dX2_init_67 : decode cX2_init 67 = .ok (.return_, 1) := by decide +kernel
set_option maxRecDepth 20000 in
theorem ggX2_lookAhead_X0_allCows : GoodIn wsX2_lookAhead wsX0_allCows := goodIn_r _ [10, 11, 45, 46, 47, 48, 49, 50, 51, 52, 53] (by decide +kernel) (by decide +kernel)
set_option maxRecDepth 20000 in
theorem gX2_lookAhead_X0_allCows : GoodIn wsX2_lookAhead (wsV RX2 50 RX0 yX0_allCows wsX0_allCows) := goodIn_app (goodIn_of _ (by decide +kernel)) ggX2_lookAhead_X0_allCows
set_option maxRecDepth 20000 in
theorem ggX2_lookAhead_X0_noticedBy : GoodIn wsX2_lookAhead wsX0_noticedBy := goodIn_r _ [15, 16, 17, 18, 19, 20, 9, 21, 22, 23, 24, 25, 26, 27, 11, 28, 29, 30, 31, 32, 33, 34, 35, 36, 37, 38, 39, 40, 41, 42, 43, 44, 7, 8, 10, 45, 46, 47, 48, 49, 50, 51, 52, 53, 54, 55, 56, 57] (by decide +kernel) (by decide +kernel)
set_option maxRecDepth 20000 in
theorem gX2_lookAhead_X0_noticedBy : GoodIn wsX2_lookAhead (wsV RX2 54 RX0 yX0_noticedBy wsX0_noticedBy) := goodIn_app (goodIn_of _ (by decide +kernel)) ggX2_lookAhead_X0_noticedBy
theorem dX2_lookAhead_0 : decode cX2_lookAhead 0 = .ok (.aload_n 0, 1) := by decide +kernel
theorem dX2_lookAhead_1 : decode cX2_lookAhead 1 = .ok (.aload_n 1, 1) := by decide +kernel
theorem dX2_lookAhead_2 : decode cX2_lookAhead 2 = .ok (.getfield 41, 3) := by decide +kernel
theorem dX2_lookAhead_5 : decode cX2_lookAhead 5 = .ok (.getfield 47, 3) := by decide +kernel
theorem dX2_lookAhead_8 : decode cX2_lookAhead 8 = .ok (.putfield 9, 3) := by decide +kernel
theorem dX2_lookAhead_11 : decode cX2_lookAhead 11 = .ok (.aload_n 0, 1) := by decide +kernel
theorem dX2_lookAhead_12 : decode cX2_lookAhead 12 = .ok (.aload_n 1, 1) := by decide +kernel
theorem dX2_lookAhead_13 : decode cX2_lookAhead 13 = .ok (.invokevirtual 50, 3) := by decide +kernel
theorem dX2_lookAhead_16 : decode cX2_lookAhead 16 = .ok (.putfield 15, 3) := by decide +kernel
theorem dX2_lookAhead_19 : decode cX2_lookAhead 19 = .ok (.iconst 1, 1) := by decide +kernel
theorem dX2_lookAhead_20 : decode cX2_lookAhead 20 = .ok (.istore_n 3, 1) := by decide +kernel
theorem dX2_lookAhead_21 : decode cX2_lookAhead 21 = .ok (.iload_n 3, 1) := by decide +kernel
theorem dX2_lookAhead_22 : decode cX2_lookAhead 22 = .ok (.aload_n 0, 1) := by decide +kernel
theorem dX2_lookAhead_23 : decode cX2_lookAhead 23 = .ok (.getfield 15, 3) := by decide +kernel
theorem dX2_lookAhead_26 : decode cX2_lookAhead 26 = .ok (.if_icmp .gt 26, 3) := by decide +kernel
theorem dX2_lookAhead_29 : decode cX2_lookAhead 29 = .ok (.aload_n 0, 1) := by decide +kernel
theorem dX2_lookAhead_30 : decode cX2_lookAhead 30 = .ok (.getfield 18, 3) := by decide +kernel
theorem dX2_lookAhead_33 : decode cX2_lookAhead 33 = .ok (.iload_n 3, 1) := by decide +kernel
theorem dX2_lookAhead_34 : decode cX2_lookAhead 34 = .ok (.aload_n 1, 1) := by decide +kernel
theorem dX2_lookAhead_35 : decode cX2_lookAhead 35 = .ok (.iload_n 2, 1) := by decide +kernel
theorem dX2_lookAhead_36 : decode cX2_lookAhead 36 = .ok (.iload_n 3, 1) := by decide +kernel
theorem dX2_lookAhead_37 : decode cX2_lookAhead 37 = .ok (.invokevirtual 54, 3) := by decide +kernel
theorem dX2_lookAhead_40 : decode cX2_lookAhead 40 = .ok (.aload_n 0, 1) := by decide +kernel
theorem dX2_lookAhead_41 : decode cX2_lookAhead 41 = .ok (.getfield 9, 3) := by decide +kernel
theorem dX2_lookAhead_44 : decode cX2_lookAhead 44 = .ok (.iand, 1) := by decide +kernel
theorem dX2_lookAhead_45 : decode cX2_lookAhead 45 = .ok (.iastore, 1) := by decide +kernel
theorem dX2_lookAhead_46 : decode cX2_lookAhead 46 = .ok (.iinc 3 1, 3) := by decide +kernel
theorem dX2_lookAhead_49 : decode cX2_lookAhead 49 = .ok (.goto (-28), 3) := by decide +kernel
theorem dX2_lookAhead_52 : decode cX2_lookAhead 52 = .ok (.return_, 1) := by decide +kernel
theorem dX2_isOneAtMost_0 : decode cX2_isOneAtMost 0 = .ok (.iload_n 0, 1) := by decide +kernel
theorem dX2_isOneAtMost_1 : decode cX2_isOneAtMost 1 = .ok (.iload_n 0, 1) := by decide +kernel
theorem dX2_isOneAtMost_2 : decode cX2_isOneAtMost 2 = .ok (.iconst 1, 1) := by decide +kernel
theorem dX2_isOneAtMost_3 : decode cX2_isOneAtMost 3 = .ok (.isub, 1) := by decide +kernel
theorem dX2_isOneAtMost_4 : decode cX2_isOneAtMost 4 = .ok (.iand, 1) := by decide +kernel
theorem dX2_isOneAtMost_5 : decode cX2_isOneAtMost 5 = .ok (.ifCond .ne 7, 3) := by decide +kernel
theorem dX2_isOneAtMost_8 : decode cX2_isOneAtMost 8 = .ok (.iconst 1, 1) := by decide +kernel
theorem dX2_isOneAtMost_9 : decode cX2_isOneAtMost 9 = .ok (.goto 4, 3) := by decide +kernel
theorem dX2_isOneAtMost_12 : decode cX2_isOneAtMost 12 = .ok (.iconst 0, 1) := by decide +kernel
theorem dX2_isOneAtMost_13 : decode cX2_isOneAtMost 13 = .ok (.ireturn, 1) := by decide +kernel
set_option maxRecDepth 20000 in
theorem ggX2_fewestMixes_X2_findDepths : GoodIn wsX2_fewestMixes wsX2_findDepths := goodIn_r _ [7, 2, 1, 8, 9, 10, 6, 11, 12, 13, 14, 15, 16, 17, 18, 19, 20, 21, 22, 23, 24, 25, 26, 27, 28, 29, 30, 31, 32, 33, 34, 35, 36, 37, 38, 39, 40, 41, 42, 43, 44, 45, 46, 47, 48, 49, 50, 51, 52, 53] (by decide +kernel) (by decide +kernel)
set_option maxRecDepth 20000 in
theorem gX2_fewestMixes_X2_findDepths : GoodIn wsX2_fewestMixes (wsV RX2 58 RX2 yX2_findDepths wsX2_findDepths) := goodIn_app (goodIn_of _ (by decide +kernel)) ggX2_fewestMixes_X2_findDepths
theorem dX2_fewestMixes_0 : decode cX2_fewestMixes 0 = .ok (.aload_n 0, 1) := by decide +kernel
theorem dX2_fewestMixes_1 : decode cX2_fewestMixes 1 = .ok (.invokevirtual 58, 3) := by decide +kernel
theorem dX2_fewestMixes_4 : decode cX2_fewestMixes 4 = .ok (.aload_n 0, 1) := by decide +kernel
theorem dX2_fewestMixes_5 : decode cX2_fewestMixes 5 = .ok (.getfield 32, 3) := by decide +kernel
theorem dX2_fewestMixes_8 : decode cX2_fewestMixes 8 = .ok (.aload_n 0, 1) := by decide +kernel
theorem dX2_fewestMixes_9 : decode cX2_fewestMixes 9 = .ok (.getfield 9, 3) := by decide +kernel
theorem dX2_fewestMixes_12 : decode cX2_fewestMixes 12 = .ok (.iaload, 1) := by decide +kernel
theorem dX2_fewestMixes_13 : decode cX2_fewestMixes 13 = .ok (.bipush 99, 2) := by decide +kernel
theorem dX2_fewestMixes_15 : decode cX2_fewestMixes 15 = .ok (.if_icmp .ge 15, 3) := by decide +kernel
theorem dX2_fewestMixes_18 : decode cX2_fewestMixes 18 = .ok (.aload_n 0, 1) := by decide +kernel
theorem dX2_fewestMixes_19 : decode cX2_fewestMixes 19 = .ok (.getfield 32, 3) := by decide +kernel
theorem dX2_fewestMixes_22 : decode cX2_fewestMixes 22 = .ok (.aload_n 0, 1) := by decide +kernel
theorem dX2_fewestMixes_23 : decode cX2_fewestMixes 23 = .ok (.getfield 9, 3) := by decide +kernel
theorem dX2_fewestMixes_26 : decode cX2_fewestMixes 26 = .ok (.iaload, 1) := by decide +kernel
theorem dX2_fewestMixes_27 : decode cX2_fewestMixes 27 = .ok (.goto 5, 3) := by decide +kernel
theorem dX2_fewestMixes_30 : decode cX2_fewestMixes 30 = .ok (.bipush (-4), 2) := by decide +kernel
theorem dX2_fewestMixes_32 : decode cX2_fewestMixes 32 = .ok (.ireturn, 1) := by decide +kernel
set_option maxRecDepth 20000 in
theorem ggX2_firstMix_X2_fewestMixes : GoodIn wsX2_firstMix wsX2_fewestMixes := goodIn_r _ [8, 9, 2, 10, 11, 12, 7, 13, 14, 15, 16, 17, 18, 19, 1, 3, 20, 21, 22, 23, 24, 25, 26, 27, 28, 29, 30, 31, 32, 33, 34, 35, 36, 37, 38, 39, 40, 41, 42, 43, 44, 45, 46, 47, 48, 49, 50, 51, 52, 53, 54, 55, 56, 57] (by decide +kernel) (by decide +kernel)
set_option maxRecDepth 20000 in
theorem gX2_firstMix_X2_fewestMixes : GoodIn wsX2_firstMix (wsV RX2 61 RX2 yX2_fewestMixes wsX2_fewestMixes) := goodIn_app (goodIn_of _ (by decide +kernel)) ggX2_firstMix_X2_fewestMixes
set_option maxRecDepth 20000 in
theorem ggX2_firstMix_X2_depthBehind : GoodIn wsX2_firstMix wsX2_depthBehind := goodIn_r _ [45, 9, 46, 47, 22, 48, 20, 21, 23, 49, 50, 51, 52, 53, 54, 55, 56, 57] (by decide +kernel) (by decide +kernel)
set_option maxRecDepth 20000 in
theorem gX2_firstMix_X2_depthBehind : GoodIn wsX2_firstMix (wsV RX2 64 RX2 yX2_depthBehind wsX2_depthBehind) := goodIn_app (goodIn_of _ (by decide +kernel)) ggX2_firstMix_X2_depthBehind
theorem dX2_firstMix_0 : decode cX2_firstMix 0 = .ok (.aload_n 0, 1) := by decide +kernel
theorem dX2_firstMix_1 : decode cX2_firstMix 1 = .ok (.invokevirtual 61, 3) := by decide +kernel
theorem dX2_firstMix_4 : decode cX2_firstMix 4 = .ok (.istore_n 1, 1) := by decide +kernel
theorem dX2_firstMix_5 : decode cX2_firstMix 5 = .ok (.iconst 1, 1) := by decide +kernel
theorem dX2_firstMix_6 : decode cX2_firstMix 6 = .ok (.istore_n 2, 1) := by decide +kernel
theorem dX2_firstMix_7 : decode cX2_firstMix 7 = .ok (.iload_n 2, 1) := by decide +kernel
theorem dX2_firstMix_8 : decode cX2_firstMix 8 = .ok (.aload_n 0, 1) := by decide +kernel
theorem dX2_firstMix_9 : decode cX2_firstMix 9 = .ok (.getfield 15, 3) := by decide +kernel
theorem dX2_firstMix_12 : decode cX2_firstMix 12 = .ok (.if_icmp .gt 33, 3) := by decide +kernel
theorem dX2_firstMix_15 : decode cX2_firstMix 15 = .ok (.iload_n 1, 1) := by decide +kernel
theorem dX2_firstMix_16 : decode cX2_firstMix 16 = .ok (.ifCond .le 29, 3) := by decide +kernel
theorem dX2_firstMix_19 : decode cX2_firstMix 19 = .ok (.aload_n 0, 1) := by decide +kernel
theorem dX2_firstMix_20 : decode cX2_firstMix 20 = .ok (.aload_n 0, 1) := by decide +kernel
theorem dX2_firstMix_21 : decode cX2_firstMix 21 = .ok (.getfield 9, 3) := by decide +kernel
theorem dX2_firstMix_24 : decode cX2_firstMix 24 = .ok (.aload_n 0, 1) := by decide +kernel
theorem dX2_firstMix_25 : decode cX2_firstMix 25 = .ok (.getfield 18, 3) := by decide +kernel
theorem dX2_firstMix_28 : decode cX2_firstMix 28 = .ok (.iload_n 2, 1) := by decide +kernel
theorem dX2_firstMix_29 : decode cX2_firstMix 29 = .ok (.iaload, 1) := by decide +kernel
theorem dX2_firstMix_30 : decode cX2_firstMix 30 = .ok (.invokevirtual 64, 3) := by decide +kernel
theorem dX2_firstMix_33 : decode cX2_firstMix 33 = .ok (.iload_n 1, 1) := by decide +kernel
theorem dX2_firstMix_34 : decode cX2_firstMix 34 = .ok (.if_icmp .ne 5, 3) := by decide +kernel
theorem dX2_firstMix_37 : decode cX2_firstMix 37 = .ok (.iload_n 2, 1) := by decide +kernel
theorem dX2_firstMix_38 : decode cX2_firstMix 38 = .ok (.ireturn, 1) := by decide +kernel
theorem dX2_firstMix_39 : decode cX2_firstMix 39 = .ok (.iinc 2 1, 3) := by decide +kernel
theorem dX2_firstMix_42 : decode cX2_firstMix 42 = .ok (.goto (-35), 3) := by decide +kernel
theorem dX2_firstMix_45 : decode cX2_firstMix 45 = .ok (.bipush (-4), 2) := by decide +kernel
theorem dX2_firstMix_47 : decode cX2_firstMix 47 = .ok (.ireturn, 1) := by decide +kernel
set_option maxRecDepth 20000 in
theorem ggX2_findDepths_X2_findCuts : GoodIn wsX2_findDepths wsX2_findCuts := goodIn_r _ [7, 1, 8, 9, 10, 11, 12, 13, 14, 15, 16, 41, 42, 43, 44, 45, 46, 47, 48, 49] (by decide +kernel) (by decide +kernel)
set_option maxRecDepth 20000 in
theorem gX2_findDepths_X2_findCuts : GoodIn wsX2_findDepths (wsV RX2 67 RX2 yX2_findCuts wsX2_findCuts) := goodIn_app (goodIn_of _ (by decide +kernel)) ggX2_findDepths_X2_findCuts
set_option maxRecDepth 20000 in
theorem ggX2_findDepths_X2_isOneAtMost : GoodIn wsX2_findDepths wsX2_isOneAtMost := goodIn_r _ [19] (by decide +kernel) (by decide +kernel)
set_option maxRecDepth 20000 in
theorem gX2_findDepths_X2_isOneAtMost : GoodIn wsX2_findDepths (va_wsS RX2 70 yX2_isOneAtMost wsX2_isOneAtMost) := goodIn_app (goodIn_of _ (by decide +kernel)) ggX2_findDepths_X2_isOneAtMost
set_option maxRecDepth 20000 in
theorem ggX2_findDepths_X2_depthOf : GoodIn wsX2_findDepths wsX2_depthOf := goodIn_r _ [23, 9, 16, 12, 13, 14, 15, 24, 25, 26, 27, 28, 29, 30, 31, 32, 6, 33, 34, 35, 36, 37, 2, 38, 39, 40, 41, 42, 43, 44, 45, 46, 47, 48, 49] (by decide +kernel) (by decide +kernel)
set_option maxRecDepth 20000 in
theorem gX2_findDepths_X2_depthOf : GoodIn wsX2_findDepths (wsV RX2 74 RX2 yX2_depthOf wsX2_depthOf) := goodIn_app (goodIn_of _ (by decide +kernel)) ggX2_findDepths_X2_depthOf
theorem dX2_findDepths_0 : decode cX2_findDepths 0 = .ok (.aload_n 0, 1) := by decide +kernel
theorem dX2_findDepths_1 : decode cX2_findDepths 1 = .ok (.invokevirtual 67, 3) := by decide +kernel
theorem dX2_findDepths_4 : decode cX2_findDepths 4 = .ok (.iconst 0, 1) := by decide +kernel
theorem dX2_findDepths_5 : decode cX2_findDepths 5 = .ok (.istore_n 1, 1) := by decide +kernel
theorem dX2_findDepths_6 : decode cX2_findDepths 6 = .ok (.iload_n 1, 1) := by decide +kernel
theorem dX2_findDepths_7 : decode cX2_findDepths 7 = .ok (.aload_n 0, 1) := by decide +kernel
theorem dX2_findDepths_8 : decode cX2_findDepths 8 = .ok (.getfield 9, 3) := by decide +kernel
theorem dX2_findDepths_11 : decode cX2_findDepths 11 = .ok (.if_icmp .gt 42, 3) := by decide +kernel
theorem dX2_findDepths_14 : decode cX2_findDepths 14 = .ok (.iload_n 1, 1) := by decide +kernel
theorem dX2_findDepths_15 : decode cX2_findDepths 15 = .ok (.aload_n 0, 1) := by decide +kernel
theorem dX2_findDepths_16 : decode cX2_findDepths 16 = .ok (.getfield 9, 3) := by decide +kernel
theorem dX2_findDepths_19 : decode cX2_findDepths 19 = .ok (.iconst (-1), 1) := by decide +kernel
theorem dX2_findDepths_20 : decode cX2_findDepths 20 = .ok (.ixor, 1) := by decide +kernel
theorem dX2_findDepths_21 : decode cX2_findDepths 21 = .ok (.iand, 1) := by decide +kernel
theorem dX2_findDepths_22 : decode cX2_findDepths 22 = .ok (.ifCond .ne 25, 3) := by decide +kernel
theorem dX2_findDepths_25 : decode cX2_findDepths 25 = .ok (.aload_n 0, 1) := by decide +kernel
theorem dX2_findDepths_26 : decode cX2_findDepths 26 = .ok (.getfield 32, 3) := by decide +kernel
theorem dX2_findDepths_29 : decode cX2_findDepths 29 = .ok (.iload_n 1, 1) := by decide +kernel
theorem dX2_findDepths_30 : decode cX2_findDepths 30 = .ok (.iload_n 1, 1) := by decide +kernel
theorem dX2_findDepths_31 : decode cX2_findDepths 31 = .ok (.invokestatic 70, 3) := by decide +kernel
theorem dX2_findDepths_34 : decode cX2_findDepths 34 = .ok (.ifCond .eq 7, 3) := by decide +kernel
theorem dX2_findDepths_37 : decode cX2_findDepths 37 = .ok (.iconst 0, 1) := by decide +kernel
theorem dX2_findDepths_38 : decode cX2_findDepths 38 = .ok (.goto 8, 3) := by decide +kernel
theorem dX2_findDepths_41 : decode cX2_findDepths 41 = .ok (.aload_n 0, 1) := by decide +kernel
theorem dX2_findDepths_42 : decode cX2_findDepths 42 = .ok (.iload_n 1, 1) := by decide +kernel
theorem dX2_findDepths_43 : decode cX2_findDepths 43 = .ok (.invokevirtual 74, 3) := by decide +kernel
theorem dX2_findDepths_46 : decode cX2_findDepths 46 = .ok (.iastore, 1) := by decide +kernel
theorem dX2_findDepths_47 : decode cX2_findDepths 47 = .ok (.iinc 1 1, 3) := by decide +kernel
theorem dX2_findDepths_50 : decode cX2_findDepths 50 = .ok (.goto (-44), 3) := by decide +kernel
theorem dX2_findDepths_53 : decode cX2_findDepths 53 = .ok (.return_, 1) := by decide +kernel
theorem dX2_findCuts_0 : decode cX2_findCuts 0 = .ok (.iconst 0, 1) := by decide +kernel
theorem dX2_findCuts_1 : decode cX2_findCuts 1 = .ok (.istore_n 1, 1) := by decide +kernel
theorem dX2_findCuts_2 : decode cX2_findCuts 2 = .ok (.iload_n 1, 1) := by decide +kernel
theorem dX2_findCuts_3 : decode cX2_findCuts 3 = .ok (.aload_n 0, 1) := by decide +kernel
theorem dX2_findCuts_4 : decode cX2_findCuts 4 = .ok (.getfield 9, 3) := by decide +kernel
theorem dX2_findCuts_7 : decode cX2_findCuts 7 = .ok (.if_icmp .gt 16, 3) := by decide +kernel
theorem dX2_findCuts_10 : decode cX2_findCuts 10 = .ok (.aload_n 0, 1) := by decide +kernel
theorem dX2_findCuts_11 : decode cX2_findCuts 11 = .ok (.getfield 28, 3) := by decide +kernel
theorem dX2_findCuts_14 : decode cX2_findCuts 14 = .ok (.iload_n 1, 1) := by decide +kernel
theorem dX2_findCuts_15 : decode cX2_findCuts 15 = .ok (.iconst 0, 1) := by decide +kernel
theorem dX2_findCuts_16 : decode cX2_findCuts 16 = .ok (.bastore, 1) := by decide +kernel
theorem dX2_findCuts_17 : decode cX2_findCuts 17 = .ok (.iinc 1 1, 3) := by decide +kernel
theorem dX2_findCuts_20 : decode cX2_findCuts 20 = .ok (.goto (-18), 3) := by decide +kernel
theorem dX2_findCuts_23 : decode cX2_findCuts 23 = .ok (.aload_n 0, 1) := by decide +kernel
theorem dX2_findCuts_24 : decode cX2_findCuts 24 = .ok (.iconst 0, 1) := by decide +kernel
theorem dX2_findCuts_25 : decode cX2_findCuts 25 = .ok (.putfield 25, 3) := by decide +kernel
theorem dX2_findCuts_28 : decode cX2_findCuts 28 = .ok (.iconst 1, 1) := by decide +kernel
theorem dX2_findCuts_29 : decode cX2_findCuts 29 = .ok (.istore_n 1, 1) := by decide +kernel
theorem dX2_findCuts_30 : decode cX2_findCuts 30 = .ok (.iload_n 1, 1) := by decide +kernel
theorem dX2_findCuts_31 : decode cX2_findCuts 31 = .ok (.aload_n 0, 1) := by decide +kernel
theorem dX2_findCuts_32 : decode cX2_findCuts 32 = .ok (.getfield 15, 3) := by decide +kernel
theorem dX2_findCuts_35 : decode cX2_findCuts 35 = .ok (.if_icmp .gt 68, 3) := by decide +kernel
theorem dX2_findCuts_38 : decode cX2_findCuts 38 = .ok (.aload_n 0, 1) := by decide +kernel
theorem dX2_findCuts_39 : decode cX2_findCuts 39 = .ok (.getfield 18, 3) := by decide +kernel
theorem dX2_findCuts_42 : decode cX2_findCuts 42 = .ok (.iload_n 1, 1) := by decide +kernel
theorem dX2_findCuts_43 : decode cX2_findCuts 43 = .ok (.iaload, 1) := by decide +kernel
theorem dX2_findCuts_44 : decode cX2_findCuts 44 = .ok (.aload_n 0, 1) := by decide +kernel
theorem dX2_findCuts_45 : decode cX2_findCuts 45 = .ok (.getfield 9, 3) := by decide +kernel
theorem dX2_findCuts_48 : decode cX2_findCuts 48 = .ok (.aload_n 0, 1) := by decide +kernel
theorem dX2_findCuts_49 : decode cX2_findCuts 49 = .ok (.getfield 18, 3) := by decide +kernel
theorem dX2_findCuts_52 : decode cX2_findCuts 52 = .ok (.iload_n 1, 1) := by decide +kernel
theorem dX2_findCuts_53 : decode cX2_findCuts 53 = .ok (.iaload, 1) := by decide +kernel
theorem dX2_findCuts_54 : decode cX2_findCuts 54 = .ok (.iconst (-1), 1) := by decide +kernel
theorem dX2_findCuts_55 : decode cX2_findCuts 55 = .ok (.ixor, 1) := by decide +kernel
theorem dX2_findCuts_56 : decode cX2_findCuts 56 = .ok (.iand, 1) := by decide +kernel
theorem dX2_findCuts_57 : decode cX2_findCuts 57 = .ok (.invokestatic 78, 3) := by decide +kernel
theorem dX2_findCuts_60 : decode cX2_findCuts 60 = .ok (.istore_n 2, 1) := by decide +kernel
theorem dX2_findCuts_61 : decode cX2_findCuts 61 = .ok (.aload_n 0, 1) := by decide +kernel
theorem dX2_findCuts_62 : decode cX2_findCuts 62 = .ok (.getfield 28, 3) := by decide +kernel
theorem dX2_findCuts_65 : decode cX2_findCuts 65 = .ok (.iload_n 2, 1) := by decide +kernel
theorem dX2_findCuts_66 : decode cX2_findCuts 66 = .ok (.baload, 1) := by decide +kernel
theorem dX2_findCuts_67 : decode cX2_findCuts 67 = .ok (.ifCond .ne 30, 3) := by decide +kernel
theorem dX2_findCuts_70 : decode cX2_findCuts 70 = .ok (.aload_n 0, 1) := by decide +kernel
theorem dX2_findCuts_71 : decode cX2_findCuts 71 = .ok (.getfield 28, 3) := by decide +kernel
theorem dX2_findCuts_74 : decode cX2_findCuts 74 = .ok (.iload_n 2, 1) := by decide +kernel
theorem dX2_findCuts_75 : decode cX2_findCuts 75 = .ok (.iconst 1, 1) := by decide +kernel
theorem dX2_findCuts_76 : decode cX2_findCuts 76 = .ok (.bastore, 1) := by decide +kernel
theorem dX2_findCuts_77 : decode cX2_findCuts 77 = .ok (.aload_n 0, 1) := by decide +kernel
theorem dX2_findCuts_78 : decode cX2_findCuts 78 = .ok (.getfield 22, 3) := by decide +kernel
theorem dX2_findCuts_81 : decode cX2_findCuts 81 = .ok (.aload_n 0, 1) := by decide +kernel
theorem dX2_findCuts_82 : decode cX2_findCuts 82 = .ok (.getfield 25, 3) := by decide +kernel
theorem dX2_findCuts_85 : decode cX2_findCuts 85 = .ok (.iload_n 2, 1) := by decide +kernel
theorem dX2_findCuts_86 : decode cX2_findCuts 86 = .ok (.iastore, 1) := by decide +kernel
theorem dX2_findCuts_87 : decode cX2_findCuts 87 = .ok (.aload_n 0, 1) := by decide +kernel
theorem dX2_findCuts_88 : decode cX2_findCuts 88 = .ok (.dup, 1) := by decide +kernel
theorem dX2_findCuts_89 : decode cX2_findCuts 89 = .ok (.getfield 25, 3) := by decide +kernel
theorem dX2_findCuts_92 : decode cX2_findCuts 92 = .ok (.iconst 1, 1) := by decide +kernel
theorem dX2_findCuts_93 : decode cX2_findCuts 93 = .ok (.iadd, 1) := by decide +kernel
theorem dX2_findCuts_94 : decode cX2_findCuts 94 = .ok (.putfield 25, 3) := by decide +kernel
theorem dX2_findCuts_97 : decode cX2_findCuts 97 = .ok (.iinc 1 1, 3) := by decide +kernel
theorem dX2_findCuts_100 : decode cX2_findCuts 100 = .ok (.goto (-70), 3) := by decide +kernel
theorem dX2_findCuts_103 : decode cX2_findCuts 103 = .ok (.return_, 1) := by decide +kernel
set_option maxRecDepth 20000 in
theorem ggX2_depthOf_J6_bitCount_0f7a4 : GoodIn wsX2_depthOf wsJ6_bitCount_0f7a4 := goodIn_r _ [10, 11, 12, 13] (by decide +kernel) (by decide +kernel)
set_option maxRecDepth 20000 in
theorem gX2_depthOf_J6_bitCount_0f7a4 : GoodIn wsX2_depthOf (va_wsS RX2 83 yJ6_bitCount_0f7a4 wsJ6_bitCount_0f7a4) := goodIn_app (goodIn_of _ (by decide +kernel)) ggX2_depthOf_J6_bitCount_0f7a4
set_option maxRecDepth 20000 in
theorem ggX2_depthOf_X2_leastThinkable : GoodIn wsX2_depthOf wsX2_leastThinkable := goodIn_r _ [17] (by decide +kernel) (by decide +kernel)
set_option maxRecDepth 20000 in
theorem gX2_depthOf_X2_leastThinkable : GoodIn wsX2_depthOf (va_wsS RX2 88 yX2_leastThinkable wsX2_leastThinkable) := goodIn_app (goodIn_of _ (by decide +kernel)) ggX2_depthOf_X2_leastThinkable
set_option maxRecDepth 20000 in
theorem ggX2_depthOf_X2_depthBehind : GoodIn wsX2_depthOf wsX2_depthBehind := goodIn_r _ [21, 22, 23, 24, 5, 25, 3, 4, 6, 26, 27, 28, 29, 30, 31, 32, 33, 34] (by decide +kernel) (by decide +kernel)
set_option maxRecDepth 20000 in
theorem gX2_depthOf_X2_depthBehind : GoodIn wsX2_depthOf (wsV RX2 64 RX2 yX2_depthBehind wsX2_depthBehind) := goodIn_app (goodIn_of _ (by decide +kernel)) ggX2_depthOf_X2_depthBehind
theorem dX2_depthOf_0 : decode cX2_depthOf 0 = .ok (.iload_n 1, 1) := by decide +kernel
theorem dX2_depthOf_1 : decode cX2_depthOf 1 = .ok (.invokestatic 83, 3) := by decide +kernel
theorem dX2_depthOf_4 : decode cX2_depthOf 4 = .ok (.invokestatic 88, 3) := by decide +kernel
theorem dX2_depthOf_7 : decode cX2_depthOf 7 = .ok (.istore_n 2, 1) := by decide +kernel
theorem dX2_depthOf_8 : decode cX2_depthOf 8 = .ok (.bipush 99, 2) := by decide +kernel
theorem dX2_depthOf_10 : decode cX2_depthOf 10 = .ok (.istore_n 3, 1) := by decide +kernel
theorem dX2_depthOf_11 : decode cX2_depthOf 11 = .ok (.iconst 0, 1) := by decide +kernel
theorem dX2_depthOf_12 : decode cX2_depthOf 12 = .ok (.istore 4, 2) := by decide +kernel
theorem dX2_depthOf_14 : decode cX2_depthOf 14 = .ok (.iload 4, 2) := by decide +kernel
theorem dX2_depthOf_16 : decode cX2_depthOf 16 = .ok (.aload_n 0, 1) := by decide +kernel
theorem dX2_depthOf_17 : decode cX2_depthOf 17 = .ok (.getfield 25, 3) := by decide +kernel
theorem dX2_depthOf_20 : decode cX2_depthOf 20 = .ok (.if_icmp .ge 31, 3) := by decide +kernel
theorem dX2_depthOf_23 : decode cX2_depthOf 23 = .ok (.iload_n 3, 1) := by decide +kernel
theorem dX2_depthOf_24 : decode cX2_depthOf 24 = .ok (.iload_n 2, 1) := by decide +kernel
theorem dX2_depthOf_25 : decode cX2_depthOf 25 = .ok (.if_icmp .le 26, 3) := by decide +kernel
theorem dX2_depthOf_28 : decode cX2_depthOf 28 = .ok (.iload_n 3, 1) := by decide +kernel
theorem dX2_depthOf_29 : decode cX2_depthOf 29 = .ok (.aload_n 0, 1) := by decide +kernel
theorem dX2_depthOf_30 : decode cX2_depthOf 30 = .ok (.iload_n 1, 1) := by decide +kernel
theorem dX2_depthOf_31 : decode cX2_depthOf 31 = .ok (.aload_n 0, 1) := by decide +kernel
theorem dX2_depthOf_32 : decode cX2_depthOf 32 = .ok (.getfield 22, 3) := by decide +kernel
theorem dX2_depthOf_35 : decode cX2_depthOf 35 = .ok (.iload 4, 2) := by decide +kernel
theorem dX2_depthOf_37 : decode cX2_depthOf 37 = .ok (.iaload, 1) := by decide +kernel
theorem dX2_depthOf_38 : decode cX2_depthOf 38 = .ok (.invokevirtual 64, 3) := by decide +kernel
theorem dX2_depthOf_41 : decode cX2_depthOf 41 = .ok (.invokestatic 78, 3) := by decide +kernel
theorem dX2_depthOf_44 : decode cX2_depthOf 44 = .ok (.istore_n 3, 1) := by decide +kernel
theorem dX2_depthOf_45 : decode cX2_depthOf 45 = .ok (.iinc 4 1, 3) := by decide +kernel
theorem dX2_depthOf_48 : decode cX2_depthOf 48 = .ok (.goto (-34), 3) := by decide +kernel
theorem dX2_depthOf_51 : decode cX2_depthOf 51 = .ok (.iload_n 3, 1) := by decide +kernel
theorem dX2_depthOf_52 : decode cX2_depthOf 52 = .ok (.ireturn, 1) := by decide +kernel
theorem dX2_leastThinkable_0 : decode cX2_leastThinkable 0 = .ok (.iconst 0, 1) := by decide +kernel
theorem dX2_leastThinkable_1 : decode cX2_leastThinkable 1 = .ok (.istore_n 1, 1) := by decide +kernel
theorem dX2_leastThinkable_2 : decode cX2_leastThinkable 2 = .ok (.iload_n 1, 1) := by decide +kernel
theorem dX2_leastThinkable_3 : decode cX2_leastThinkable 3 = .ok (.bipush 8, 2) := by decide +kernel
theorem dX2_leastThinkable_5 : decode cX2_leastThinkable 5 = .ok (.if_icmp .ge 16, 3) := by decide +kernel
theorem dX2_leastThinkable_8 : decode cX2_leastThinkable 8 = .ok (.iconst 1, 1) := by decide +kernel
theorem dX2_leastThinkable_9 : decode cX2_leastThinkable 9 = .ok (.iload_n 1, 1) := by decide +kernel
theorem dX2_leastThinkable_10 : decode cX2_leastThinkable 10 = .ok (.ishl, 1) := by decide +kernel
theorem dX2_leastThinkable_11 : decode cX2_leastThinkable 11 = .ok (.iload_n 0, 1) := by decide +kernel
theorem dX2_leastThinkable_12 : decode cX2_leastThinkable 12 = .ok (.if_icmp .ge 9, 3) := by decide +kernel
theorem dX2_leastThinkable_15 : decode cX2_leastThinkable 15 = .ok (.iinc 1 1, 3) := by decide +kernel
theorem dX2_leastThinkable_18 : decode cX2_leastThinkable 18 = .ok (.goto (-16), 3) := by decide +kernel
theorem dX2_leastThinkable_21 : decode cX2_leastThinkable 21 = .ok (.iload_n 1, 1) := by decide +kernel
theorem dX2_leastThinkable_22 : decode cX2_leastThinkable 22 = .ok (.ireturn, 1) := by decide +kernel
theorem dX2_depthBehind_0 : decode cX2_depthBehind 0 = .ok (.iload_n 1, 1) := by decide +kernel
theorem dX2_depthBehind_1 : decode cX2_depthBehind 1 = .ok (.iload_n 2, 1) := by decide +kernel
theorem dX2_depthBehind_2 : decode cX2_depthBehind 2 = .ok (.iand, 1) := by decide +kernel
theorem dX2_depthBehind_3 : decode cX2_depthBehind 3 = .ok (.istore_n 3, 1) := by decide +kernel
theorem dX2_depthBehind_4 : decode cX2_depthBehind 4 = .ok (.iload_n 1, 1) := by decide +kernel
theorem dX2_depthBehind_5 : decode cX2_depthBehind 5 = .ok (.iload_n 2, 1) := by decide +kernel
theorem dX2_depthBehind_6 : decode cX2_depthBehind 6 = .ok (.iconst (-1), 1) := by decide +kernel
theorem dX2_depthBehind_7 : decode cX2_depthBehind 7 = .ok (.ixor, 1) := by decide +kernel
theorem dX2_depthBehind_8 : decode cX2_depthBehind 8 = .ok (.iand, 1) := by decide +kernel
theorem dX2_depthBehind_9 : decode cX2_depthBehind 9 = .ok (.istore 4, 2) := by decide +kernel
theorem dX2_depthBehind_11 : decode cX2_depthBehind 11 = .ok (.iload_n 3, 1) := by decide +kernel
theorem dX2_depthBehind_12 : decode cX2_depthBehind 12 = .ok (.ifCond .eq 8, 3) := by decide +kernel
theorem dX2_depthBehind_15 : decode cX2_depthBehind 15 = .ok (.iload 4, 2) := by decide +kernel
theorem dX2_depthBehind_17 : decode cX2_depthBehind 17 = .ok (.ifCond .ne 6, 3) := by decide +kernel
theorem dX2_depthBehind_20 : decode cX2_depthBehind 20 = .ok (.bipush 99, 2) := by decide +kernel
theorem dX2_depthBehind_22 : decode cX2_depthBehind 22 = .ok (.ireturn, 1) := by decide +kernel
theorem dX2_depthBehind_23 : decode cX2_depthBehind 23 = .ok (.bipush 99, 2) := by decide +kernel
theorem dX2_depthBehind_25 : decode cX2_depthBehind 25 = .ok (.iconst 1, 1) := by decide +kernel
theorem dX2_depthBehind_26 : decode cX2_depthBehind 26 = .ok (.aload_n 0, 1) := by decide +kernel
theorem dX2_depthBehind_27 : decode cX2_depthBehind 27 = .ok (.getfield 32, 3) := by decide +kernel
theorem dX2_depthBehind_30 : decode cX2_depthBehind 30 = .ok (.iload_n 3, 1) := by decide +kernel
theorem dX2_depthBehind_31 : decode cX2_depthBehind 31 = .ok (.iaload, 1) := by decide +kernel
theorem dX2_depthBehind_32 : decode cX2_depthBehind 32 = .ok (.aload_n 0, 1) := by decide +kernel
theorem dX2_depthBehind_33 : decode cX2_depthBehind 33 = .ok (.getfield 32, 3) := by decide +kernel
theorem dX2_depthBehind_36 : decode cX2_depthBehind 36 = .ok (.iload 4, 2) := by decide +kernel
theorem dX2_depthBehind_38 : decode cX2_depthBehind 38 = .ok (.iaload, 1) := by decide +kernel
theorem dX2_depthBehind_39 : decode cX2_depthBehind 39 = .ok (.invokestatic 91, 3) := by decide +kernel
theorem dX2_depthBehind_42 : decode cX2_depthBehind 42 = .ok (.iadd, 1) := by decide +kernel
theorem dX2_depthBehind_43 : decode cX2_depthBehind 43 = .ok (.invokestatic 78, 3) := by decide +kernel
theorem dX2_depthBehind_46 : decode cX2_depthBehind 46 = .ok (.ireturn, 1) := by decide +kernel
set_option maxRecDepth 20000 in
theorem ggX2_chooseAhead_X2_isOneAtMost : GoodIn wsX2_chooseAhead wsX2_isOneAtMost := goodIn_r _ [9] (by decide +kernel) (by decide +kernel)
set_option maxRecDepth 20000 in
theorem gX2_chooseAhead_X2_isOneAtMost : GoodIn wsX2_chooseAhead (va_wsS RX2 70 yX2_isOneAtMost wsX2_isOneAtMost) := goodIn_app (goodIn_of _ (by decide +kernel)) ggX2_chooseAhead_X2_isOneAtMost
set_option maxRecDepth 20000 in
theorem ggX2_chooseAhead_X2_partnerOf : GoodIn wsX2_chooseAhead wsX2_partnerOf := goodIn_r _ [13, 3, 1, 2, 14, 15, 16, 17, 18, 19, 20, 21, 22, 8, 23, 6, 7, 9, 24, 25, 26, 27, 28, 29, 30, 31, 32] (by decide +kernel) (by decide +kernel)
set_option maxRecDepth 20000 in
theorem gX2_chooseAhead_X2_partnerOf : GoodIn wsX2_chooseAhead (wsV RX2 94 RX2 yX2_partnerOf wsX2_partnerOf) := goodIn_app (goodIn_of _ (by decide +kernel)) ggX2_chooseAhead_X2_partnerOf
theorem dX2_chooseAhead_0 : decode cX2_chooseAhead 0 = .ok (.aload_n 0, 1) := by decide +kernel
theorem dX2_chooseAhead_1 : decode cX2_chooseAhead 1 = .ok (.getfield 9, 3) := by decide +kernel
theorem dX2_chooseAhead_4 : decode cX2_chooseAhead 4 = .ok (.invokestatic 70, 3) := by decide +kernel
theorem dX2_chooseAhead_7 : decode cX2_chooseAhead 7 = .ok (.ifCond .eq 5, 3) := by decide +kernel
theorem dX2_chooseAhead_10 : decode cX2_chooseAhead 10 = .ok (.iconst 0, 1) := by decide +kernel
theorem dX2_chooseAhead_11 : decode cX2_chooseAhead 11 = .ok (.ireturn, 1) := by decide +kernel
theorem dX2_chooseAhead_12 : decode cX2_chooseAhead 12 = .ok (.iconst 1, 1) := by decide +kernel
theorem dX2_chooseAhead_13 : decode cX2_chooseAhead 13 = .ok (.istore_n 1, 1) := by decide +kernel
theorem dX2_chooseAhead_14 : decode cX2_chooseAhead 14 = .ok (.iload_n 1, 1) := by decide +kernel
theorem dX2_chooseAhead_15 : decode cX2_chooseAhead 15 = .ok (.aload_n 0, 1) := by decide +kernel
theorem dX2_chooseAhead_16 : decode cX2_chooseAhead 16 = .ok (.getfield 15, 3) := by decide +kernel
theorem dX2_chooseAhead_19 : decode cX2_chooseAhead 19 = .ok (.if_icmp .gt 47, 3) := by decide +kernel
theorem dX2_chooseAhead_22 : decode cX2_chooseAhead 22 = .ok (.aload_n 0, 1) := by decide +kernel
theorem dX2_chooseAhead_23 : decode cX2_chooseAhead 23 = .ok (.getfield 18, 3) := by decide +kernel
theorem dX2_chooseAhead_26 : decode cX2_chooseAhead 26 = .ok (.iload_n 1, 1) := by decide +kernel
theorem dX2_chooseAhead_27 : decode cX2_chooseAhead 27 = .ok (.iaload, 1) := by decide +kernel
theorem dX2_chooseAhead_28 : decode cX2_chooseAhead 28 = .ok (.invokestatic 70, 3) := by decide +kernel
theorem dX2_chooseAhead_31 : decode cX2_chooseAhead 31 = .ok (.ifCond .eq 29, 3) := by decide +kernel
theorem dX2_chooseAhead_34 : decode cX2_chooseAhead 34 = .ok (.aload_n 0, 1) := by decide +kernel
theorem dX2_chooseAhead_35 : decode cX2_chooseAhead 35 = .ok (.getfield 9, 3) := by decide +kernel
theorem dX2_chooseAhead_38 : decode cX2_chooseAhead 38 = .ok (.aload_n 0, 1) := by decide +kernel
theorem dX2_chooseAhead_39 : decode cX2_chooseAhead 39 = .ok (.getfield 18, 3) := by decide +kernel
theorem dX2_chooseAhead_42 : decode cX2_chooseAhead 42 = .ok (.iload_n 1, 1) := by decide +kernel
theorem dX2_chooseAhead_43 : decode cX2_chooseAhead 43 = .ok (.iaload, 1) := by decide +kernel
theorem dX2_chooseAhead_44 : decode cX2_chooseAhead 44 = .ok (.iconst (-1), 1) := by decide +kernel
theorem dX2_chooseAhead_45 : decode cX2_chooseAhead 45 = .ok (.ixor, 1) := by decide +kernel
theorem dX2_chooseAhead_46 : decode cX2_chooseAhead 46 = .ok (.iand, 1) := by decide +kernel
theorem dX2_chooseAhead_47 : decode cX2_chooseAhead 47 = .ok (.invokestatic 70, 3) := by decide +kernel
theorem dX2_chooseAhead_50 : decode cX2_chooseAhead 50 = .ok (.ifCond .eq 10, 3) := by decide +kernel
theorem dX2_chooseAhead_53 : decode cX2_chooseAhead 53 = .ok (.aload_n 0, 1) := by decide +kernel
theorem dX2_chooseAhead_54 : decode cX2_chooseAhead 54 = .ok (.iload_n 1, 1) := by decide +kernel
theorem dX2_chooseAhead_55 : decode cX2_chooseAhead 55 = .ok (.putfield 35, 3) := by decide +kernel
theorem dX2_chooseAhead_58 : decode cX2_chooseAhead 58 = .ok (.iconst 1, 1) := by decide +kernel
theorem dX2_chooseAhead_59 : decode cX2_chooseAhead 59 = .ok (.ireturn, 1) := by decide +kernel
theorem dX2_chooseAhead_60 : decode cX2_chooseAhead 60 = .ok (.iinc 1 1, 3) := by decide +kernel
theorem dX2_chooseAhead_63 : decode cX2_chooseAhead 63 = .ok (.goto (-49), 3) := by decide +kernel
theorem dX2_chooseAhead_66 : decode cX2_chooseAhead 66 = .ok (.iconst 1, 1) := by decide +kernel
theorem dX2_chooseAhead_67 : decode cX2_chooseAhead 67 = .ok (.istore_n 1, 1) := by decide +kernel
theorem dX2_chooseAhead_68 : decode cX2_chooseAhead 68 = .ok (.iload_n 1, 1) := by decide +kernel
theorem dX2_chooseAhead_69 : decode cX2_chooseAhead 69 = .ok (.aload_n 0, 1) := by decide +kernel
theorem dX2_chooseAhead_70 : decode cX2_chooseAhead 70 = .ok (.getfield 15, 3) := by decide +kernel
theorem dX2_chooseAhead_73 : decode cX2_chooseAhead 73 = .ok (.if_icmp .ge 33, 3) := by decide +kernel
theorem dX2_chooseAhead_76 : decode cX2_chooseAhead 76 = .ok (.aload_n 0, 1) := by decide +kernel
theorem dX2_chooseAhead_77 : decode cX2_chooseAhead 77 = .ok (.iload_n 1, 1) := by decide +kernel
theorem dX2_chooseAhead_78 : decode cX2_chooseAhead 78 = .ok (.invokevirtual 94, 3) := by decide +kernel
theorem dX2_chooseAhead_81 : decode cX2_chooseAhead 81 = .ok (.istore_n 2, 1) := by decide +kernel
theorem dX2_chooseAhead_82 : decode cX2_chooseAhead 82 = .ok (.iload_n 2, 1) := by decide +kernel
theorem dX2_chooseAhead_83 : decode cX2_chooseAhead 83 = .ok (.bipush (-4), 2) := by decide +kernel
theorem dX2_chooseAhead_85 : decode cX2_chooseAhead 85 = .ok (.if_icmp .eq 15, 3) := by decide +kernel
theorem dX2_chooseAhead_88 : decode cX2_chooseAhead 88 = .ok (.aload_n 0, 1) := by decide +kernel
theorem dX2_chooseAhead_89 : decode cX2_chooseAhead 89 = .ok (.iload_n 1, 1) := by decide +kernel
theorem dX2_chooseAhead_90 : decode cX2_chooseAhead 90 = .ok (.putfield 35, 3) := by decide +kernel
theorem dX2_chooseAhead_93 : decode cX2_chooseAhead 93 = .ok (.aload_n 0, 1) := by decide +kernel
theorem dX2_chooseAhead_94 : decode cX2_chooseAhead 94 = .ok (.iload_n 2, 1) := by decide +kernel
theorem dX2_chooseAhead_95 : decode cX2_chooseAhead 95 = .ok (.putfield 38, 3) := by decide +kernel
theorem dX2_chooseAhead_98 : decode cX2_chooseAhead 98 = .ok (.iconst 2, 1) := by decide +kernel
theorem dX2_chooseAhead_99 : decode cX2_chooseAhead 99 = .ok (.ireturn, 1) := by decide +kernel
theorem dX2_chooseAhead_100 : decode cX2_chooseAhead 100 = .ok (.iinc 1 1, 3) := by decide +kernel
theorem dX2_chooseAhead_103 : decode cX2_chooseAhead 103 = .ok (.goto (-35), 3) := by decide +kernel
theorem dX2_chooseAhead_106 : decode cX2_chooseAhead 106 = .ok (.bipush (-4), 2) := by decide +kernel
theorem dX2_chooseAhead_108 : decode cX2_chooseAhead 108 = .ok (.ireturn, 1) := by decide +kernel
set_option maxRecDepth 20000 in
theorem ggX2_partnerOf_J6_bitCount_0f7a4 : GoodIn wsX2_partnerOf wsJ6_bitCount_0f7a4 := goodIn_r _ [7, 8, 9, 10] (by decide +kernel) (by decide +kernel)
set_option maxRecDepth 20000 in
theorem gX2_partnerOf_J6_bitCount_0f7a4 : GoodIn wsX2_partnerOf (va_wsS RX2 83 yJ6_bitCount_0f7a4 wsJ6_bitCount_0f7a4) := goodIn_app (goodIn_of _ (by decide +kernel)) ggX2_partnerOf_J6_bitCount_0f7a4
set_option maxRecDepth 20000 in
theorem ggX2_partnerOf_X2_partsWell : GoodIn wsX2_partnerOf wsX2_partsWell := goodIn_r _ [14, 15, 16, 13, 17] (by decide +kernel) (by decide +kernel)
set_option maxRecDepth 20000 in
theorem gX2_partnerOf_X2_partsWell : GoodIn wsX2_partnerOf (va_wsS RX2 97 yX2_partsWell wsX2_partsWell) := goodIn_app (goodIn_of _ (by decide +kernel)) ggX2_partnerOf_X2_partsWell
theorem dX2_partnerOf_0 : decode cX2_partnerOf 0 = .ok (.aload_n 0, 1) := by decide +kernel
theorem dX2_partnerOf_1 : decode cX2_partnerOf 1 = .ok (.getfield 18, 3) := by decide +kernel
theorem dX2_partnerOf_4 : decode cX2_partnerOf 4 = .ok (.iload_n 1, 1) := by decide +kernel
theorem dX2_partnerOf_5 : decode cX2_partnerOf 5 = .ok (.iaload, 1) := by decide +kernel
theorem dX2_partnerOf_6 : decode cX2_partnerOf 6 = .ok (.istore_n 2, 1) := by decide +kernel
theorem dX2_partnerOf_7 : decode cX2_partnerOf 7 = .ok (.aload_n 0, 1) := by decide +kernel
theorem dX2_partnerOf_8 : decode cX2_partnerOf 8 = .ok (.getfield 9, 3) := by decide +kernel
theorem dX2_partnerOf_11 : decode cX2_partnerOf 11 = .ok (.iload_n 2, 1) := by decide +kernel
theorem dX2_partnerOf_12 : decode cX2_partnerOf 12 = .ok (.iconst (-1), 1) := by decide +kernel
theorem dX2_partnerOf_13 : decode cX2_partnerOf 13 = .ok (.ixor, 1) := by decide +kernel
theorem dX2_partnerOf_14 : decode cX2_partnerOf 14 = .ok (.iand, 1) := by decide +kernel
theorem dX2_partnerOf_15 : decode cX2_partnerOf 15 = .ok (.istore_n 3, 1) := by decide +kernel
theorem dX2_partnerOf_16 : decode cX2_partnerOf 16 = .ok (.iload_n 2, 1) := by decide +kernel
theorem dX2_partnerOf_17 : decode cX2_partnerOf 17 = .ok (.invokestatic 83, 3) := by decide +kernel
theorem dX2_partnerOf_20 : decode cX2_partnerOf 20 = .ok (.iconst 2, 1) := by decide +kernel
theorem dX2_partnerOf_21 : decode cX2_partnerOf 21 = .ok (.if_icmp .gt 11, 3) := by decide +kernel
theorem dX2_partnerOf_24 : decode cX2_partnerOf 24 = .ok (.iload_n 3, 1) := by decide +kernel
theorem dX2_partnerOf_25 : decode cX2_partnerOf 25 = .ok (.invokestatic 83, 3) := by decide +kernel
theorem dX2_partnerOf_28 : decode cX2_partnerOf 28 = .ok (.iconst 2, 1) := by decide +kernel
theorem dX2_partnerOf_29 : decode cX2_partnerOf 29 = .ok (.if_icmp .le 6, 3) := by decide +kernel
theorem dX2_partnerOf_32 : decode cX2_partnerOf 32 = .ok (.bipush (-4), 2) := by decide +kernel
theorem dX2_partnerOf_34 : decode cX2_partnerOf 34 = .ok (.ireturn, 1) := by decide +kernel
theorem dX2_partnerOf_35 : decode cX2_partnerOf 35 = .ok (.iload_n 1, 1) := by decide +kernel
theorem dX2_partnerOf_36 : decode cX2_partnerOf 36 = .ok (.iconst 1, 1) := by decide +kernel
theorem dX2_partnerOf_37 : decode cX2_partnerOf 37 = .ok (.iadd, 1) := by decide +kernel
theorem dX2_partnerOf_38 : decode cX2_partnerOf 38 = .ok (.istore 4, 2) := by decide +kernel
theorem dX2_partnerOf_40 : decode cX2_partnerOf 40 = .ok (.iload 4, 2) := by decide +kernel
theorem dX2_partnerOf_42 : decode cX2_partnerOf 42 = .ok (.aload_n 0, 1) := by decide +kernel
theorem dX2_partnerOf_43 : decode cX2_partnerOf 43 = .ok (.getfield 15, 3) := by decide +kernel
theorem dX2_partnerOf_46 : decode cX2_partnerOf 46 = .ok (.if_icmp .gt 40, 3) := by decide +kernel
theorem dX2_partnerOf_49 : decode cX2_partnerOf 49 = .ok (.iload_n 2, 1) := by decide +kernel
theorem dX2_partnerOf_50 : decode cX2_partnerOf 50 = .ok (.aload_n 0, 1) := by decide +kernel
theorem dX2_partnerOf_51 : decode cX2_partnerOf 51 = .ok (.getfield 18, 3) := by decide +kernel
theorem dX2_partnerOf_54 : decode cX2_partnerOf 54 = .ok (.iload 4, 2) := by decide +kernel
theorem dX2_partnerOf_56 : decode cX2_partnerOf 56 = .ok (.iaload, 1) := by decide +kernel
theorem dX2_partnerOf_57 : decode cX2_partnerOf 57 = .ok (.invokestatic 97, 3) := by decide +kernel
theorem dX2_partnerOf_60 : decode cX2_partnerOf 60 = .ok (.ifCond .eq 20, 3) := by decide +kernel
theorem dX2_partnerOf_63 : decode cX2_partnerOf 63 = .ok (.iload_n 3, 1) := by decide +kernel
theorem dX2_partnerOf_64 : decode cX2_partnerOf 64 = .ok (.aload_n 0, 1) := by decide +kernel
theorem dX2_partnerOf_65 : decode cX2_partnerOf 65 = .ok (.getfield 18, 3) := by decide +kernel
theorem dX2_partnerOf_68 : decode cX2_partnerOf 68 = .ok (.iload 4, 2) := by decide +kernel
theorem dX2_partnerOf_70 : decode cX2_partnerOf 70 = .ok (.iaload, 1) := by decide +kernel
theorem dX2_partnerOf_71 : decode cX2_partnerOf 71 = .ok (.invokestatic 97, 3) := by decide +kernel
theorem dX2_partnerOf_74 : decode cX2_partnerOf 74 = .ok (.ifCond .eq 6, 3) := by decide +kernel
theorem dX2_partnerOf_77 : decode cX2_partnerOf 77 = .ok (.iload 4, 2) := by decide +kernel
theorem dX2_partnerOf_79 : decode cX2_partnerOf 79 = .ok (.ireturn, 1) := by decide +kernel
theorem dX2_partnerOf_80 : decode cX2_partnerOf 80 = .ok (.iinc 4 1, 3) := by decide +kernel
theorem dX2_partnerOf_83 : decode cX2_partnerOf 83 = .ok (.goto (-43), 3) := by decide +kernel
theorem dX2_partnerOf_86 : decode cX2_partnerOf 86 = .ok (.bipush (-4), 2) := by decide +kernel
theorem dX2_partnerOf_88 : decode cX2_partnerOf 88 = .ok (.ireturn, 1) := by decide +kernel
set_option maxRecDepth 20000 in
theorem ggX2_partsWell_X2_isOneAtMost : GoodIn wsX2_partsWell wsX2_isOneAtMost := goodIn_r _ [4] (by decide +kernel) (by decide +kernel)
set_option maxRecDepth 20000 in
theorem gX2_partsWell_X2_isOneAtMost : GoodIn wsX2_partsWell (va_wsS RX2 70 yX2_isOneAtMost wsX2_isOneAtMost) := goodIn_app (goodIn_of _ (by decide +kernel)) ggX2_partsWell_X2_isOneAtMost
theorem dX2_partsWell_0 : decode cX2_partsWell 0 = .ok (.iload_n 0, 1) := by decide +kernel
theorem dX2_partsWell_1 : decode cX2_partsWell 1 = .ok (.iload_n 1, 1) := by decide +kernel
theorem dX2_partsWell_2 : decode cX2_partsWell 2 = .ok (.iand, 1) := by decide +kernel
theorem dX2_partsWell_3 : decode cX2_partsWell 3 = .ok (.invokestatic 70, 3) := by decide +kernel
theorem dX2_partsWell_6 : decode cX2_partsWell 6 = .ok (.ifCond .eq 18, 3) := by decide +kernel
theorem dX2_partsWell_9 : decode cX2_partsWell 9 = .ok (.iload_n 0, 1) := by decide +kernel
theorem dX2_partsWell_10 : decode cX2_partsWell 10 = .ok (.iload_n 1, 1) := by decide +kernel
theorem dX2_partsWell_11 : decode cX2_partsWell 11 = .ok (.iconst (-1), 1) := by decide +kernel
theorem dX2_partsWell_12 : decode cX2_partsWell 12 = .ok (.ixor, 1) := by decide +kernel
theorem dX2_partsWell_13 : decode cX2_partsWell 13 = .ok (.iand, 1) := by decide +kernel
theorem dX2_partsWell_14 : decode cX2_partsWell 14 = .ok (.invokestatic 70, 3) := by decide +kernel
theorem dX2_partsWell_17 : decode cX2_partsWell 17 = .ok (.ifCond .eq 7, 3) := by decide +kernel
theorem dX2_partsWell_20 : decode cX2_partsWell 20 = .ok (.iconst 1, 1) := by decide +kernel
theorem dX2_partsWell_21 : decode cX2_partsWell 21 = .ok (.goto 4, 3) := by decide +kernel
theorem dX2_partsWell_24 : decode cX2_partsWell 24 = .ok (.iconst 0, 1) := by decide +kernel
theorem dX2_partsWell_25 : decode cX2_partsWell 25 = .ok (.ireturn, 1) := by decide +kernel
set_option maxRecDepth 20000 in
theorem ggX2_evenestMix_X2_isOneAtMost : GoodIn wsX2_evenestMix wsX2_isOneAtMost := goodIn_r _ [6] (by decide +kernel) (by decide +kernel)
set_option maxRecDepth 20000 in
theorem gX2_evenestMix_X2_isOneAtMost : GoodIn wsX2_evenestMix (va_wsS RX2 70 yX2_isOneAtMost wsX2_isOneAtMost) := goodIn_app (goodIn_of _ (by decide +kernel)) ggX2_evenestMix_X2_isOneAtMost
set_option maxRecDepth 20000 in
theorem ggX2_evenestMix_X2_greaterPart : GoodIn wsX2_evenestMix wsX2_greaterPart := goodIn_r _ [10, 11, 1, 12, 13, 14, 15, 16, 17, 18, 19, 20, 21, 22, 23, 24, 25, 26, 27, 28, 29, 30, 31] (by decide +kernel) (by decide +kernel)
set_option maxRecDepth 20000 in
theorem gX2_evenestMix_X2_greaterPart : GoodIn wsX2_evenestMix (wsV RX2 101 RX2 yX2_greaterPart wsX2_greaterPart) := goodIn_app (goodIn_of _ (by decide +kernel)) ggX2_evenestMix_X2_greaterPart
theorem dX2_evenestMix_0 : decode cX2_evenestMix 0 = .ok (.aload_n 0, 1) := by decide +kernel
theorem dX2_evenestMix_1 : decode cX2_evenestMix 1 = .ok (.getfield 9, 3) := by decide +kernel
theorem dX2_evenestMix_4 : decode cX2_evenestMix 4 = .ok (.invokestatic 70, 3) := by decide +kernel
theorem dX2_evenestMix_7 : decode cX2_evenestMix 7 = .ok (.ifCond .eq 6, 3) := by decide +kernel
theorem dX2_evenestMix_10 : decode cX2_evenestMix 10 = .ok (.bipush (-4), 2) := by decide +kernel
theorem dX2_evenestMix_12 : decode cX2_evenestMix 12 = .ok (.ireturn, 1) := by decide +kernel
theorem dX2_evenestMix_13 : decode cX2_evenestMix 13 = .ok (.bipush (-4), 2) := by decide +kernel
theorem dX2_evenestMix_15 : decode cX2_evenestMix 15 = .ok (.istore_n 1, 1) := by decide +kernel
theorem dX2_evenestMix_16 : decode cX2_evenestMix 16 = .ok (.bipush 9, 2) := by decide +kernel
theorem dX2_evenestMix_18 : decode cX2_evenestMix 18 = .ok (.istore_n 2, 1) := by decide +kernel
theorem dX2_evenestMix_19 : decode cX2_evenestMix 19 = .ok (.iconst 1, 1) := by decide +kernel
theorem dX2_evenestMix_20 : decode cX2_evenestMix 20 = .ok (.istore_n 3, 1) := by decide +kernel
theorem dX2_evenestMix_21 : decode cX2_evenestMix 21 = .ok (.iload_n 3, 1) := by decide +kernel
theorem dX2_evenestMix_22 : decode cX2_evenestMix 22 = .ok (.aload_n 0, 1) := by decide +kernel
theorem dX2_evenestMix_23 : decode cX2_evenestMix 23 = .ok (.getfield 15, 3) := by decide +kernel
theorem dX2_evenestMix_26 : decode cX2_evenestMix 26 = .ok (.if_icmp .gt 26, 3) := by decide +kernel
theorem dX2_evenestMix_29 : decode cX2_evenestMix 29 = .ok (.aload_n 0, 1) := by decide +kernel
theorem dX2_evenestMix_30 : decode cX2_evenestMix 30 = .ok (.iload_n 3, 1) := by decide +kernel
theorem dX2_evenestMix_31 : decode cX2_evenestMix 31 = .ok (.invokevirtual 101, 3) := by decide +kernel
theorem dX2_evenestMix_34 : decode cX2_evenestMix 34 = .ok (.iload_n 2, 1) := by decide +kernel
theorem dX2_evenestMix_35 : decode cX2_evenestMix 35 = .ok (.if_icmp .ge 11, 3) := by decide +kernel
theorem dX2_evenestMix_38 : decode cX2_evenestMix 38 = .ok (.iload_n 3, 1) := by decide +kernel
theorem dX2_evenestMix_39 : decode cX2_evenestMix 39 = .ok (.istore_n 1, 1) := by decide +kernel
theorem dX2_evenestMix_40 : decode cX2_evenestMix 40 = .ok (.aload_n 0, 1) := by decide +kernel
theorem dX2_evenestMix_41 : decode cX2_evenestMix 41 = .ok (.iload_n 3, 1) := by decide +kernel
theorem dX2_evenestMix_42 : decode cX2_evenestMix 42 = .ok (.invokevirtual 101, 3) := by decide +kernel
theorem dX2_evenestMix_45 : decode cX2_evenestMix 45 = .ok (.istore_n 2, 1) := by decide +kernel
theorem dX2_evenestMix_46 : decode cX2_evenestMix 46 = .ok (.iinc 3 1, 3) := by decide +kernel
theorem dX2_evenestMix_49 : decode cX2_evenestMix 49 = .ok (.goto (-28), 3) := by decide +kernel
theorem dX2_evenestMix_52 : decode cX2_evenestMix 52 = .ok (.iload_n 1, 1) := by decide +kernel
theorem dX2_evenestMix_53 : decode cX2_evenestMix 53 = .ok (.ireturn, 1) := by decide +kernel
set_option maxRecDepth 20000 in
theorem ggX2_greaterPart_J6_bitCount_0f7a4 : GoodIn wsX2_greaterPart wsJ6_bitCount_0f7a4 := goodIn_r _ [10, 11, 12, 13] (by decide +kernel) (by decide +kernel)
set_option maxRecDepth 20000 in
theorem gX2_greaterPart_J6_bitCount_0f7a4 : GoodIn wsX2_greaterPart (va_wsS RX2 83 yJ6_bitCount_0f7a4 wsJ6_bitCount_0f7a4) := goodIn_app (goodIn_of _ (by decide +kernel)) ggX2_greaterPart_J6_bitCount_0f7a4
theorem dX2_greaterPart_0 : decode cX2_greaterPart 0 = .ok (.aload_n 0, 1) := by decide +kernel
theorem dX2_greaterPart_1 : decode cX2_greaterPart 1 = .ok (.getfield 18, 3) := by decide +kernel
theorem dX2_greaterPart_4 : decode cX2_greaterPart 4 = .ok (.iload_n 1, 1) := by decide +kernel
theorem dX2_greaterPart_5 : decode cX2_greaterPart 5 = .ok (.iaload, 1) := by decide +kernel
theorem dX2_greaterPart_6 : decode cX2_greaterPart 6 = .ok (.invokestatic 83, 3) := by decide +kernel
theorem dX2_greaterPart_9 : decode cX2_greaterPart 9 = .ok (.aload_n 0, 1) := by decide +kernel
theorem dX2_greaterPart_10 : decode cX2_greaterPart 10 = .ok (.getfield 9, 3) := by decide +kernel
theorem dX2_greaterPart_13 : decode cX2_greaterPart 13 = .ok (.aload_n 0, 1) := by decide +kernel
theorem dX2_greaterPart_14 : decode cX2_greaterPart 14 = .ok (.getfield 18, 3) := by decide +kernel
theorem dX2_greaterPart_17 : decode cX2_greaterPart 17 = .ok (.iload_n 1, 1) := by decide +kernel
theorem dX2_greaterPart_18 : decode cX2_greaterPart 18 = .ok (.iaload, 1) := by decide +kernel
theorem dX2_greaterPart_19 : decode cX2_greaterPart 19 = .ok (.iconst (-1), 1) := by decide +kernel
theorem dX2_greaterPart_20 : decode cX2_greaterPart 20 = .ok (.ixor, 1) := by decide +kernel
theorem dX2_greaterPart_21 : decode cX2_greaterPart 21 = .ok (.iand, 1) := by decide +kernel
theorem dX2_greaterPart_22 : decode cX2_greaterPart 22 = .ok (.invokestatic 83, 3) := by decide +kernel
theorem dX2_greaterPart_25 : decode cX2_greaterPart 25 = .ok (.invokestatic 91, 3) := by decide +kernel
theorem dX2_greaterPart_28 : decode cX2_greaterPart 28 = .ok (.ireturn, 1) := by decide +kernel
theorem dX3_init_0 : decode cX3_init 0 = .ok (.aload_n 0, 1) := by decide +kernel
theorem dX3_init_1 : decode cX3_init 1 = .ok (.invokespecial 3, 3) := by decide +kernel
theorem dX3_init_4 : decode cX3_init 4 = .ok (.aload_n 0, 1) := by decide +kernel
theorem dX3_init_5 : decode cX3_init 5 = .ok (.bipush 6, 2) := by decide +kernel
theorem dX3_init_7 : decode cX3_init 7 = .ok (.newarray .int, 2) := by decide +kernel
theorem dX3_init_9 : decode cX3_init 9 = .ok (.putfield 9, 3) := by decide +kernel
theorem dX3_init_12 : decode cX3_init 12 = .ok (.aload_n 0, 1) := by decide +kernel
theorem dX3_init_13 : decode cX3_init 13 = .ok (.bipush 6, 2) := by decide +kernel
theorem dX3_init_15 : decode cX3_init 15 = .ok (.newarray .int, 2) := by decide +kernel
theorem dX3_init_17 : decode cX3_init 17 = .ok (.putfield 15, 3) := by decide +kernel
theorem dX3_init_20 : decode cX3_init 20 = .ok (.aload_n 0, 1) := by decide +kernel
theorem dX3_init_21 : decode cX3_init 21 = .ok (.iconst 0, 1) := by decide +kernel
theorem dX3_init_22 : decode cX3_init 22 = .ok (.putfield 18, 3) := by decide +kernel
theorem dX3_init_25 : decode cX3_init 25 = .ok (.aload_n 0, 1) := by decide +kernel
theorem dX3_init_26 : decode cX3_init 26 = .ok (.bipush 6, 2) := by decide +kernel
theorem dX3_init_28 : decode cX3_init 28 = .ok (.newarray .int, 2) := by decide +kernel
theorem dX3_init_30 : decode cX3_init 30 = .ok (.putfield 22, 3) := by decide +kernel
theorem dX3_init_33 : decode cX3_init 33 = .ok (.return_, 1) := by decide +kernel
set_option maxRecDepth 20000 in
theorem ggX3_read_X4_valueAt : GoodIn wsX3_read wsX4_valueAt := goodIn_r _ [8, 9, 14, 15, 16] (by decide +kernel) (by decide +kernel)
set_option maxRecDepth 20000 in
theorem gX3_read_X4_valueAt : GoodIn wsX3_read (wsV RX3 25 RX4 yX4_valueAt wsX4_valueAt) := goodIn_app (goodIn_of _ (by decide +kernel)) ggX3_read_X4_valueAt
theorem dX3_read_0 : decode cX3_read 0 = .ok (.aload_n 0, 1) := by decide +kernel
theorem dX3_read_1 : decode cX3_read 1 = .ok (.iconst 0, 1) := by decide +kernel
theorem dX3_read_2 : decode cX3_read 2 = .ok (.putfield 18, 3) := by decide +kernel
theorem dX3_read_5 : decode cX3_read 5 = .ok (.iconst 0, 1) := by decide +kernel
theorem dX3_read_6 : decode cX3_read 6 = .ok (.istore 5, 2) := by decide +kernel
theorem dX3_read_8 : decode cX3_read 8 = .ok (.iload 5, 2) := by decide +kernel
theorem dX3_read_10 : decode cX3_read 10 = .ok (.iload_n 3, 1) := by decide +kernel
theorem dX3_read_11 : decode cX3_read 11 = .ok (.if_icmp .ge 97, 3) := by decide +kernel
theorem dX3_read_14 : decode cX3_read 14 = .ok (.aload_n 1, 1) := by decide +kernel
theorem dX3_read_15 : decode cX3_read 15 = .ok (.iload_n 2, 1) := by decide +kernel
theorem dX3_read_16 : decode cX3_read 16 = .ok (.iconst 2, 1) := by decide +kernel
theorem dX3_read_17 : decode cX3_read 17 = .ok (.iload 5, 2) := by decide +kernel
theorem dX3_read_19 : decode cX3_read 19 = .ok (.imul, 1) := by decide +kernel
theorem dX3_read_20 : decode cX3_read 20 = .ok (.iadd, 1) := by decide +kernel
theorem dX3_read_21 : decode cX3_read 21 = .ok (.invokevirtual 25, 3) := by decide +kernel
theorem dX3_read_24 : decode cX3_read 24 = .ok (.lstore 6, 2) := by decide +kernel
theorem dX3_read_26 : decode cX3_read 26 = .ok (.aload_n 1, 1) := by decide +kernel
theorem dX3_read_27 : decode cX3_read 27 = .ok (.iload_n 2, 1) := by decide +kernel
theorem dX3_read_28 : decode cX3_read 28 = .ok (.iconst 2, 1) := by decide +kernel
theorem dX3_read_29 : decode cX3_read 29 = .ok (.iload 5, 2) := by decide +kernel
theorem dX3_read_31 : decode cX3_read 31 = .ok (.imul, 1) := by decide +kernel
theorem dX3_read_32 : decode cX3_read 32 = .ok (.iadd, 1) := by decide +kernel
theorem dX3_read_33 : decode cX3_read 33 = .ok (.iconst 1, 1) := by decide +kernel
theorem dX3_read_34 : decode cX3_read 34 = .ok (.iadd, 1) := by decide +kernel
theorem dX3_read_35 : decode cX3_read 35 = .ok (.invokevirtual 25, 3) := by decide +kernel
theorem dX3_read_38 : decode cX3_read 38 = .ok (.lstore 8, 2) := by decide +kernel
theorem dX3_read_40 : decode cX3_read 40 = .ok (.lload 6, 2) := by decide +kernel
theorem dX3_read_42 : decode cX3_read 42 = .ok (.lconst 1, 1) := by decide +kernel
theorem dX3_read_43 : decode cX3_read 43 = .ok (.lcmp, 1) := by decide +kernel
theorem dX3_read_44 : decode cX3_read 44 = .ok (.ifCond .lt 26, 3) := by decide +kernel
theorem dX3_read_47 : decode cX3_read 47 = .ok (.lload 6, 2) := by decide +kernel
theorem dX3_read_49 : decode cX3_read 49 = .ok (.iload 4, 2) := by decide +kernel
theorem dX3_read_51 : decode cX3_read 51 = .ok (.i2l, 1) := by decide +kernel
theorem dX3_read_52 : decode cX3_read 52 = .ok (.lcmp, 1) := by decide +kernel
theorem dX3_read_53 : decode cX3_read 53 = .ok (.ifCond .gt 17, 3) := by decide +kernel
theorem dX3_read_56 : decode cX3_read 56 = .ok (.lload 8, 2) := by decide +kernel
theorem dX3_read_58 : decode cX3_read 58 = .ok (.lconst 0, 1) := by decide +kernel
theorem dX3_read_59 : decode cX3_read 59 = .ok (.lcmp, 1) := by decide +kernel
theorem dX3_read_60 : decode cX3_read 60 = .ok (.ifCond .lt 10, 3) := by decide +kernel
theorem dX3_read_63 : decode cX3_read 63 = .ok (.lload 8, 2) := by decide +kernel
theorem dX3_read_65 : decode cX3_read 65 = .ok (.lconst 1, 1) := by decide +kernel
theorem dX3_read_66 : decode cX3_read 66 = .ok (.lcmp, 1) := by decide +kernel
theorem dX3_read_67 : decode cX3_read 67 = .ok (.ifCond .le 5, 3) := by decide +kernel
theorem dX3_read_70 : decode cX3_read 70 = .ok (.iconst 0, 1) := by decide +kernel
theorem dX3_read_71 : decode cX3_read 71 = .ok (.ireturn, 1) := by decide +kernel
theorem dX3_read_72 : decode cX3_read 72 = .ok (.aload_n 0, 1) := by decide +kernel
theorem dX3_read_73 : decode cX3_read 73 = .ok (.getfield 9, 3) := by decide +kernel
theorem dX3_read_76 : decode cX3_read 76 = .ok (.iload 5, 2) := by decide +kernel
theorem dX3_read_78 : decode cX3_read 78 = .ok (.lload 6, 2) := by decide +kernel
theorem dX3_read_80 : decode cX3_read 80 = .ok (.l2i, 1) := by decide +kernel
theorem dX3_read_81 : decode cX3_read 81 = .ok (.iastore, 1) := by decide +kernel
theorem dX3_read_82 : decode cX3_read 82 = .ok (.aload_n 0, 1) := by decide +kernel
theorem dX3_read_83 : decode cX3_read 83 = .ok (.getfield 15, 3) := by decide +kernel
theorem dX3_read_86 : decode cX3_read 86 = .ok (.iload 5, 2) := by decide +kernel
theorem dX3_read_88 : decode cX3_read 88 = .ok (.lload 8, 2) := by decide +kernel
theorem dX3_read_90 : decode cX3_read 90 = .ok (.l2i, 1) := by decide +kernel
theorem dX3_read_91 : decode cX3_read 91 = .ok (.iastore, 1) := by decide +kernel
theorem dX3_read_92 : decode cX3_read 92 = .ok (.aload_n 0, 1) := by decide +kernel
theorem dX3_read_93 : decode cX3_read 93 = .ok (.dup, 1) := by decide +kernel
theorem dX3_read_94 : decode cX3_read 94 = .ok (.getfield 18, 3) := by decide +kernel
theorem dX3_read_97 : decode cX3_read 97 = .ok (.iconst 1, 1) := by decide +kernel
theorem dX3_read_98 : decode cX3_read 98 = .ok (.iadd, 1) := by decide +kernel
theorem dX3_read_99 : decode cX3_read 99 = .ok (.putfield 18, 3) := by decide +kernel
theorem dX3_read_102 : decode cX3_read 102 = .ok (.iinc 5 1, 3) := by decide +kernel
theorem dX3_read_105 : decode cX3_read 105 = .ok (.goto (-97), 3) := by decide +kernel
theorem dX3_read_108 : decode cX3_read 108 = .ok (.iconst 1, 1) := by decide +kernel
theorem dX3_read_109 : decode cX3_read 109 = .ok (.ireturn, 1) := by decide +kernel
set_option maxRecDepth 20000 in
theorem ggX3_compare_X0_agreeing : GoodIn wsX3_compare wsX0_agreeing := goodIn_r _ [9, 10, 11, 12, 8, 13, 14, 15, 16, 17, 18, 19, 20, 21, 22, 23, 24, 25, 26, 27, 28, 29, 30, 31, 32, 33, 34, 35, 36, 37, 38, 39, 40, 45, 46, 47, 48, 49, 50, 51, 52, 53, 54, 55, 56, 57] (by decide +kernel) (by decide +kernel)
set_option maxRecDepth 20000 in
theorem gX3_compare_X0_agreeing : GoodIn wsX3_compare (wsV RX3 31 RX0 yX0_agreeing wsX0_agreeing) := goodIn_app (goodIn_of _ (by decide +kernel)) ggX3_compare_X0_agreeing
theorem dX3_compare_0 : decode cX3_compare 0 = .ok (.iconst 0, 1) := by decide +kernel
theorem dX3_compare_1 : decode cX3_compare 1 = .ok (.istore 4, 2) := by decide +kernel
theorem dX3_compare_3 : decode cX3_compare 3 = .ok (.iload 4, 2) := by decide +kernel
theorem dX3_compare_5 : decode cX3_compare 5 = .ok (.aload_n 0, 1) := by decide +kernel
theorem dX3_compare_6 : decode cX3_compare 6 = .ok (.getfield 18, 3) := by decide +kernel
theorem dX3_compare_9 : decode cX3_compare 9 = .ok (.if_icmp .ge 36, 3) := by decide +kernel
theorem dX3_compare_12 : decode cX3_compare 12 = .ok (.aload_n 0, 1) := by decide +kernel
theorem dX3_compare_13 : decode cX3_compare 13 = .ok (.getfield 22, 3) := by decide +kernel
theorem dX3_compare_16 : decode cX3_compare 16 = .ok (.iload 4, 2) := by decide +kernel
theorem dX3_compare_18 : decode cX3_compare 18 = .ok (.aload_n 1, 1) := by decide +kernel
theorem dX3_compare_19 : decode cX3_compare 19 = .ok (.iload_n 2, 1) := by decide +kernel
theorem dX3_compare_20 : decode cX3_compare 20 = .ok (.iload_n 3, 1) := by decide +kernel
theorem dX3_compare_21 : decode cX3_compare 21 = .ok (.aload_n 0, 1) := by decide +kernel
theorem dX3_compare_22 : decode cX3_compare 22 = .ok (.getfield 9, 3) := by decide +kernel
theorem dX3_compare_25 : decode cX3_compare 25 = .ok (.iload 4, 2) := by decide +kernel
theorem dX3_compare_27 : decode cX3_compare 27 = .ok (.iaload, 1) := by decide +kernel
theorem dX3_compare_28 : decode cX3_compare 28 = .ok (.aload_n 0, 1) := by decide +kernel
theorem dX3_compare_29 : decode cX3_compare 29 = .ok (.getfield 15, 3) := by decide +kernel
theorem dX3_compare_32 : decode cX3_compare 32 = .ok (.iload 4, 2) := by decide +kernel
theorem dX3_compare_34 : decode cX3_compare 34 = .ok (.iaload, 1) := by decide +kernel
theorem dX3_compare_35 : decode cX3_compare 35 = .ok (.invokevirtual 31, 3) := by decide +kernel
theorem dX3_compare_38 : decode cX3_compare 38 = .ok (.iastore, 1) := by decide +kernel
theorem dX3_compare_39 : decode cX3_compare 39 = .ok (.iinc 4 1, 3) := by decide +kernel
theorem dX3_compare_42 : decode cX3_compare 42 = .ok (.goto (-39), 3) := by decide +kernel
theorem dX3_compare_45 : decode cX3_compare 45 = .ok (.return_, 1) := by decide +kernel
set_option maxRecDepth 20000 in
theorem ggX3_fitting_X0_allCows : GoodIn wsX3_fitting wsX0_allCows := goodIn_r _ [8, 9, 45, 46, 47, 48, 49, 50, 51, 52, 53] (by decide +kernel) (by decide +kernel)
set_option maxRecDepth 20000 in
theorem gX3_fitting_X0_allCows : GoodIn wsX3_fitting (wsV RX3 37 RX0 yX0_allCows wsX0_allCows) := goodIn_app (goodIn_of _ (by decide +kernel)) ggX3_fitting_X0_allCows
set_option maxRecDepth 20000 in
theorem ggX3_fitting_X0_agreeing : GoodIn wsX3_fitting wsX0_agreeing := goodIn_r _ [13, 14, 15, 16, 7, 17, 18, 19, 20, 21, 22, 23, 9, 24, 25, 26, 27, 28, 29, 30, 31, 32, 33, 34, 35, 36, 37, 38, 39, 40, 5, 6, 8, 45, 46, 47, 48, 49, 50, 51, 52, 53, 54, 55, 56, 57] (by decide +kernel) (by decide +kernel)
set_option maxRecDepth 20000 in
theorem gX3_fitting_X0_agreeing : GoodIn wsX3_fitting (wsV RX3 31 RX0 yX0_agreeing wsX0_agreeing) := goodIn_app (goodIn_of _ (by decide +kernel)) ggX3_fitting_X0_agreeing
theorem dX3_fitting_0 : decode cX3_fitting 0 = .ok (.aload_n 1, 1) := by decide +kernel
theorem dX3_fitting_1 : decode cX3_fitting 1 = .ok (.invokevirtual 37, 3) := by decide +kernel
theorem dX3_fitting_4 : decode cX3_fitting 4 = .ok (.istore 4, 2) := by decide +kernel
theorem dX3_fitting_6 : decode cX3_fitting 6 = .ok (.iconst 0, 1) := by decide +kernel
theorem dX3_fitting_7 : decode cX3_fitting 7 = .ok (.istore 5, 2) := by decide +kernel
theorem dX3_fitting_9 : decode cX3_fitting 9 = .ok (.iload 5, 2) := by decide +kernel
theorem dX3_fitting_11 : decode cX3_fitting 11 = .ok (.aload_n 0, 1) := by decide +kernel
theorem dX3_fitting_12 : decode cX3_fitting 12 = .ok (.getfield 18, 3) := by decide +kernel
theorem dX3_fitting_15 : decode cX3_fitting 15 = .ok (.if_icmp .ge 34, 3) := by decide +kernel
theorem dX3_fitting_18 : decode cX3_fitting 18 = .ok (.iload 4, 2) := by decide +kernel
theorem dX3_fitting_20 : decode cX3_fitting 20 = .ok (.aload_n 1, 1) := by decide +kernel
theorem dX3_fitting_21 : decode cX3_fitting 21 = .ok (.iload_n 2, 1) := by decide +kernel
theorem dX3_fitting_22 : decode cX3_fitting 22 = .ok (.iload_n 3, 1) := by decide +kernel
theorem dX3_fitting_23 : decode cX3_fitting 23 = .ok (.aload_n 0, 1) := by decide +kernel
theorem dX3_fitting_24 : decode cX3_fitting 24 = .ok (.getfield 9, 3) := by decide +kernel
theorem dX3_fitting_27 : decode cX3_fitting 27 = .ok (.iload 5, 2) := by decide +kernel
theorem dX3_fitting_29 : decode cX3_fitting 29 = .ok (.iaload, 1) := by decide +kernel
theorem dX3_fitting_30 : decode cX3_fitting 30 = .ok (.aload_n 0, 1) := by decide +kernel
theorem dX3_fitting_31 : decode cX3_fitting 31 = .ok (.getfield 15, 3) := by decide +kernel
theorem dX3_fitting_34 : decode cX3_fitting 34 = .ok (.iload 5, 2) := by decide +kernel
theorem dX3_fitting_36 : decode cX3_fitting 36 = .ok (.iaload, 1) := by decide +kernel
theorem dX3_fitting_37 : decode cX3_fitting 37 = .ok (.invokevirtual 31, 3) := by decide +kernel
theorem dX3_fitting_40 : decode cX3_fitting 40 = .ok (.iand, 1) := by decide +kernel
theorem dX3_fitting_41 : decode cX3_fitting 41 = .ok (.istore 4, 2) := by decide +kernel
theorem dX3_fitting_43 : decode cX3_fitting 43 = .ok (.iinc 5 1, 3) := by decide +kernel
theorem dX3_fitting_46 : decode cX3_fitting 46 = .ok (.goto (-37), 3) := by decide +kernel
theorem dX3_fitting_49 : decode cX3_fitting 49 = .ok (.iload 4, 2) := by decide +kernel
theorem dX3_fitting_51 : decode cX3_fitting 51 = .ok (.ireturn, 1) := by decide +kernel
set_option maxRecDepth 20000 in
theorem ggX3_fittingButOne_X0_allCows : GoodIn wsX3_fittingButOne wsX0_allCows := goodIn_r _ [8, 9, 45, 46, 47, 48, 49, 50, 51, 52, 53] (by decide +kernel) (by decide +kernel)
set_option maxRecDepth 20000 in
theorem gX3_fittingButOne_X0_allCows : GoodIn wsX3_fittingButOne (wsV RX3 37 RX0 yX0_allCows wsX0_allCows) := goodIn_app (goodIn_of _ (by decide +kernel)) ggX3_fittingButOne_X0_allCows
set_option maxRecDepth 20000 in
theorem ggX3_fittingButOne_X0_agreeing : GoodIn wsX3_fittingButOne wsX0_agreeing := goodIn_r _ [13, 14, 15, 16, 7, 17, 18, 19, 20, 21, 22, 23, 9, 24, 25, 26, 27, 28, 29, 30, 31, 32, 33, 34, 35, 36, 37, 38, 39, 40, 5, 6, 8, 45, 46, 47, 48, 49, 50, 51, 52, 53, 54, 55, 56, 57] (by decide +kernel) (by decide +kernel)
set_option maxRecDepth 20000 in
theorem gX3_fittingButOne_X0_agreeing : GoodIn wsX3_fittingButOne (wsV RX3 31 RX0 yX0_agreeing wsX0_agreeing) := goodIn_app (goodIn_of _ (by decide +kernel)) ggX3_fittingButOne_X0_agreeing
theorem dX3_fittingButOne_0 : decode cX3_fittingButOne 0 = .ok (.aload_n 1, 1) := by decide +kernel
theorem dX3_fittingButOne_1 : decode cX3_fittingButOne 1 = .ok (.invokevirtual 37, 3) := by decide +kernel
theorem dX3_fittingButOne_4 : decode cX3_fittingButOne 4 = .ok (.istore 4, 2) := by decide +kernel
theorem dX3_fittingButOne_6 : decode cX3_fittingButOne 6 = .ok (.iconst 0, 1) := by decide +kernel
theorem dX3_fittingButOne_7 : decode cX3_fittingButOne 7 = .ok (.istore 5, 2) := by decide +kernel
theorem dX3_fittingButOne_9 : decode cX3_fittingButOne 9 = .ok (.iconst 0, 1) := by decide +kernel
theorem dX3_fittingButOne_10 : decode cX3_fittingButOne 10 = .ok (.istore 6, 2) := by decide +kernel
theorem dX3_fittingButOne_12 : decode cX3_fittingButOne 12 = .ok (.iload 6, 2) := by decide +kernel
theorem dX3_fittingButOne_14 : decode cX3_fittingButOne 14 = .ok (.aload_n 0, 1) := by decide +kernel
theorem dX3_fittingButOne_15 : decode cX3_fittingButOne 15 = .ok (.getfield 18, 3) := by decide +kernel
theorem dX3_fittingButOne_18 : decode cX3_fittingButOne 18 = .ok (.if_icmp .ge 53, 3) := by decide +kernel
theorem dX3_fittingButOne_21 : decode cX3_fittingButOne 21 = .ok (.aload_n 1, 1) := by decide +kernel
theorem dX3_fittingButOne_22 : decode cX3_fittingButOne 22 = .ok (.iload_n 2, 1) := by decide +kernel
theorem dX3_fittingButOne_23 : decode cX3_fittingButOne 23 = .ok (.iload_n 3, 1) := by decide +kernel
theorem dX3_fittingButOne_24 : decode cX3_fittingButOne 24 = .ok (.aload_n 0, 1) := by decide +kernel
theorem dX3_fittingButOne_25 : decode cX3_fittingButOne 25 = .ok (.getfield 9, 3) := by decide +kernel
theorem dX3_fittingButOne_28 : decode cX3_fittingButOne 28 = .ok (.iload 6, 2) := by decide +kernel
theorem dX3_fittingButOne_30 : decode cX3_fittingButOne 30 = .ok (.iaload, 1) := by decide +kernel
theorem dX3_fittingButOne_31 : decode cX3_fittingButOne 31 = .ok (.aload_n 0, 1) := by decide +kernel
theorem dX3_fittingButOne_32 : decode cX3_fittingButOne 32 = .ok (.getfield 15, 3) := by decide +kernel
theorem dX3_fittingButOne_35 : decode cX3_fittingButOne 35 = .ok (.iload 6, 2) := by decide +kernel
theorem dX3_fittingButOne_37 : decode cX3_fittingButOne 37 = .ok (.iaload, 1) := by decide +kernel
theorem dX3_fittingButOne_38 : decode cX3_fittingButOne 38 = .ok (.invokevirtual 31, 3) := by decide +kernel
theorem dX3_fittingButOne_41 : decode cX3_fittingButOne 41 = .ok (.istore 7, 2) := by decide +kernel
theorem dX3_fittingButOne_43 : decode cX3_fittingButOne 43 = .ok (.iload 5, 2) := by decide +kernel
theorem dX3_fittingButOne_45 : decode cX3_fittingButOne 45 = .ok (.iload 7, 2) := by decide +kernel
theorem dX3_fittingButOne_47 : decode cX3_fittingButOne 47 = .ok (.iand, 1) := by decide +kernel
theorem dX3_fittingButOne_48 : decode cX3_fittingButOne 48 = .ok (.iload 4, 2) := by decide +kernel
theorem dX3_fittingButOne_50 : decode cX3_fittingButOne 50 = .ok (.iload 7, 2) := by decide +kernel
theorem dX3_fittingButOne_52 : decode cX3_fittingButOne 52 = .ok (.iconst (-1), 1) := by decide +kernel
theorem dX3_fittingButOne_53 : decode cX3_fittingButOne 53 = .ok (.ixor, 1) := by decide +kernel
theorem dX3_fittingButOne_54 : decode cX3_fittingButOne 54 = .ok (.iand, 1) := by decide +kernel
theorem dX3_fittingButOne_55 : decode cX3_fittingButOne 55 = .ok (.ior, 1) := by decide +kernel
theorem dX3_fittingButOne_56 : decode cX3_fittingButOne 56 = .ok (.istore 5, 2) := by decide +kernel
theorem dX3_fittingButOne_58 : decode cX3_fittingButOne 58 = .ok (.iload 4, 2) := by decide +kernel
theorem dX3_fittingButOne_60 : decode cX3_fittingButOne 60 = .ok (.iload 7, 2) := by decide +kernel
theorem dX3_fittingButOne_62 : decode cX3_fittingButOne 62 = .ok (.iand, 1) := by decide +kernel
theorem dX3_fittingButOne_63 : decode cX3_fittingButOne 63 = .ok (.istore 4, 2) := by decide +kernel
theorem dX3_fittingButOne_65 : decode cX3_fittingButOne 65 = .ok (.iinc 6 1, 3) := by decide +kernel
theorem dX3_fittingButOne_68 : decode cX3_fittingButOne 68 = .ok (.goto (-56), 3) := by decide +kernel
theorem dX3_fittingButOne_71 : decode cX3_fittingButOne 71 = .ok (.iload 4, 2) := by decide +kernel
theorem dX3_fittingButOne_73 : decode cX3_fittingButOne 73 = .ok (.iload 5, 2) := by decide +kernel
theorem dX3_fittingButOne_75 : decode cX3_fittingButOne 75 = .ok (.ior, 1) := by decide +kernel
theorem dX3_fittingButOne_76 : decode cX3_fittingButOne 76 = .ok (.ireturn, 1) := by decide +kernel
set_option maxRecDepth 20000 in
theorem ggX3_kindsThatFit_X3_fitting : GoodIn wsX3_kindsThatFit wsX3_fitting := goodIn_r _ [5, 6, 7, 8, 9, 10, 11, 12, 13, 14, 15, 16, 17, 18, 19, 20, 21, 22, 23, 24, 25, 26, 27, 28, 29, 30, 31, 32, 33, 34, 35, 36, 37, 38, 39, 40, 41, 42, 43, 44, 45, 46, 47, 48, 49, 50, 51, 52, 53, 54, 55, 56, 57, 58, 59, 60, 61, 62] (by decide +kernel) (by decide +kernel)
set_option maxRecDepth 20000 in
theorem gX3_kindsThatFit_X3_fitting : GoodIn wsX3_kindsThatFit (wsV RX3 41 RX3 yX3_fitting wsX3_fitting) := goodIn_app (goodIn_of _ (by decide +kernel)) ggX3_kindsThatFit_X3_fitting
theorem dX3_kindsThatFit_0 : decode cX3_kindsThatFit 0 = .ok (.iconst 0, 1) := by decide +kernel
theorem dX3_kindsThatFit_1 : decode cX3_kindsThatFit 1 = .ok (.istore_n 3, 1) := by decide +kernel
theorem dX3_kindsThatFit_2 : decode cX3_kindsThatFit 2 = .ok (.iconst 0, 1) := by decide +kernel
theorem dX3_kindsThatFit_3 : decode cX3_kindsThatFit 3 = .ok (.istore 4, 2) := by decide +kernel
theorem dX3_kindsThatFit_5 : decode cX3_kindsThatFit 5 = .ok (.iload 4, 2) := by decide +kernel
theorem dX3_kindsThatFit_7 : decode cX3_kindsThatFit 7 = .ok (.iconst 5, 1) := by decide +kernel
theorem dX3_kindsThatFit_8 : decode cX3_kindsThatFit 8 = .ok (.if_icmp .ge 27, 3) := by decide +kernel
theorem dX3_kindsThatFit_11 : decode cX3_kindsThatFit 11 = .ok (.aload_n 0, 1) := by decide +kernel
theorem dX3_kindsThatFit_12 : decode cX3_kindsThatFit 12 = .ok (.aload_n 1, 1) := by decide +kernel
theorem dX3_kindsThatFit_13 : decode cX3_kindsThatFit 13 = .ok (.iload 4, 2) := by decide +kernel
theorem dX3_kindsThatFit_15 : decode cX3_kindsThatFit 15 = .ok (.iload_n 2, 1) := by decide +kernel
theorem dX3_kindsThatFit_16 : decode cX3_kindsThatFit 16 = .ok (.invokevirtual 41, 3) := by decide +kernel
theorem dX3_kindsThatFit_19 : decode cX3_kindsThatFit 19 = .ok (.ifCond .eq 10, 3) := by decide +kernel
theorem dX3_kindsThatFit_22 : decode cX3_kindsThatFit 22 = .ok (.iload_n 3, 1) := by decide +kernel
theorem dX3_kindsThatFit_23 : decode cX3_kindsThatFit 23 = .ok (.iconst 1, 1) := by decide +kernel
theorem dX3_kindsThatFit_24 : decode cX3_kindsThatFit 24 = .ok (.iload 4, 2) := by decide +kernel
theorem dX3_kindsThatFit_26 : decode cX3_kindsThatFit 26 = .ok (.ishl, 1) := by decide +kernel
theorem dX3_kindsThatFit_27 : decode cX3_kindsThatFit 27 = .ok (.ior, 1) := by decide +kernel
theorem dX3_kindsThatFit_28 : decode cX3_kindsThatFit 28 = .ok (.istore_n 3, 1) := by decide +kernel
theorem dX3_kindsThatFit_29 : decode cX3_kindsThatFit 29 = .ok (.iinc 4 1, 3) := by decide +kernel
theorem dX3_kindsThatFit_32 : decode cX3_kindsThatFit 32 = .ok (.goto (-27), 3) := by decide +kernel
theorem dX3_kindsThatFit_35 : decode cX3_kindsThatFit 35 = .ok (.iload_n 3, 1) := by decide +kernel
theorem dX3_kindsThatFit_36 : decode cX3_kindsThatFit 36 = .ok (.ireturn, 1) := by decide +kernel
set_option maxRecDepth 20000 in
theorem ggX3_finesThatFit_X3_fitting : GoodIn wsX3_finesThatFit wsX3_fitting := goodIn_r _ [5, 6, 7, 8, 9, 10, 11, 12, 13, 14, 15, 16, 17, 18, 19, 20, 21, 22, 23, 24, 25, 26, 27, 28, 29, 30, 31, 32, 33, 34, 35, 36, 37, 38, 39, 40, 41, 42, 43, 44, 45, 46, 47, 48, 49, 50, 51, 52, 53, 54, 55, 56, 57, 58, 59, 60, 61, 62] (by decide +kernel) (by decide +kernel)
set_option maxRecDepth 20000 in
theorem gX3_finesThatFit_X3_fitting : GoodIn wsX3_finesThatFit (wsV RX3 41 RX3 yX3_fitting wsX3_fitting) := goodIn_app (goodIn_of _ (by decide +kernel)) ggX3_finesThatFit_X3_fitting
theorem dX3_finesThatFit_0 : decode cX3_finesThatFit 0 = .ok (.iconst 0, 1) := by decide +kernel
theorem dX3_finesThatFit_1 : decode cX3_finesThatFit 1 = .ok (.istore_n 3, 1) := by decide +kernel
theorem dX3_finesThatFit_2 : decode cX3_finesThatFit 2 = .ok (.iconst 1, 1) := by decide +kernel
theorem dX3_finesThatFit_3 : decode cX3_finesThatFit 3 = .ok (.istore 4, 2) := by decide +kernel
theorem dX3_finesThatFit_5 : decode cX3_finesThatFit 5 = .ok (.iload 4, 2) := by decide +kernel
theorem dX3_finesThatFit_7 : decode cX3_finesThatFit 7 = .ok (.bipush 9, 2) := by decide +kernel
theorem dX3_finesThatFit_9 : decode cX3_finesThatFit 9 = .ok (.if_icmp .gt 27, 3) := by decide +kernel
theorem dX3_finesThatFit_12 : decode cX3_finesThatFit 12 = .ok (.aload_n 0, 1) := by decide +kernel
theorem dX3_finesThatFit_13 : decode cX3_finesThatFit 13 = .ok (.aload_n 1, 1) := by decide +kernel
theorem dX3_finesThatFit_14 : decode cX3_finesThatFit 14 = .ok (.iload_n 2, 1) := by decide +kernel
theorem dX3_finesThatFit_15 : decode cX3_finesThatFit 15 = .ok (.iload 4, 2) := by decide +kernel
theorem dX3_finesThatFit_17 : decode cX3_finesThatFit 17 = .ok (.invokevirtual 41, 3) := by decide +kernel
theorem dX3_finesThatFit_20 : decode cX3_finesThatFit 20 = .ok (.ifCond .eq 10, 3) := by decide +kernel
theorem dX3_finesThatFit_23 : decode cX3_finesThatFit 23 = .ok (.iload_n 3, 1) := by decide +kernel
theorem dX3_finesThatFit_24 : decode cX3_finesThatFit 24 = .ok (.iconst 1, 1) := by decide +kernel
theorem dX3_finesThatFit_25 : decode cX3_finesThatFit 25 = .ok (.iload 4, 2) := by decide +kernel
theorem dX3_finesThatFit_27 : decode cX3_finesThatFit 27 = .ok (.ishl, 1) := by decide +kernel
theorem dX3_finesThatFit_28 : decode cX3_finesThatFit 28 = .ok (.ior, 1) := by decide +kernel
theorem dX3_finesThatFit_29 : decode cX3_finesThatFit 29 = .ok (.istore_n 3, 1) := by decide +kernel
theorem dX3_finesThatFit_30 : decode cX3_finesThatFit 30 = .ok (.iinc 4 1, 3) := by decide +kernel
theorem dX3_finesThatFit_33 : decode cX3_finesThatFit 33 = .ok (.goto (-28), 3) := by decide +kernel
theorem dX3_finesThatFit_36 : decode cX3_finesThatFit 36 = .ok (.iload_n 3, 1) := by decide +kernel
theorem dX3_finesThatFit_37 : decode cX3_finesThatFit 37 = .ok (.ireturn, 1) := by decide +kernel
set_option maxRecDepth 20000 in
theorem ggX3_weightOf_X3_weightOfOne : GoodIn wsX3_weightOf wsX3_weightOfOne := goodIn_r _ [7, 8, 9, 19, 20, 21, 22] (by decide +kernel) (by decide +kernel)
set_option maxRecDepth 20000 in
theorem gX3_weightOf_X3_weightOfOne : GoodIn wsX3_weightOf (wsV RX3 51 RX3 yX3_weightOfOne wsX3_weightOfOne) := goodIn_app (goodIn_of _ (by decide +kernel)) ggX3_weightOf_X3_weightOfOne
theorem dX3_weightOf_0 : decode cX3_weightOf 0 = .ok (.lconst 0, 1) := by decide +kernel
theorem dX3_weightOf_1 : decode cX3_weightOf 1 = .ok (.lstore 4, 2) := by decide +kernel
theorem dX3_weightOf_3 : decode cX3_weightOf 3 = .ok (.iconst 0, 1) := by decide +kernel
theorem dX3_weightOf_4 : decode cX3_weightOf 4 = .ok (.istore 6, 2) := by decide +kernel
theorem dX3_weightOf_6 : decode cX3_weightOf 6 = .ok (.iload 6, 2) := by decide +kernel
theorem dX3_weightOf_8 : decode cX3_weightOf 8 = .ok (.aload_n 1, 1) := by decide +kernel
theorem dX3_weightOf_9 : decode cX3_weightOf 9 = .ok (.getfield 45, 3) := by decide +kernel
theorem dX3_weightOf_12 : decode cX3_weightOf 12 = .ok (.if_icmp .ge 38, 3) := by decide +kernel
theorem dX3_weightOf_15 : decode cX3_weightOf 15 = .ok (.iload_n 2, 1) := by decide +kernel
theorem dX3_weightOf_16 : decode cX3_weightOf 16 = .ok (.iload 6, 2) := by decide +kernel
theorem dX3_weightOf_18 : decode cX3_weightOf 18 = .ok (.ishr, 1) := by decide +kernel
theorem dX3_weightOf_19 : decode cX3_weightOf 19 = .ok (.iconst 1, 1) := by decide +kernel
theorem dX3_weightOf_20 : decode cX3_weightOf 20 = .ok (.iand, 1) := by decide +kernel
theorem dX3_weightOf_21 : decode cX3_weightOf 21 = .ok (.iconst 1, 1) := by decide +kernel
theorem dX3_weightOf_22 : decode cX3_weightOf 22 = .ok (.if_icmp .ne 22, 3) := by decide +kernel
theorem dX3_weightOf_25 : decode cX3_weightOf 25 = .ok (.lload 4, 2) := by decide +kernel
theorem dX3_weightOf_27 : decode cX3_weightOf 27 = .ok (.aload_n 0, 1) := by decide +kernel
theorem dX3_weightOf_28 : decode cX3_weightOf 28 = .ok (.aload_n 1, 1) := by decide +kernel
theorem dX3_weightOf_29 : decode cX3_weightOf 29 = .ok (.getfield 48, 3) := by decide +kernel
theorem dX3_weightOf_32 : decode cX3_weightOf 32 = .ok (.iload 6, 2) := by decide +kernel
theorem dX3_weightOf_34 : decode cX3_weightOf 34 = .ok (.iaload, 1) := by decide +kernel
theorem dX3_weightOf_35 : decode cX3_weightOf 35 = .ok (.iload 6, 2) := by decide +kernel
theorem dX3_weightOf_37 : decode cX3_weightOf 37 = .ok (.iload_n 3, 1) := by decide +kernel
theorem dX3_weightOf_38 : decode cX3_weightOf 38 = .ok (.invokevirtual 51, 3) := by decide +kernel
theorem dX3_weightOf_41 : decode cX3_weightOf 41 = .ok (.ladd, 1) := by decide +kernel
theorem dX3_weightOf_42 : decode cX3_weightOf 42 = .ok (.lstore 4, 2) := by decide +kernel
theorem dX3_weightOf_44 : decode cX3_weightOf 44 = .ok (.iinc 6 1, 3) := by decide +kernel
theorem dX3_weightOf_47 : decode cX3_weightOf 47 = .ok (.goto (-41), 3) := by decide +kernel
theorem dX3_weightOf_50 : decode cX3_weightOf 50 = .ok (.lload 4, 2) := by decide +kernel
theorem dX3_weightOf_52 : decode cX3_weightOf 52 = .ok (.lreturn, 1) := by decide +kernel
theorem dX3_weightOfOne_0 : decode cX3_weightOfOne 0 = .ok (.iload_n 1, 1) := by decide +kernel
theorem dX3_weightOfOne_1 : decode cX3_weightOfOne 1 = .ok (.i2l, 1) := by decide +kernel
theorem dX3_weightOfOne_2 : decode cX3_weightOfOne 2 = .ok (.lstore 4, 2) := by decide +kernel
theorem dX3_weightOfOne_4 : decode cX3_weightOfOne 4 = .ok (.iconst 0, 1) := by decide +kernel
theorem dX3_weightOfOne_5 : decode cX3_weightOfOne 5 = .ok (.istore 6, 2) := by decide +kernel
theorem dX3_weightOfOne_7 : decode cX3_weightOfOne 7 = .ok (.iload 6, 2) := by decide +kernel
theorem dX3_weightOfOne_9 : decode cX3_weightOfOne 9 = .ok (.aload_n 0, 1) := by decide +kernel
theorem dX3_weightOfOne_10 : decode cX3_weightOfOne 10 = .ok (.getfield 18, 3) := by decide +kernel
theorem dX3_weightOfOne_13 : decode cX3_weightOfOne 13 = .ok (.if_icmp .ge 39, 3) := by decide +kernel
theorem dX3_weightOfOne_16 : decode cX3_weightOfOne 16 = .ok (.lload 4, 2) := by decide +kernel
theorem dX3_weightOfOne_18 : decode cX3_weightOfOne 18 = .ok (.aload_n 0, 1) := by decide +kernel
theorem dX3_weightOfOne_19 : decode cX3_weightOfOne 19 = .ok (.getfield 22, 3) := by decide +kernel
theorem dX3_weightOfOne_22 : decode cX3_weightOfOne 22 = .ok (.iload 6, 2) := by decide +kernel
theorem dX3_weightOfOne_24 : decode cX3_weightOfOne 24 = .ok (.iaload, 1) := by decide +kernel
theorem dX3_weightOfOne_25 : decode cX3_weightOfOne 25 = .ok (.iload_n 2, 1) := by decide +kernel
theorem dX3_weightOfOne_26 : decode cX3_weightOfOne 26 = .ok (.ishr, 1) := by decide +kernel
theorem dX3_weightOfOne_27 : decode cX3_weightOfOne 27 = .ok (.iconst 1, 1) := by decide +kernel
theorem dX3_weightOfOne_28 : decode cX3_weightOfOne 28 = .ok (.iand, 1) := by decide +kernel
theorem dX3_weightOfOne_29 : decode cX3_weightOfOne 29 = .ok (.iconst 1, 1) := by decide +kernel
theorem dX3_weightOfOne_30 : decode cX3_weightOfOne 30 = .ok (.if_icmp .ne 11, 3) := by decide +kernel
theorem dX3_weightOfOne_33 : decode cX3_weightOfOne 33 = .ok (.bipush 10, 2) := by decide +kernel
theorem dX3_weightOfOne_35 : decode cX3_weightOfOne 35 = .ok (.iload_n 3, 1) := by decide +kernel
theorem dX3_weightOfOne_36 : decode cX3_weightOfOne 36 = .ok (.isub, 1) := by decide +kernel
theorem dX3_weightOfOne_37 : decode cX3_weightOfOne 37 = .ok (.i2l, 1) := by decide +kernel
theorem dX3_weightOfOne_38 : decode cX3_weightOfOne 38 = .ok (.goto 5, 3) := by decide +kernel
theorem dX3_weightOfOne_41 : decode cX3_weightOfOne 41 = .ok (.iload_n 3, 1) := by decide +kernel
theorem dX3_weightOfOne_42 : decode cX3_weightOfOne 42 = .ok (.i2l, 1) := by decide +kernel
theorem dX3_weightOfOne_43 : decode cX3_weightOfOne 43 = .ok (.lmul, 1) := by decide +kernel
theorem dX3_weightOfOne_44 : decode cX3_weightOfOne 44 = .ok (.lstore 4, 2) := by decide +kernel
theorem dX3_weightOfOne_46 : decode cX3_weightOfOne 46 = .ok (.iinc 6 1, 3) := by decide +kernel
theorem dX3_weightOfOne_49 : decode cX3_weightOfOne 49 = .ok (.goto (-42), 3) := by decide +kernel
theorem dX3_weightOfOne_52 : decode cX3_weightOfOne 52 = .ok (.lload 4, 2) := by decide +kernel
theorem dX3_weightOfOne_54 : decode cX3_weightOfOne 54 = .ok (.lreturn, 1) := by decide +kernel
theorem dX4_init_0 : decode cX4_init 0 = .ok (.aload_n 0, 1) := by decide +kernel
theorem dX4_init_1 : decode cX4_init 1 = .ok (.invokespecial 3, 3) := by decide +kernel
theorem dX4_init_4 : decode cX4_init 4 = .ok (.aload_n 0, 1) := by decide +kernel
theorem dX4_init_5 : decode cX4_init 5 = .ok (.bipush 24, 2) := by decide +kernel
theorem dX4_init_7 : decode cX4_init 7 = .ok (.newarray .long, 2) := by decide +kernel
theorem dX4_init_9 : decode cX4_init 9 = .ok (.putfield 9, 3) := by decide +kernel
theorem dX4_init_12 : decode cX4_init 12 = .ok (.aload_n 0, 1) := by decide +kernel
theorem dX4_init_13 : decode cX4_init 13 = .ok (.iconst 0, 1) := by decide +kernel
theorem dX4_init_14 : decode cX4_init 14 = .ok (.putfield 15, 3) := by decide +kernel
theorem dX4_init_17 : decode cX4_init 17 = .ok (.aload_n 0, 1) := by decide +kernel
theorem dX4_init_18 : decode cX4_init 18 = .ok (.iconst (-1), 1) := by decide +kernel
theorem dX4_init_19 : decode cX4_init 19 = .ok (.putfield 19, 3) := by decide +kernel
theorem dX4_init_22 : decode cX4_init 22 = .ok (.return_, 1) := by decide +kernel
theorem dX4_renew_0 : decode cX4_renew 0 = .ok (.aload_n 0, 1) := by decide +kernel
theorem dX4_renew_1 : decode cX4_renew 1 = .ok (.iload_n 1, 1) := by decide +kernel
theorem dX4_renew_2 : decode cX4_renew 2 = .ok (.putfield 15, 3) := by decide +kernel
theorem dX4_renew_5 : decode cX4_renew 5 = .ok (.aload_n 0, 1) := by decide +kernel
theorem dX4_renew_6 : decode cX4_renew 6 = .ok (.iload_n 2, 1) := by decide +kernel
theorem dX4_renew_7 : decode cX4_renew 7 = .ok (.putfield 19, 3) := by decide +kernel
theorem dX4_renew_10 : decode cX4_renew 10 = .ok (.iconst 0, 1) := by decide +kernel
theorem dX4_renew_11 : decode cX4_renew 11 = .ok (.istore_n 3, 1) := by decide +kernel
theorem dX4_renew_12 : decode cX4_renew 12 = .ok (.iload_n 3, 1) := by decide +kernel
theorem dX4_renew_13 : decode cX4_renew 13 = .ok (.aload_n 0, 1) := by decide +kernel
theorem dX4_renew_14 : decode cX4_renew 14 = .ok (.getfield 9, 3) := by decide +kernel
theorem dX4_renew_17 : decode cX4_renew 17 = .ok (.arraylength, 1) := by decide +kernel
theorem dX4_renew_18 : decode cX4_renew 18 = .ok (.if_icmp .ge 16, 3) := by decide +kernel
theorem dX4_renew_21 : decode cX4_renew 21 = .ok (.aload_n 0, 1) := by decide +kernel
theorem dX4_renew_22 : decode cX4_renew 22 = .ok (.getfield 9, 3) := by decide +kernel
theorem dX4_renew_25 : decode cX4_renew 25 = .ok (.iload_n 3, 1) := by decide +kernel
theorem dX4_renew_26 : decode cX4_renew 26 = .ok (.lconst 0, 1) := by decide +kernel
theorem dX4_renew_27 : decode cX4_renew 27 = .ok (.lastore, 1) := by decide +kernel
theorem dX4_renew_28 : decode cX4_renew 28 = .ok (.iinc 3 1, 3) := by decide +kernel
theorem dX4_renew_31 : decode cX4_renew 31 = .ok (.goto (-19), 3) := by decide +kernel
theorem dX4_renew_34 : decode cX4_renew 34 = .ok (.return_, 1) := by decide +kernel
set_option maxRecDepth 20000 in
theorem ggX4_refusal_X4_holds : GoodIn wsX4_refusal wsX4_holds := goodIn_r _ [7, 1, 8, 9, 10] (by decide +kernel) (by decide +kernel)
set_option maxRecDepth 20000 in
theorem gX4_refusal_X4_holds : GoodIn wsX4_refusal (wsV RX4 22 RX4 yX4_holds wsX4_holds) := goodIn_app (goodIn_of _ (by decide +kernel)) ggX4_refusal_X4_holds
theorem dX4_refusal_0 : decode cX4_refusal 0 = .ok (.aload_n 0, 1) := by decide +kernel
theorem dX4_refusal_1 : decode cX4_refusal 1 = .ok (.getfield 19, 3) := by decide +kernel
theorem dX4_refusal_4 : decode cX4_refusal 4 = .ok (.iconst (-1), 1) := by decide +kernel
theorem dX4_refusal_5 : decode cX4_refusal 5 = .ok (.if_icmp .ne 6, 3) := by decide +kernel
theorem dX4_refusal_8 : decode cX4_refusal 8 = .ok (.bipush (-11), 2) := by decide +kernel
theorem dX4_refusal_10 : decode cX4_refusal 10 = .ok (.ireturn, 1) := by decide +kernel
theorem dX4_refusal_11 : decode cX4_refusal 11 = .ok (.aload_n 0, 1) := by decide +kernel
theorem dX4_refusal_12 : decode cX4_refusal 12 = .ok (.getfield 15, 3) := by decide +kernel
theorem dX4_refusal_15 : decode cX4_refusal 15 = .ok (.iload_n 1, 1) := by decide +kernel
theorem dX4_refusal_16 : decode cX4_refusal 16 = .ok (.if_icmp .eq 6, 3) := by decide +kernel
theorem dX4_refusal_19 : decode cX4_refusal 19 = .ok (.bipush (-12), 2) := by decide +kernel
theorem dX4_refusal_21 : decode cX4_refusal 21 = .ok (.ireturn, 1) := by decide +kernel
theorem dX4_refusal_22 : decode cX4_refusal 22 = .ok (.aload_n 0, 1) := by decide +kernel
theorem dX4_refusal_23 : decode cX4_refusal 23 = .ok (.iload_n 2, 1) := by decide +kernel
theorem dX4_refusal_24 : decode cX4_refusal 24 = .ok (.iload_n 3, 1) := by decide +kernel
theorem dX4_refusal_25 : decode cX4_refusal 25 = .ok (.invokevirtual 22, 3) := by decide +kernel
theorem dX4_refusal_28 : decode cX4_refusal 28 = .ok (.ifCond .eq 7, 3) := by decide +kernel
theorem dX4_refusal_31 : decode cX4_refusal 31 = .ok (.iconst 0, 1) := by decide +kernel
theorem dX4_refusal_32 : decode cX4_refusal 32 = .ok (.goto 5, 3) := by decide +kernel
theorem dX4_refusal_35 : decode cX4_refusal 35 = .ok (.bipush (-13), 2) := by decide +kernel
theorem dX4_refusal_37 : decode cX4_refusal 37 = .ok (.ireturn, 1) := by decide +kernel
theorem dX4_holds_0 : decode cX4_holds 0 = .ok (.iload_n 1, 1) := by decide +kernel
theorem dX4_holds_1 : decode cX4_holds 1 = .ok (.ifCond .lt 21, 3) := by decide +kernel
theorem dX4_holds_4 : decode cX4_holds 4 = .ok (.iload_n 2, 1) := by decide +kernel
theorem dX4_holds_5 : decode cX4_holds 5 = .ok (.ifCond .lt 17, 3) := by decide +kernel
theorem dX4_holds_8 : decode cX4_holds 8 = .ok (.iload_n 1, 1) := by decide +kernel
theorem dX4_holds_9 : decode cX4_holds 9 = .ok (.aload_n 0, 1) := by decide +kernel
theorem dX4_holds_10 : decode cX4_holds 10 = .ok (.getfield 19, 3) := by decide +kernel
theorem dX4_holds_13 : decode cX4_holds 13 = .ok (.iload_n 2, 1) := by decide +kernel
theorem dX4_holds_14 : decode cX4_holds 14 = .ok (.isub, 1) := by decide +kernel
theorem dX4_holds_15 : decode cX4_holds 15 = .ok (.if_icmp .gt 7, 3) := by decide +kernel
theorem dX4_holds_18 : decode cX4_holds 18 = .ok (.iconst 1, 1) := by decide +kernel
theorem dX4_holds_19 : decode cX4_holds 19 = .ok (.goto 4, 3) := by decide +kernel
theorem dX4_holds_22 : decode cX4_holds 22 = .ok (.iconst 0, 1) := by decide +kernel
theorem dX4_holds_23 : decode cX4_holds 23 = .ok (.ireturn, 1) := by decide +kernel
theorem dX4_valueAt_0 : decode cX4_valueAt 0 = .ok (.aload_n 0, 1) := by decide +kernel
theorem dX4_valueAt_1 : decode cX4_valueAt 1 = .ok (.getfield 9, 3) := by decide +kernel
theorem dX4_valueAt_4 : decode cX4_valueAt 4 = .ok (.iload_n 1, 1) := by decide +kernel
theorem dX4_valueAt_5 : decode cX4_valueAt 5 = .ok (.laload, 1) := by decide +kernel
theorem dX4_valueAt_6 : decode cX4_valueAt 6 = .ok (.lreturn, 1) := by decide +kernel
theorem dX4_put_0 : decode cX4_put 0 = .ok (.aload_n 0, 1) := by decide +kernel
theorem dX4_put_1 : decode cX4_put 1 = .ok (.getfield 15, 3) := by decide +kernel
theorem dX4_put_4 : decode cX4_put 4 = .ok (.tableswitch 66 0 2 #[28, 41, 54], 28) := by decide +kernel
theorem dX4_put_32 : decode cX4_put 32 = .ok (.aload_n 0, 1) := by decide +kernel
theorem dX4_put_33 : decode cX4_put 33 = .ok (.getfield 9, 3) := by decide +kernel
theorem dX4_put_36 : decode cX4_put 36 = .ok (.iload_n 1, 1) := by decide +kernel
theorem dX4_put_37 : decode cX4_put 37 = .ok (.lload_n 2, 1) := by decide +kernel
theorem dX4_put_38 : decode cX4_put 38 = .ok (.l2i, 1) := by decide +kernel
theorem dX4_put_39 : decode cX4_put 39 = .ok (.i2b, 1) := by decide +kernel
theorem dX4_put_40 : decode cX4_put 40 = .ok (.i2l, 1) := by decide +kernel
theorem dX4_put_41 : decode cX4_put 41 = .ok (.lastore, 1) := by decide +kernel
theorem dX4_put_42 : decode cX4_put 42 = .ok (.goto 35, 3) := by decide +kernel
theorem dX4_put_45 : decode cX4_put 45 = .ok (.aload_n 0, 1) := by decide +kernel
theorem dX4_put_46 : decode cX4_put 46 = .ok (.getfield 9, 3) := by decide +kernel
theorem dX4_put_49 : decode cX4_put 49 = .ok (.iload_n 1, 1) := by decide +kernel
theorem dX4_put_50 : decode cX4_put 50 = .ok (.lload_n 2, 1) := by decide +kernel
theorem dX4_put_51 : decode cX4_put 51 = .ok (.l2i, 1) := by decide +kernel
theorem dX4_put_52 : decode cX4_put 52 = .ok (.i2s, 1) := by decide +kernel
theorem dX4_put_53 : decode cX4_put 53 = .ok (.i2l, 1) := by decide +kernel
theorem dX4_put_54 : decode cX4_put 54 = .ok (.lastore, 1) := by decide +kernel
theorem dX4_put_55 : decode cX4_put 55 = .ok (.goto 22, 3) := by decide +kernel
theorem dX4_put_58 : decode cX4_put 58 = .ok (.aload_n 0, 1) := by decide +kernel
theorem dX4_put_59 : decode cX4_put 59 = .ok (.getfield 9, 3) := by decide +kernel
theorem dX4_put_62 : decode cX4_put 62 = .ok (.iload_n 1, 1) := by decide +kernel
theorem dX4_put_63 : decode cX4_put 63 = .ok (.lload_n 2, 1) := by decide +kernel
theorem dX4_put_64 : decode cX4_put 64 = .ok (.l2i, 1) := by decide +kernel
theorem dX4_put_65 : decode cX4_put 65 = .ok (.i2l, 1) := by decide +kernel
theorem dX4_put_66 : decode cX4_put 66 = .ok (.lastore, 1) := by decide +kernel
theorem dX4_put_67 : decode cX4_put 67 = .ok (.goto 10, 3) := by decide +kernel
theorem dX4_put_70 : decode cX4_put 70 = .ok (.aload_n 0, 1) := by decide +kernel
theorem dX4_put_71 : decode cX4_put 71 = .ok (.getfield 9, 3) := by decide +kernel
theorem dX4_put_74 : decode cX4_put 74 = .ok (.iload_n 1, 1) := by decide +kernel
theorem dX4_put_75 : decode cX4_put 75 = .ok (.lload_n 2, 1) := by decide +kernel
theorem dX4_put_76 : decode cX4_put 76 = .ok (.lastore, 1) := by decide +kernel
theorem dX4_put_77 : decode cX4_put 77 = .ok (.return_, 1) := by decide +kernel
theorem dX5_init_0 : decode cX5_init 0 = .ok (.aload_n 0, 1) := by decide +kernel
theorem dX5_init_1 : decode cX5_init 1 = .ok (.invokespecial 3, 3) := by decide +kernel
theorem dX5_init_4 : decode cX5_init 4 = .ok (.aload_n 0, 1) := by decide +kernel
theorem dX5_init_5 : decode cX5_init 5 = .ok (.bipush 40, 2) := by decide +kernel
theorem dX5_init_7 : decode cX5_init 7 = .ok (.newarray .char, 2) := by decide +kernel
theorem dX5_init_9 : decode cX5_init 9 = .ok (.putfield 9, 3) := by decide +kernel
theorem dX5_init_12 : decode cX5_init 12 = .ok (.aload_n 0, 1) := by decide +kernel
theorem dX5_init_13 : decode cX5_init 13 = .ok (.iconst 0, 1) := by decide +kernel
theorem dX5_init_14 : decode cX5_init 14 = .ok (.putfield 15, 3) := by decide +kernel
theorem dX5_init_17 : decode cX5_init 17 = .ok (.aload_n 0, 1) := by decide +kernel
theorem dX5_init_18 : decode cX5_init 18 = .ok (.iconst 0, 1) := by decide +kernel
theorem dX5_init_19 : decode cX5_init 19 = .ok (.putfield 19, 3) := by decide +kernel
theorem dX5_init_22 : decode cX5_init 22 = .ok (.aload_n 0, 1) := by decide +kernel
theorem dX5_init_23 : decode cX5_init 23 = .ok (.bipush 8, 2) := by decide +kernel
theorem dX5_init_25 : decode cX5_init 25 = .ok (.newarray .int, 2) := by decide +kernel
theorem dX5_init_27 : decode cX5_init 27 = .ok (.putfield 22, 3) := by decide +kernel
theorem dX5_init_30 : decode cX5_init 30 = .ok (.aload_n 0, 1) := by decide +kernel
theorem dX5_init_31 : decode cX5_init 31 = .ok (.iconst 0, 1) := by decide +kernel
theorem dX5_init_32 : decode cX5_init 32 = .ok (.putfield 26, 3) := by decide +kernel
theorem dX5_init_35 : decode cX5_init 35 = .ok (.aload_n 0, 1) := by decide +kernel
theorem dX5_init_36 : decode cX5_init 36 = .ok (.bipush (-4), 2) := by decide +kernel
theorem dX5_init_38 : decode cX5_init 38 = .ok (.putfield 29, 3) := by decide +kernel
theorem dX5_init_41 : decode cX5_init 41 = .ok (.aload_n 0, 1) := by decide +kernel
theorem dX5_init_42 : decode cX5_init 42 = .ok (.iconst 4, 1) := by decide +kernel
theorem dX5_init_43 : decode cX5_init 43 = .ok (.newarray .int, 2) := by decide +kernel
theorem dX5_init_45 : decode cX5_init 45 = .ok (.putfield 32, 3) := by decide +kernel
theorem dX5_init_48 : decode cX5_init 48 = .ok (.aload_n 0, 1) := by decide +kernel
theorem dX5_init_49 : decode cX5_init 49 = .ok (.iconst 4, 1) := by decide +kernel
theorem dX5_init_50 : decode cX5_init 50 = .ok (.newarray .int, 2) := by decide +kernel
theorem dX5_init_52 : decode cX5_init 52 = .ok (.putfield 35, 3) := by decide +kernel
theorem dX5_init_55 : decode cX5_init 55 = .ok (.aload_n 0, 1) := by decide +kernel
theorem dX5_init_56 : decode cX5_init 56 = .ok (.iconst 0, 1) := by decide +kernel
theorem dX5_init_57 : decode cX5_init 57 = .ok (.putfield 38, 3) := by decide +kernel
theorem dX5_init_60 : decode cX5_init 60 = .ok (.return_, 1) := by decide +kernel
theorem dX5_put_0 : decode cX5_put 0 = .ok (.aload_n 0, 1) := by decide +kernel
theorem dX5_put_1 : decode cX5_put 1 = .ok (.getfield 9, 3) := by decide +kernel
theorem dX5_put_4 : decode cX5_put 4 = .ok (.aload_n 0, 1) := by decide +kernel
theorem dX5_put_5 : decode cX5_put 5 = .ok (.getfield 15, 3) := by decide +kernel
theorem dX5_put_8 : decode cX5_put 8 = .ok (.iload_n 1, 1) := by decide +kernel
theorem dX5_put_9 : decode cX5_put 9 = .ok (.castore, 1) := by decide +kernel
theorem dX5_put_10 : decode cX5_put 10 = .ok (.aload_n 0, 1) := by decide +kernel
theorem dX5_put_11 : decode cX5_put 11 = .ok (.dup, 1) := by decide +kernel
theorem dX5_put_12 : decode cX5_put 12 = .ok (.getfield 15, 3) := by decide +kernel
theorem dX5_put_15 : decode cX5_put 15 = .ok (.iconst 1, 1) := by decide +kernel
theorem dX5_put_16 : decode cX5_put 16 = .ok (.iadd, 1) := by decide +kernel
theorem dX5_put_17 : decode cX5_put 17 = .ok (.putfield 15, 3) := by decide +kernel
theorem dX5_put_20 : decode cX5_put 20 = .ok (.return_, 1) := by decide +kernel
set_option maxRecDepth 20000 in
theorem ggX5_readHerd_X5_readCows : GoodIn wsX5_readHerd wsX5_readCows := goodIn_r _ [9, 2, 10, 1, 3, 11, 12, 13, 8, 14, 15, 16, 17, 18, 19, 119, 120, 121, 122, 123, 124, 125, 126, 127] (by decide +kernel) (by decide +kernel)
set_option maxRecDepth 20000 in
theorem gX5_readHerd_X5_readCows : GoodIn wsX5_readHerd (wsV RX5 41 RX5 yX5_readCows wsX5_readCows) := goodIn_app (goodIn_of _ (by decide +kernel)) ggX5_readHerd_X5_readCows
set_option maxRecDepth 20000 in
theorem ggX5_readHerd_X5_ahead : GoodIn wsX5_readHerd wsX5_ahead := goodIn_r _ [14, 1, 15, 16, 119, 120, 121, 122, 123, 124, 125, 126, 127] (by decide +kernel) (by decide +kernel)
set_option maxRecDepth 20000 in
theorem gX5_readHerd_X5_ahead : GoodIn wsX5_readHerd (wsV RX5 44 RX5 yX5_ahead wsX5_ahead) := goodIn_app (goodIn_of _ (by decide +kernel)) ggX5_readHerd_X5_ahead
set_option maxRecDepth 20000 in
theorem ggX5_readHerd_X5_readTasters : GoodIn wsX5_readHerd wsX5_readTasters := goodIn_r _ [23, 1, 11, 12, 13, 8, 14, 15, 16, 24, 25, 26, 27, 28, 4, 29, 30, 31, 32, 33, 34, 35, 36, 37, 38, 39, 40, 41, 42, 43, 44, 45, 46, 47, 48, 49, 50, 51, 52, 53, 54, 55, 56, 57, 58, 59, 60, 61, 62, 63, 64, 65, 66, 67, 68, 69, 70, 71, 72, 73, 74, 75, 76, 77, 78, 79, 80, 81, 82, 83, 84, 85, 86, 87, 88, 89, 90, 91, 92, 93, 94, 95, 96, 97, 98, 99, 100, 101, 102, 103, 104, 105, 106, 107, 108, 109, 110, 111, 112, 113, 114, 115, 116, 117, 118, 17, 18, 19, 119, 120, 121, 122, 123, 124, 125, 126, 127] (by decide +kernel) (by decide +kernel)
set_option maxRecDepth 20000 in
theorem gX5_readHerd_X5_readTasters : GoodIn wsX5_readHerd (wsV RX5 48 RX5 yX5_readTasters wsX5_readTasters) := goodIn_app (goodIn_of _ (by decide +kernel)) ggX5_readHerd_X5_readTasters
theorem dX5_readHerd_0 : decode cX5_readHerd 0 = .ok (.aload_n 0, 1) := by decide +kernel
theorem dX5_readHerd_1 : decode cX5_readHerd 1 = .ok (.iconst 0, 1) := by decide +kernel
theorem dX5_readHerd_2 : decode cX5_readHerd 2 = .ok (.putfield 19, 3) := by decide +kernel
theorem dX5_readHerd_5 : decode cX5_readHerd 5 = .ok (.aload_n 0, 1) := by decide +kernel
theorem dX5_readHerd_6 : decode cX5_readHerd 6 = .ok (.iconst 0, 1) := by decide +kernel
theorem dX5_readHerd_7 : decode cX5_readHerd 7 = .ok (.putfield 26, 3) := by decide +kernel
theorem dX5_readHerd_10 : decode cX5_readHerd 10 = .ok (.aload_n 0, 1) := by decide +kernel
theorem dX5_readHerd_11 : decode cX5_readHerd 11 = .ok (.bipush (-4), 2) := by decide +kernel
theorem dX5_readHerd_13 : decode cX5_readHerd 13 = .ok (.putfield 29, 3) := by decide +kernel
theorem dX5_readHerd_16 : decode cX5_readHerd 16 = .ok (.aload_n 0, 1) := by decide +kernel
theorem dX5_readHerd_17 : decode cX5_readHerd 17 = .ok (.iconst 0, 1) := by decide +kernel
theorem dX5_readHerd_18 : decode cX5_readHerd 18 = .ok (.putfield 38, 3) := by decide +kernel
theorem dX5_readHerd_21 : decode cX5_readHerd 21 = .ok (.aload_n 0, 1) := by decide +kernel
theorem dX5_readHerd_22 : decode cX5_readHerd 22 = .ok (.invokevirtual 41, 3) := by decide +kernel
theorem dX5_readHerd_25 : decode cX5_readHerd 25 = .ok (.aload_n 0, 1) := by decide +kernel
theorem dX5_readHerd_26 : decode cX5_readHerd 26 = .ok (.getfield 26, 3) := by decide +kernel
theorem dX5_readHerd_29 : decode cX5_readHerd 29 = .ok (.ifCond .ne 5, 3) := by decide +kernel
theorem dX5_readHerd_32 : decode cX5_readHerd 32 = .ok (.iconst 0, 1) := by decide +kernel
theorem dX5_readHerd_33 : decode cX5_readHerd 33 = .ok (.ireturn, 1) := by decide +kernel
theorem dX5_readHerd_34 : decode cX5_readHerd 34 = .ok (.aload_n 0, 1) := by decide +kernel
theorem dX5_readHerd_35 : decode cX5_readHerd 35 = .ok (.invokevirtual 44, 3) := by decide +kernel
theorem dX5_readHerd_38 : decode cX5_readHerd 38 = .ok (.bipush 59, 2) := by decide +kernel
theorem dX5_readHerd_40 : decode cX5_readHerd 40 = .ok (.if_icmp .ne 22, 3) := by decide +kernel
theorem dX5_readHerd_43 : decode cX5_readHerd 43 = .ok (.aload_n 0, 1) := by decide +kernel
theorem dX5_readHerd_44 : decode cX5_readHerd 44 = .ok (.dup, 1) := by decide +kernel
theorem dX5_readHerd_45 : decode cX5_readHerd 45 = .ok (.getfield 19, 3) := by decide +kernel
theorem dX5_readHerd_48 : decode cX5_readHerd 48 = .ok (.iconst 1, 1) := by decide +kernel
theorem dX5_readHerd_49 : decode cX5_readHerd 49 = .ok (.iadd, 1) := by decide +kernel
theorem dX5_readHerd_50 : decode cX5_readHerd 50 = .ok (.putfield 19, 3) := by decide +kernel
theorem dX5_readHerd_53 : decode cX5_readHerd 53 = .ok (.aload_n 0, 1) := by decide +kernel
theorem dX5_readHerd_54 : decode cX5_readHerd 54 = .ok (.invokevirtual 48, 3) := by decide +kernel
theorem dX5_readHerd_57 : decode cX5_readHerd 57 = .ok (.ifCond .ne 5, 3) := by decide +kernel
theorem dX5_readHerd_60 : decode cX5_readHerd 60 = .ok (.iconst 0, 1) := by decide +kernel
theorem dX5_readHerd_61 : decode cX5_readHerd 61 = .ok (.ireturn, 1) := by decide +kernel
theorem dX5_readHerd_62 : decode cX5_readHerd 62 = .ok (.aload_n 0, 1) := by decide +kernel
theorem dX5_readHerd_63 : decode cX5_readHerd 63 = .ok (.invokevirtual 44, 3) := by decide +kernel
theorem dX5_readHerd_66 : decode cX5_readHerd 66 = .ok (.ifCond .ne 7, 3) := by decide +kernel
theorem dX5_readHerd_69 : decode cX5_readHerd 69 = .ok (.iconst 1, 1) := by decide +kernel
theorem dX5_readHerd_70 : decode cX5_readHerd 70 = .ok (.goto 4, 3) := by decide +kernel
theorem dX5_readHerd_73 : decode cX5_readHerd 73 = .ok (.iconst 0, 1) := by decide +kernel
theorem dX5_readHerd_74 : decode cX5_readHerd 74 = .ok (.ireturn, 1) := by decide +kernel
set_option maxRecDepth 20000 in
theorem ggX5_readCows_X5_ahead : GoodIn wsX5_readCows wsX5_ahead := goodIn_r _ [9, 3, 10, 11, 15, 16, 17, 18, 19, 20, 21, 22, 23] (by decide +kernel) (by decide +kernel)
set_option maxRecDepth 20000 in
theorem gX5_readCows_X5_ahead : GoodIn wsX5_readCows (wsV RX5 44 RX5 yX5_ahead wsX5_ahead) := goodIn_app (goodIn_of _ (by decide +kernel)) ggX5_readCows_X5_ahead
set_option maxRecDepth 20000 in
theorem ggX5_readCows_X5_isDigit : GoodIn wsX5_readCows wsX5_isDigit := goodIn_r _ [14] (by decide +kernel) (by decide +kernel)
set_option maxRecDepth 20000 in
theorem gX5_readCows_X5_isDigit : GoodIn wsX5_readCows (va_wsS RX5 52 yX5_isDigit wsX5_isDigit) := goodIn_app (goodIn_of _ (by decide +kernel)) ggX5_readCows_X5_isDigit
theorem dX5_readCows_0 : decode cX5_readCows 0 = .ok (.aload_n 0, 1) := by decide +kernel
theorem dX5_readCows_1 : decode cX5_readCows 1 = .ok (.getfield 26, 3) := by decide +kernel
theorem dX5_readCows_4 : decode cX5_readCows 4 = .ok (.bipush 8, 2) := by decide +kernel
theorem dX5_readCows_6 : decode cX5_readCows 6 = .ok (.if_icmp .ge 90, 3) := by decide +kernel
theorem dX5_readCows_9 : decode cX5_readCows 9 = .ok (.aload_n 0, 1) := by decide +kernel
theorem dX5_readCows_10 : decode cX5_readCows 10 = .ok (.invokevirtual 44, 3) := by decide +kernel
theorem dX5_readCows_13 : decode cX5_readCows 13 = .ok (.invokestatic 52, 3) := by decide +kernel
theorem dX5_readCows_16 : decode cX5_readCows 16 = .ok (.ifCond .eq 80, 3) := by decide +kernel
theorem dX5_readCows_19 : decode cX5_readCows 19 = .ok (.aload_n 0, 1) := by decide +kernel
theorem dX5_readCows_20 : decode cX5_readCows 20 = .ok (.getfield 22, 3) := by decide +kernel
theorem dX5_readCows_23 : decode cX5_readCows 23 = .ok (.aload_n 0, 1) := by decide +kernel
theorem dX5_readCows_24 : decode cX5_readCows 24 = .ok (.getfield 26, 3) := by decide +kernel
theorem dX5_readCows_27 : decode cX5_readCows 27 = .ok (.aload_n 0, 1) := by decide +kernel
theorem dX5_readCows_28 : decode cX5_readCows 28 = .ok (.invokevirtual 44, 3) := by decide +kernel
theorem dX5_readCows_31 : decode cX5_readCows 31 = .ok (.bipush 48, 2) := by decide +kernel
theorem dX5_readCows_33 : decode cX5_readCows 33 = .ok (.isub, 1) := by decide +kernel
theorem dX5_readCows_34 : decode cX5_readCows 34 = .ok (.iastore, 1) := by decide +kernel
theorem dX5_readCows_35 : decode cX5_readCows 35 = .ok (.aload_n 0, 1) := by decide +kernel
theorem dX5_readCows_36 : decode cX5_readCows 36 = .ok (.dup, 1) := by decide +kernel
theorem dX5_readCows_37 : decode cX5_readCows 37 = .ok (.getfield 26, 3) := by decide +kernel
theorem dX5_readCows_40 : decode cX5_readCows 40 = .ok (.iconst 1, 1) := by decide +kernel
theorem dX5_readCows_41 : decode cX5_readCows 41 = .ok (.iadd, 1) := by decide +kernel
theorem dX5_readCows_42 : decode cX5_readCows 42 = .ok (.putfield 26, 3) := by decide +kernel
theorem dX5_readCows_45 : decode cX5_readCows 45 = .ok (.aload_n 0, 1) := by decide +kernel
theorem dX5_readCows_46 : decode cX5_readCows 46 = .ok (.dup, 1) := by decide +kernel
theorem dX5_readCows_47 : decode cX5_readCows 47 = .ok (.getfield 19, 3) := by decide +kernel
theorem dX5_readCows_50 : decode cX5_readCows 50 = .ok (.iconst 1, 1) := by decide +kernel
theorem dX5_readCows_51 : decode cX5_readCows 51 = .ok (.iadd, 1) := by decide +kernel
theorem dX5_readCows_52 : decode cX5_readCows 52 = .ok (.putfield 19, 3) := by decide +kernel
theorem dX5_readCows_55 : decode cX5_readCows 55 = .ok (.aload_n 0, 1) := by decide +kernel
theorem dX5_readCows_56 : decode cX5_readCows 56 = .ok (.getfield 29, 3) := by decide +kernel
theorem dX5_readCows_59 : decode cX5_readCows 59 = .ok (.bipush (-4), 2) := by decide +kernel
theorem dX5_readCows_61 : decode cX5_readCows 61 = .ok (.if_icmp .ne (-61), 3) := by decide +kernel
theorem dX5_readCows_64 : decode cX5_readCows 64 = .ok (.aload_n 0, 1) := by decide +kernel
theorem dX5_readCows_65 : decode cX5_readCows 65 = .ok (.invokevirtual 44, 3) := by decide +kernel
theorem dX5_readCows_68 : decode cX5_readCows 68 = .ok (.bipush 33, 2) := by decide +kernel
theorem dX5_readCows_70 : decode cX5_readCows 70 = .ok (.if_icmp .ne (-70), 3) := by decide +kernel
theorem dX5_readCows_73 : decode cX5_readCows 73 = .ok (.aload_n 0, 1) := by decide +kernel
theorem dX5_readCows_74 : decode cX5_readCows 74 = .ok (.aload_n 0, 1) := by decide +kernel
theorem dX5_readCows_75 : decode cX5_readCows 75 = .ok (.getfield 26, 3) := by decide +kernel
theorem dX5_readCows_78 : decode cX5_readCows 78 = .ok (.iconst 1, 1) := by decide +kernel
theorem dX5_readCows_79 : decode cX5_readCows 79 = .ok (.isub, 1) := by decide +kernel
theorem dX5_readCows_80 : decode cX5_readCows 80 = .ok (.putfield 29, 3) := by decide +kernel
theorem dX5_readCows_83 : decode cX5_readCows 83 = .ok (.aload_n 0, 1) := by decide +kernel
theorem dX5_readCows_84 : decode cX5_readCows 84 = .ok (.dup, 1) := by decide +kernel
theorem dX5_readCows_85 : decode cX5_readCows 85 = .ok (.getfield 19, 3) := by decide +kernel
theorem dX5_readCows_88 : decode cX5_readCows 88 = .ok (.iconst 1, 1) := by decide +kernel
theorem dX5_readCows_89 : decode cX5_readCows 89 = .ok (.iadd, 1) := by decide +kernel
theorem dX5_readCows_90 : decode cX5_readCows 90 = .ok (.putfield 19, 3) := by decide +kernel
theorem dX5_readCows_93 : decode cX5_readCows 93 = .ok (.goto (-93), 3) := by decide +kernel
theorem dX5_readCows_96 : decode cX5_readCows 96 = .ok (.return_, 1) := by decide +kernel
set_option maxRecDepth 20000 in
theorem ggX5_readTasters_X5_ahead : GoodIn wsX5_readTasters wsX5_ahead := goodIn_r _ [6, 1, 7, 8, 108, 109, 110, 111, 112, 113, 114, 115, 116] (by decide +kernel) (by decide +kernel)
set_option maxRecDepth 20000 in
theorem gX5_readTasters_X5_ahead : GoodIn wsX5_readTasters (wsV RX5 44 RX5 yX5_ahead wsX5_ahead) := goodIn_app (goodIn_of _ (by decide +kernel)) ggX5_readTasters_X5_ahead
set_option maxRecDepth 20000 in
theorem ggX5_readTasters_X5_readTaster : GoodIn wsX5_readTasters wsX5_readTaster := goodIn_r _ [12, 1, 13, 14, 15, 2, 3, 4, 5, 6, 7, 8, 16, 17, 18, 19, 20, 21, 22, 23, 24, 25, 26, 27, 28, 29, 30, 31, 32, 33, 34, 35, 36, 37, 38, 39, 40, 41, 42, 43, 44, 45, 46, 47, 48, 49, 50, 51, 52, 53, 54, 55, 56, 57, 58, 59, 60, 61, 62, 63, 64, 65, 66, 67, 68, 69, 70, 71, 72, 73, 74, 75, 76, 77, 78, 79, 80, 81, 82, 83, 84, 85, 86, 87, 88, 89, 90, 91, 92, 93, 94, 95, 96, 97, 98, 99, 100, 101, 102, 103, 104, 105, 106, 107, 108, 109, 110, 111, 112, 113, 114, 115, 116] (by decide +kernel) (by decide +kernel)
set_option maxRecDepth 20000 in
theorem gX5_readTasters_X5_readTaster : GoodIn wsX5_readTasters (wsV RX5 56 RX5 yX5_readTaster wsX5_readTaster) := goodIn_app (goodIn_of _ (by decide +kernel)) ggX5_readTasters_X5_readTaster
theorem dX5_readTasters_0 : decode cX5_readTasters 0 = .ok (.iconst 0, 1) := by decide +kernel
theorem dX5_readTasters_1 : decode cX5_readTasters 1 = .ok (.istore_n 1, 1) := by decide +kernel
theorem dX5_readTasters_2 : decode cX5_readTasters 2 = .ok (.iload_n 1, 1) := by decide +kernel
theorem dX5_readTasters_3 : decode cX5_readTasters 3 = .ok (.iconst 4, 1) := by decide +kernel
theorem dX5_readTasters_4 : decode cX5_readTasters 4 = .ok (.if_icmp .ge 43, 3) := by decide +kernel
theorem dX5_readTasters_7 : decode cX5_readTasters 7 = .ok (.iload_n 1, 1) := by decide +kernel
theorem dX5_readTasters_8 : decode cX5_readTasters 8 = .ok (.ifCond .le 24, 3) := by decide +kernel
theorem dX5_readTasters_11 : decode cX5_readTasters 11 = .ok (.aload_n 0, 1) := by decide +kernel
theorem dX5_readTasters_12 : decode cX5_readTasters 12 = .ok (.invokevirtual 44, 3) := by decide +kernel
theorem dX5_readTasters_15 : decode cX5_readTasters 15 = .ok (.bipush 44, 2) := by decide +kernel
theorem dX5_readTasters_17 : decode cX5_readTasters 17 = .ok (.if_icmp .eq 5, 3) := by decide +kernel
theorem dX5_readTasters_20 : decode cX5_readTasters 20 = .ok (.iconst 1, 1) := by decide +kernel
theorem dX5_readTasters_21 : decode cX5_readTasters 21 = .ok (.ireturn, 1) := by decide +kernel
theorem dX5_readTasters_22 : decode cX5_readTasters 22 = .ok (.aload_n 0, 1) := by decide +kernel
theorem dX5_readTasters_23 : decode cX5_readTasters 23 = .ok (.dup, 1) := by decide +kernel
theorem dX5_readTasters_24 : decode cX5_readTasters 24 = .ok (.getfield 19, 3) := by decide +kernel
theorem dX5_readTasters_27 : decode cX5_readTasters 27 = .ok (.iconst 1, 1) := by decide +kernel
theorem dX5_readTasters_28 : decode cX5_readTasters 28 = .ok (.iadd, 1) := by decide +kernel
theorem dX5_readTasters_29 : decode cX5_readTasters 29 = .ok (.putfield 19, 3) := by decide +kernel
theorem dX5_readTasters_32 : decode cX5_readTasters 32 = .ok (.aload_n 0, 1) := by decide +kernel
theorem dX5_readTasters_33 : decode cX5_readTasters 33 = .ok (.invokevirtual 56, 3) := by decide +kernel
theorem dX5_readTasters_36 : decode cX5_readTasters 36 = .ok (.ifCond .ne 5, 3) := by decide +kernel
theorem dX5_readTasters_39 : decode cX5_readTasters 39 = .ok (.iconst 0, 1) := by decide +kernel
theorem dX5_readTasters_40 : decode cX5_readTasters 40 = .ok (.ireturn, 1) := by decide +kernel
theorem dX5_readTasters_41 : decode cX5_readTasters 41 = .ok (.iinc 1 1, 3) := by decide +kernel
theorem dX5_readTasters_44 : decode cX5_readTasters 44 = .ok (.goto (-42), 3) := by decide +kernel
theorem dX5_readTasters_47 : decode cX5_readTasters 47 = .ok (.iconst 1, 1) := by decide +kernel
theorem dX5_readTasters_48 : decode cX5_readTasters 48 = .ok (.ireturn, 1) := by decide +kernel
set_option maxRecDepth 20000 in
theorem ggX5_readTaster_X5_ahead : GoodIn wsX5_readTaster wsX5_ahead := goodIn_r _ [9, 1, 10, 11, 104, 105, 106, 107, 108, 109, 110, 111, 112] (by decide +kernel) (by decide +kernel)
set_option maxRecDepth 20000 in
theorem gX5_readTaster_X5_ahead : GoodIn wsX5_readTaster (wsV RX5 44 RX5 yX5_ahead wsX5_ahead) := goodIn_app (goodIn_of _ (by decide +kernel)) ggX5_readTaster_X5_ahead
set_option maxRecDepth 20000 in
theorem ggX5_readTaster_J0_indexOf_0f7a4 : GoodIn wsX5_readTaster wsJ0_indexOf_0f7a4 := goodIn_r _ [16, 17, 18, 19, 15, 20, 21, 22, 23, 24, 25, 26, 27, 28, 29, 30, 31, 32, 33, 34, 35, 36, 37, 38, 39, 40, 41, 42, 43, 44, 45, 46, 47, 48, 49, 50, 51, 52, 53, 54, 55, 56, 57, 58, 59, 60, 61, 62, 63, 64, 65, 66, 67, 68, 69, 70, 71, 72, 73, 74, 75, 76, 77, 78, 79, 80, 81, 82, 83, 84, 85, 86, 87, 88, 89, 90, 91, 92, 93, 94, 95, 96, 97, 98, 99, 100] (by decide +kernel) (by decide +kernel)
set_option maxRecDepth 20000 in
theorem gX5_readTaster_J0_indexOf_0f7a4 : GoodIn wsX5_readTaster (wsV RX5 61 RJ0 yJ0_indexOf_0f7a4 wsJ0_indexOf_0f7a4) := goodIn_app (goodIn_of _ (by decide +kernel)) ggX5_readTaster_J0_indexOf_0f7a4
set_option maxRecDepth 20000 in
theorem ggX5_readTaster_X5_isDigit : GoodIn wsX5_readTaster wsX5_isDigit := goodIn_r _ [103] (by decide +kernel) (by decide +kernel)
set_option maxRecDepth 20000 in
theorem gX5_readTaster_X5_isDigit : GoodIn wsX5_readTaster (va_wsS RX5 52 yX5_isDigit wsX5_isDigit) := goodIn_app (goodIn_of _ (by decide +kernel)) ggX5_readTaster_X5_isDigit
theorem dX5_readTaster_0 : decode cX5_readTaster 0 = .ok (.ldc 59, 2) := by decide +kernel
theorem dX5_readTaster_2 : decode cX5_readTaster 2 = .ok (.aload_n 0, 1) := by decide +kernel
theorem dX5_readTaster_3 : decode cX5_readTaster 3 = .ok (.invokevirtual 44, 3) := by decide +kernel
theorem dX5_readTaster_6 : decode cX5_readTaster 6 = .ok (.invokevirtual 61, 3) := by decide +kernel
theorem dX5_readTaster_9 : decode cX5_readTaster 9 = .ok (.istore_n 1, 1) := by decide +kernel
theorem dX5_readTaster_10 : decode cX5_readTaster 10 = .ok (.iload_n 1, 1) := by decide +kernel
theorem dX5_readTaster_11 : decode cX5_readTaster 11 = .ok (.ifCond .ge 5, 3) := by decide +kernel
theorem dX5_readTaster_14 : decode cX5_readTaster 14 = .ok (.iconst 0, 1) := by decide +kernel
theorem dX5_readTaster_15 : decode cX5_readTaster 15 = .ok (.ireturn, 1) := by decide +kernel
theorem dX5_readTaster_16 : decode cX5_readTaster 16 = .ok (.aload_n 0, 1) := by decide +kernel
theorem dX5_readTaster_17 : decode cX5_readTaster 17 = .ok (.dup, 1) := by decide +kernel
theorem dX5_readTaster_18 : decode cX5_readTaster 18 = .ok (.getfield 19, 3) := by decide +kernel
theorem dX5_readTaster_21 : decode cX5_readTaster 21 = .ok (.iconst 1, 1) := by decide +kernel
theorem dX5_readTaster_22 : decode cX5_readTaster 22 = .ok (.iadd, 1) := by decide +kernel
theorem dX5_readTaster_23 : decode cX5_readTaster 23 = .ok (.putfield 19, 3) := by decide +kernel
theorem dX5_readTaster_26 : decode cX5_readTaster 26 = .ok (.aload_n 0, 1) := by decide +kernel
theorem dX5_readTaster_27 : decode cX5_readTaster 27 = .ok (.invokevirtual 44, 3) := by decide +kernel
theorem dX5_readTaster_30 : decode cX5_readTaster 30 = .ok (.invokestatic 52, 3) := by decide +kernel
theorem dX5_readTaster_33 : decode cX5_readTaster 33 = .ok (.ifCond .ne 5, 3) := by decide +kernel
theorem dX5_readTaster_36 : decode cX5_readTaster 36 = .ok (.iconst 0, 1) := by decide +kernel
theorem dX5_readTaster_37 : decode cX5_readTaster 37 = .ok (.ireturn, 1) := by decide +kernel
theorem dX5_readTaster_38 : decode cX5_readTaster 38 = .ok (.aload_n 0, 1) := by decide +kernel
theorem dX5_readTaster_39 : decode cX5_readTaster 39 = .ok (.getfield 32, 3) := by decide +kernel
theorem dX5_readTaster_42 : decode cX5_readTaster 42 = .ok (.aload_n 0, 1) := by decide +kernel
theorem dX5_readTaster_43 : decode cX5_readTaster 43 = .ok (.getfield 38, 3) := by decide +kernel
theorem dX5_readTaster_46 : decode cX5_readTaster 46 = .ok (.iload_n 1, 1) := by decide +kernel
theorem dX5_readTaster_47 : decode cX5_readTaster 47 = .ok (.iastore, 1) := by decide +kernel
theorem dX5_readTaster_48 : decode cX5_readTaster 48 = .ok (.aload_n 0, 1) := by decide +kernel
theorem dX5_readTaster_49 : decode cX5_readTaster 49 = .ok (.getfield 35, 3) := by decide +kernel
theorem dX5_readTaster_52 : decode cX5_readTaster 52 = .ok (.aload_n 0, 1) := by decide +kernel
theorem dX5_readTaster_53 : decode cX5_readTaster 53 = .ok (.getfield 38, 3) := by decide +kernel
theorem dX5_readTaster_56 : decode cX5_readTaster 56 = .ok (.aload_n 0, 1) := by decide +kernel
theorem dX5_readTaster_57 : decode cX5_readTaster 57 = .ok (.invokevirtual 44, 3) := by decide +kernel
theorem dX5_readTaster_60 : decode cX5_readTaster 60 = .ok (.bipush 48, 2) := by decide +kernel
theorem dX5_readTaster_62 : decode cX5_readTaster 62 = .ok (.isub, 1) := by decide +kernel
theorem dX5_readTaster_63 : decode cX5_readTaster 63 = .ok (.iastore, 1) := by decide +kernel
theorem dX5_readTaster_64 : decode cX5_readTaster 64 = .ok (.aload_n 0, 1) := by decide +kernel
theorem dX5_readTaster_65 : decode cX5_readTaster 65 = .ok (.dup, 1) := by decide +kernel
theorem dX5_readTaster_66 : decode cX5_readTaster 66 = .ok (.getfield 38, 3) := by decide +kernel
theorem dX5_readTaster_69 : decode cX5_readTaster 69 = .ok (.iconst 1, 1) := by decide +kernel
theorem dX5_readTaster_70 : decode cX5_readTaster 70 = .ok (.iadd, 1) := by decide +kernel
theorem dX5_readTaster_71 : decode cX5_readTaster 71 = .ok (.putfield 38, 3) := by decide +kernel
theorem dX5_readTaster_74 : decode cX5_readTaster 74 = .ok (.aload_n 0, 1) := by decide +kernel
theorem dX5_readTaster_75 : decode cX5_readTaster 75 = .ok (.dup, 1) := by decide +kernel
theorem dX5_readTaster_76 : decode cX5_readTaster 76 = .ok (.getfield 19, 3) := by decide +kernel
theorem dX5_readTaster_79 : decode cX5_readTaster 79 = .ok (.iconst 1, 1) := by decide +kernel
theorem dX5_readTaster_80 : decode cX5_readTaster 80 = .ok (.iadd, 1) := by decide +kernel
theorem dX5_readTaster_81 : decode cX5_readTaster 81 = .ok (.putfield 19, 3) := by decide +kernel
theorem dX5_readTaster_84 : decode cX5_readTaster 84 = .ok (.iconst 1, 1) := by decide +kernel
theorem dX5_readTaster_85 : decode cX5_readTaster 85 = .ok (.ireturn, 1) := by decide +kernel
theorem dX5_ahead_0 : decode cX5_ahead 0 = .ok (.aload_n 0, 1) := by decide +kernel
theorem dX5_ahead_1 : decode cX5_ahead 1 = .ok (.getfield 19, 3) := by decide +kernel
theorem dX5_ahead_4 : decode cX5_ahead 4 = .ok (.aload_n 0, 1) := by decide +kernel
theorem dX5_ahead_5 : decode cX5_ahead 5 = .ok (.getfield 15, 3) := by decide +kernel
theorem dX5_ahead_8 : decode cX5_ahead 8 = .ok (.if_icmp .ge 30, 3) := by decide +kernel
theorem dX5_ahead_11 : decode cX5_ahead 11 = .ok (.aload_n 0, 1) := by decide +kernel
theorem dX5_ahead_12 : decode cX5_ahead 12 = .ok (.getfield 9, 3) := by decide +kernel
theorem dX5_ahead_15 : decode cX5_ahead 15 = .ok (.aload_n 0, 1) := by decide +kernel
theorem dX5_ahead_16 : decode cX5_ahead 16 = .ok (.getfield 19, 3) := by decide +kernel
theorem dX5_ahead_19 : decode cX5_ahead 19 = .ok (.caload, 1) := by decide +kernel
theorem dX5_ahead_20 : decode cX5_ahead 20 = .ok (.bipush 32, 2) := by decide +kernel
theorem dX5_ahead_22 : decode cX5_ahead 22 = .ok (.if_icmp .ne 16, 3) := by decide +kernel
theorem dX5_ahead_25 : decode cX5_ahead 25 = .ok (.aload_n 0, 1) := by decide +kernel
theorem dX5_ahead_26 : decode cX5_ahead 26 = .ok (.dup, 1) := by decide +kernel
theorem dX5_ahead_27 : decode cX5_ahead 27 = .ok (.getfield 19, 3) := by decide +kernel
theorem dX5_ahead_30 : decode cX5_ahead 30 = .ok (.iconst 1, 1) := by decide +kernel
theorem dX5_ahead_31 : decode cX5_ahead 31 = .ok (.iadd, 1) := by decide +kernel
theorem dX5_ahead_32 : decode cX5_ahead 32 = .ok (.putfield 19, 3) := by decide +kernel
theorem dX5_ahead_35 : decode cX5_ahead 35 = .ok (.goto (-35), 3) := by decide +kernel
theorem dX5_ahead_38 : decode cX5_ahead 38 = .ok (.aload_n 0, 1) := by decide +kernel
theorem dX5_ahead_39 : decode cX5_ahead 39 = .ok (.getfield 19, 3) := by decide +kernel
theorem dX5_ahead_42 : decode cX5_ahead 42 = .ok (.aload_n 0, 1) := by decide +kernel
theorem dX5_ahead_43 : decode cX5_ahead 43 = .ok (.getfield 15, 3) := by decide +kernel
theorem dX5_ahead_46 : decode cX5_ahead 46 = .ok (.if_icmp .ge 15, 3) := by decide +kernel
theorem dX5_ahead_49 : decode cX5_ahead 49 = .ok (.aload_n 0, 1) := by decide +kernel
theorem dX5_ahead_50 : decode cX5_ahead 50 = .ok (.getfield 9, 3) := by decide +kernel
theorem dX5_ahead_53 : decode cX5_ahead 53 = .ok (.aload_n 0, 1) := by decide +kernel
theorem dX5_ahead_54 : decode cX5_ahead 54 = .ok (.getfield 19, 3) := by decide +kernel
theorem dX5_ahead_57 : decode cX5_ahead 57 = .ok (.caload, 1) := by decide +kernel
theorem dX5_ahead_58 : decode cX5_ahead 58 = .ok (.goto 4, 3) := by decide +kernel
theorem dX5_ahead_61 : decode cX5_ahead 61 = .ok (.iconst 0, 1) := by decide +kernel
theorem dX5_ahead_62 : decode cX5_ahead 62 = .ok (.ireturn, 1) := by decide +kernel
theorem dX5_isDigit_0 : decode cX5_isDigit 0 = .ok (.iload_n 0, 1) := by decide +kernel
theorem dX5_isDigit_1 : decode cX5_isDigit 1 = .ok (.bipush 49, 2) := by decide +kernel
theorem dX5_isDigit_3 : decode cX5_isDigit 3 = .ok (.if_icmp .lt 13, 3) := by decide +kernel
theorem dX5_isDigit_6 : decode cX5_isDigit 6 = .ok (.iload_n 0, 1) := by decide +kernel
theorem dX5_isDigit_7 : decode cX5_isDigit 7 = .ok (.bipush 57, 2) := by decide +kernel
theorem dX5_isDigit_9 : decode cX5_isDigit 9 = .ok (.if_icmp .gt 7, 3) := by decide +kernel
theorem dX5_isDigit_12 : decode cX5_isDigit 12 = .ok (.iconst 1, 1) := by decide +kernel
theorem dX5_isDigit_13 : decode cX5_isDigit 13 = .ok (.goto 4, 3) := by decide +kernel
theorem dX5_isDigit_16 : decode cX5_isDigit 16 = .ok (.iconst 0, 1) := by decide +kernel
theorem dX5_isDigit_17 : decode cX5_isDigit 17 = .ok (.ireturn, 1) := by decide +kernel
theorem dX6_init_0 : decode cX6_init 0 = .ok (.aload_n 0, 1) := by decide +kernel
theorem dX6_init_1 : decode cX6_init 1 = .ok (.invokespecial 3, 3) := by decide +kernel
theorem dX6_init_4 : decode cX6_init 4 = .ok (.aload_n 0, 1) := by decide +kernel
theorem dX6_init_5 : decode cX6_init 5 = .ok (.bipush 8, 2) := by decide +kernel
theorem dX6_init_7 : decode cX6_init 7 = .ok (.newarray .int, 2) := by decide +kernel
theorem dX6_init_9 : decode cX6_init 9 = .ok (.putfield 9, 3) := by decide +kernel
theorem dX6_init_12 : decode cX6_init 12 = .ok (.aload_n 0, 1) := by decide +kernel
theorem dX6_init_13 : decode cX6_init 13 = .ok (.iconst 0, 1) := by decide +kernel
theorem dX6_init_14 : decode cX6_init 14 = .ok (.putfield 15, 3) := by decide +kernel
theorem dX6_init_17 : decode cX6_init 17 = .ok (.return_, 1) := by decide +kernel
set_option maxRecDepth 20000 in
theorem ggX6_arrange_X6_insert : GoodIn wsX6_arrange wsX6_insert := goodIn_r _ [9, 1, 10, 11, 16, 17, 18, 19, 20, 21, 22, 23, 24, 25, 26] (by decide +kernel) (by decide +kernel)
set_option maxRecDepth 20000 in
theorem gX6_arrange_X6_insert : GoodIn wsX6_arrange (wsV RX6 33 RX6 yX6_insert wsX6_insert) := goodIn_app (goodIn_of _ (by decide +kernel)) ggX6_arrange_X6_insert
set_option maxRecDepth 20000 in
theorem ggX6_arrange_X6_sortLastTwo : GoodIn wsX6_arrange wsX6_sortLastTwo := goodIn_r _ [15, 1, 11, 16, 17] (by decide +kernel) (by decide +kernel)
set_option maxRecDepth 20000 in
theorem gX6_arrange_X6_sortLastTwo : GoodIn wsX6_arrange (wsV RX6 37 RX6 yX6_sortLastTwo wsX6_sortLastTwo) := goodIn_app (goodIn_of _ (by decide +kernel)) ggX6_arrange_X6_sortLastTwo
theorem dX6_arrange_0 : decode cX6_arrange 0 = .ok (.aload_n 0, 1) := by decide +kernel
theorem dX6_arrange_1 : decode cX6_arrange 1 = .ok (.iconst 0, 1) := by decide +kernel
theorem dX6_arrange_2 : decode cX6_arrange 2 = .ok (.putfield 15, 3) := by decide +kernel
theorem dX6_arrange_5 : decode cX6_arrange 5 = .ok (.iconst 0, 1) := by decide +kernel
theorem dX6_arrange_6 : decode cX6_arrange 6 = .ok (.istore_n 2, 1) := by decide +kernel
theorem dX6_arrange_7 : decode cX6_arrange 7 = .ok (.iload_n 2, 1) := by decide +kernel
theorem dX6_arrange_8 : decode cX6_arrange 8 = .ok (.aload_n 1, 1) := by decide +kernel
theorem dX6_arrange_9 : decode cX6_arrange 9 = .ok (.getfield 19, 3) := by decide +kernel
theorem dX6_arrange_12 : decode cX6_arrange 12 = .ok (.if_icmp .ge 30, 3) := by decide +kernel
theorem dX6_arrange_15 : decode cX6_arrange 15 = .ok (.aload_n 1, 1) := by decide +kernel
theorem dX6_arrange_16 : decode cX6_arrange 16 = .ok (.getfield 24, 3) := by decide +kernel
theorem dX6_arrange_19 : decode cX6_arrange 19 = .ok (.getfield 28, 3) := by decide +kernel
theorem dX6_arrange_22 : decode cX6_arrange 22 = .ok (.iload_n 2, 1) := by decide +kernel
theorem dX6_arrange_23 : decode cX6_arrange 23 = .ok (.ishr, 1) := by decide +kernel
theorem dX6_arrange_24 : decode cX6_arrange 24 = .ok (.iconst 1, 1) := by decide +kernel
theorem dX6_arrange_25 : decode cX6_arrange 25 = .ok (.iand, 1) := by decide +kernel
theorem dX6_arrange_26 : decode cX6_arrange 26 = .ok (.iconst 1, 1) := by decide +kernel
theorem dX6_arrange_27 : decode cX6_arrange 27 = .ok (.if_icmp .ne 9, 3) := by decide +kernel
theorem dX6_arrange_30 : decode cX6_arrange 30 = .ok (.aload_n 0, 1) := by decide +kernel
theorem dX6_arrange_31 : decode cX6_arrange 31 = .ok (.aload_n 1, 1) := by decide +kernel
theorem dX6_arrange_32 : decode cX6_arrange 32 = .ok (.iload_n 2, 1) := by decide +kernel
theorem dX6_arrange_33 : decode cX6_arrange 33 = .ok (.invokevirtual 33, 3) := by decide +kernel
theorem dX6_arrange_36 : decode cX6_arrange 36 = .ok (.iinc 2 1, 3) := by decide +kernel
theorem dX6_arrange_39 : decode cX6_arrange 39 = .ok (.goto (-32), 3) := by decide +kernel
theorem dX6_arrange_42 : decode cX6_arrange 42 = .ok (.aload_n 0, 1) := by decide +kernel
theorem dX6_arrange_43 : decode cX6_arrange 43 = .ok (.invokevirtual 37, 3) := by decide +kernel
theorem dX6_arrange_46 : decode cX6_arrange 46 = .ok (.return_, 1) := by decide +kernel
theorem dX6_insert_0 : decode cX6_insert 0 = .ok (.aload_n 0, 1) := by decide +kernel
theorem dX6_insert_1 : decode cX6_insert 1 = .ok (.getfield 15, 3) := by decide +kernel
theorem dX6_insert_4 : decode cX6_insert 4 = .ok (.istore_n 3, 1) := by decide +kernel
theorem dX6_insert_5 : decode cX6_insert 5 = .ok (.iload_n 3, 1) := by decide +kernel
theorem dX6_insert_6 : decode cX6_insert 6 = .ok (.ifCond .le 45, 3) := by decide +kernel
theorem dX6_insert_9 : decode cX6_insert 9 = .ok (.aload_n 1, 1) := by decide +kernel
theorem dX6_insert_10 : decode cX6_insert 10 = .ok (.getfield 40, 3) := by decide +kernel
theorem dX6_insert_13 : decode cX6_insert 13 = .ok (.aload_n 0, 1) := by decide +kernel
theorem dX6_insert_14 : decode cX6_insert 14 = .ok (.getfield 9, 3) := by decide +kernel
theorem dX6_insert_17 : decode cX6_insert 17 = .ok (.iload_n 3, 1) := by decide +kernel
theorem dX6_insert_18 : decode cX6_insert 18 = .ok (.iconst 1, 1) := by decide +kernel
theorem dX6_insert_19 : decode cX6_insert 19 = .ok (.isub, 1) := by decide +kernel
theorem dX6_insert_20 : decode cX6_insert 20 = .ok (.iaload, 1) := by decide +kernel
theorem dX6_insert_21 : decode cX6_insert 21 = .ok (.iaload, 1) := by decide +kernel
theorem dX6_insert_22 : decode cX6_insert 22 = .ok (.aload_n 1, 1) := by decide +kernel
theorem dX6_insert_23 : decode cX6_insert 23 = .ok (.getfield 40, 3) := by decide +kernel
theorem dX6_insert_26 : decode cX6_insert 26 = .ok (.iload_n 2, 1) := by decide +kernel
theorem dX6_insert_27 : decode cX6_insert 27 = .ok (.iaload, 1) := by decide +kernel
theorem dX6_insert_28 : decode cX6_insert 28 = .ok (.if_icmp .ge 23, 3) := by decide +kernel
theorem dX6_insert_31 : decode cX6_insert 31 = .ok (.aload_n 0, 1) := by decide +kernel
theorem dX6_insert_32 : decode cX6_insert 32 = .ok (.getfield 9, 3) := by decide +kernel
theorem dX6_insert_35 : decode cX6_insert 35 = .ok (.iload_n 3, 1) := by decide +kernel
theorem dX6_insert_36 : decode cX6_insert 36 = .ok (.aload_n 0, 1) := by decide +kernel
theorem dX6_insert_37 : decode cX6_insert 37 = .ok (.getfield 9, 3) := by decide +kernel
theorem dX6_insert_40 : decode cX6_insert 40 = .ok (.iload_n 3, 1) := by decide +kernel
theorem dX6_insert_41 : decode cX6_insert 41 = .ok (.iconst 1, 1) := by decide +kernel
theorem dX6_insert_42 : decode cX6_insert 42 = .ok (.isub, 1) := by decide +kernel
theorem dX6_insert_43 : decode cX6_insert 43 = .ok (.iaload, 1) := by decide +kernel
theorem dX6_insert_44 : decode cX6_insert 44 = .ok (.iastore, 1) := by decide +kernel
theorem dX6_insert_45 : decode cX6_insert 45 = .ok (.iinc 3 (-1), 3) := by decide +kernel
theorem dX6_insert_48 : decode cX6_insert 48 = .ok (.goto (-43), 3) := by decide +kernel
theorem dX6_insert_51 : decode cX6_insert 51 = .ok (.aload_n 0, 1) := by decide +kernel
theorem dX6_insert_52 : decode cX6_insert 52 = .ok (.getfield 9, 3) := by decide +kernel
theorem dX6_insert_55 : decode cX6_insert 55 = .ok (.iload_n 3, 1) := by decide +kernel
theorem dX6_insert_56 : decode cX6_insert 56 = .ok (.iload_n 2, 1) := by decide +kernel
theorem dX6_insert_57 : decode cX6_insert 57 = .ok (.iastore, 1) := by decide +kernel
theorem dX6_insert_58 : decode cX6_insert 58 = .ok (.aload_n 0, 1) := by decide +kernel
theorem dX6_insert_59 : decode cX6_insert 59 = .ok (.dup, 1) := by decide +kernel
theorem dX6_insert_60 : decode cX6_insert 60 = .ok (.getfield 15, 3) := by decide +kernel
theorem dX6_insert_63 : decode cX6_insert 63 = .ok (.iconst 1, 1) := by decide +kernel
theorem dX6_insert_64 : decode cX6_insert 64 = .ok (.iadd, 1) := by decide +kernel
theorem dX6_insert_65 : decode cX6_insert 65 = .ok (.putfield 15, 3) := by decide +kernel
theorem dX6_insert_68 : decode cX6_insert 68 = .ok (.return_, 1) := by decide +kernel
theorem dX6_sortLastTwo_0 : decode cX6_sortLastTwo 0 = .ok (.aload_n 0, 1) := by decide +kernel
theorem dX6_sortLastTwo_1 : decode cX6_sortLastTwo 1 = .ok (.getfield 15, 3) := by decide +kernel
theorem dX6_sortLastTwo_4 : decode cX6_sortLastTwo 4 = .ok (.iconst 2, 1) := by decide +kernel
theorem dX6_sortLastTwo_5 : decode cX6_sortLastTwo 5 = .ok (.if_icmp .lt 74, 3) := by decide +kernel
theorem dX6_sortLastTwo_8 : decode cX6_sortLastTwo 8 = .ok (.aload_n 0, 1) := by decide +kernel
theorem dX6_sortLastTwo_9 : decode cX6_sortLastTwo 9 = .ok (.getfield 9, 3) := by decide +kernel
theorem dX6_sortLastTwo_12 : decode cX6_sortLastTwo 12 = .ok (.aload_n 0, 1) := by decide +kernel
theorem dX6_sortLastTwo_13 : decode cX6_sortLastTwo 13 = .ok (.getfield 15, 3) := by decide +kernel
theorem dX6_sortLastTwo_16 : decode cX6_sortLastTwo 16 = .ok (.iconst 2, 1) := by decide +kernel
theorem dX6_sortLastTwo_17 : decode cX6_sortLastTwo 17 = .ok (.isub, 1) := by decide +kernel
theorem dX6_sortLastTwo_18 : decode cX6_sortLastTwo 18 = .ok (.iaload, 1) := by decide +kernel
theorem dX6_sortLastTwo_19 : decode cX6_sortLastTwo 19 = .ok (.aload_n 0, 1) := by decide +kernel
theorem dX6_sortLastTwo_20 : decode cX6_sortLastTwo 20 = .ok (.getfield 9, 3) := by decide +kernel
theorem dX6_sortLastTwo_23 : decode cX6_sortLastTwo 23 = .ok (.aload_n 0, 1) := by decide +kernel
theorem dX6_sortLastTwo_24 : decode cX6_sortLastTwo 24 = .ok (.getfield 15, 3) := by decide +kernel
theorem dX6_sortLastTwo_27 : decode cX6_sortLastTwo 27 = .ok (.iconst 1, 1) := by decide +kernel
theorem dX6_sortLastTwo_28 : decode cX6_sortLastTwo 28 = .ok (.isub, 1) := by decide +kernel
theorem dX6_sortLastTwo_29 : decode cX6_sortLastTwo 29 = .ok (.iaload, 1) := by decide +kernel
theorem dX6_sortLastTwo_30 : decode cX6_sortLastTwo 30 = .ok (.if_icmp .le 49, 3) := by decide +kernel
theorem dX6_sortLastTwo_33 : decode cX6_sortLastTwo 33 = .ok (.aload_n 0, 1) := by decide +kernel
theorem dX6_sortLastTwo_34 : decode cX6_sortLastTwo 34 = .ok (.getfield 9, 3) := by decide +kernel
theorem dX6_sortLastTwo_37 : decode cX6_sortLastTwo 37 = .ok (.aload_n 0, 1) := by decide +kernel
theorem dX6_sortLastTwo_38 : decode cX6_sortLastTwo 38 = .ok (.getfield 15, 3) := by decide +kernel
theorem dX6_sortLastTwo_41 : decode cX6_sortLastTwo 41 = .ok (.iconst 1, 1) := by decide +kernel
theorem dX6_sortLastTwo_42 : decode cX6_sortLastTwo 42 = .ok (.isub, 1) := by decide +kernel
theorem dX6_sortLastTwo_43 : decode cX6_sortLastTwo 43 = .ok (.iaload, 1) := by decide +kernel
theorem dX6_sortLastTwo_44 : decode cX6_sortLastTwo 44 = .ok (.istore_n 1, 1) := by decide +kernel
theorem dX6_sortLastTwo_45 : decode cX6_sortLastTwo 45 = .ok (.aload_n 0, 1) := by decide +kernel
theorem dX6_sortLastTwo_46 : decode cX6_sortLastTwo 46 = .ok (.getfield 9, 3) := by decide +kernel
theorem dX6_sortLastTwo_49 : decode cX6_sortLastTwo 49 = .ok (.aload_n 0, 1) := by decide +kernel
theorem dX6_sortLastTwo_50 : decode cX6_sortLastTwo 50 = .ok (.getfield 15, 3) := by decide +kernel
theorem dX6_sortLastTwo_53 : decode cX6_sortLastTwo 53 = .ok (.iconst 1, 1) := by decide +kernel
theorem dX6_sortLastTwo_54 : decode cX6_sortLastTwo 54 = .ok (.isub, 1) := by decide +kernel
theorem dX6_sortLastTwo_55 : decode cX6_sortLastTwo 55 = .ok (.aload_n 0, 1) := by decide +kernel
theorem dX6_sortLastTwo_56 : decode cX6_sortLastTwo 56 = .ok (.getfield 9, 3) := by decide +kernel
theorem dX6_sortLastTwo_59 : decode cX6_sortLastTwo 59 = .ok (.aload_n 0, 1) := by decide +kernel
theorem dX6_sortLastTwo_60 : decode cX6_sortLastTwo 60 = .ok (.getfield 15, 3) := by decide +kernel
theorem dX6_sortLastTwo_63 : decode cX6_sortLastTwo 63 = .ok (.iconst 2, 1) := by decide +kernel
theorem dX6_sortLastTwo_64 : decode cX6_sortLastTwo 64 = .ok (.isub, 1) := by decide +kernel
theorem dX6_sortLastTwo_65 : decode cX6_sortLastTwo 65 = .ok (.iaload, 1) := by decide +kernel
theorem dX6_sortLastTwo_66 : decode cX6_sortLastTwo 66 = .ok (.iastore, 1) := by decide +kernel
theorem dX6_sortLastTwo_67 : decode cX6_sortLastTwo 67 = .ok (.aload_n 0, 1) := by decide +kernel
theorem dX6_sortLastTwo_68 : decode cX6_sortLastTwo 68 = .ok (.getfield 9, 3) := by decide +kernel
theorem dX6_sortLastTwo_71 : decode cX6_sortLastTwo 71 = .ok (.aload_n 0, 1) := by decide +kernel
theorem dX6_sortLastTwo_72 : decode cX6_sortLastTwo 72 = .ok (.getfield 15, 3) := by decide +kernel
theorem dX6_sortLastTwo_75 : decode cX6_sortLastTwo 75 = .ok (.iconst 2, 1) := by decide +kernel
theorem dX6_sortLastTwo_76 : decode cX6_sortLastTwo 76 = .ok (.isub, 1) := by decide +kernel
theorem dX6_sortLastTwo_77 : decode cX6_sortLastTwo 77 = .ok (.iload_n 1, 1) := by decide +kernel
theorem dX6_sortLastTwo_78 : decode cX6_sortLastTwo 78 = .ok (.iastore, 1) := by decide +kernel
theorem dX6_sortLastTwo_79 : decode cX6_sortLastTwo 79 = .ok (.return_, 1) := by decide +kernel
theorem dX6_allTrials_0 : decode cX6_allTrials 0 = .ok (.iconst 0, 1) := by decide +kernel
theorem dX6_allTrials_1 : decode cX6_allTrials 1 = .ok (.istore_n 2, 1) := by decide +kernel
theorem dX6_allTrials_2 : decode cX6_allTrials 2 = .ok (.iconst 0, 1) := by decide +kernel
theorem dX6_allTrials_3 : decode cX6_allTrials 3 = .ok (.istore_n 3, 1) := by decide +kernel
theorem dX6_allTrials_4 : decode cX6_allTrials 4 = .ok (.iload_n 3, 1) := by decide +kernel
theorem dX6_allTrials_5 : decode cX6_allTrials 5 = .ok (.aload_n 0, 1) := by decide +kernel
theorem dX6_allTrials_6 : decode cX6_allTrials 6 = .ok (.getfield 15, 3) := by decide +kernel
theorem dX6_allTrials_9 : decode cX6_allTrials 9 = .ok (.if_icmp .ge 36, 3) := by decide +kernel
theorem dX6_allTrials_12 : decode cX6_allTrials 12 = .ok (.iload_n 2, 1) := by decide +kernel
theorem dX6_allTrials_13 : decode cX6_allTrials 13 = .ok (.aload_n 1, 1) := by decide +kernel
theorem dX6_allTrials_14 : decode cX6_allTrials 14 = .ok (.getfield 40, 3) := by decide +kernel
theorem dX6_allTrials_17 : decode cX6_allTrials 17 = .ok (.aload_n 0, 1) := by decide +kernel
theorem dX6_allTrials_18 : decode cX6_allTrials 18 = .ok (.getfield 9, 3) := by decide +kernel
theorem dX6_allTrials_21 : decode cX6_allTrials 21 = .ok (.iload_n 3, 1) := by decide +kernel
theorem dX6_allTrials_22 : decode cX6_allTrials 22 = .ok (.iaload, 1) := by decide +kernel
theorem dX6_allTrials_23 : decode cX6_allTrials 23 = .ok (.iaload, 1) := by decide +kernel
theorem dX6_allTrials_24 : decode cX6_allTrials 24 = .ok (.iload_n 3, 1) := by decide +kernel
theorem dX6_allTrials_25 : decode cX6_allTrials 25 = .ok (.iconst 1, 1) := by decide +kernel
theorem dX6_allTrials_26 : decode cX6_allTrials 26 = .ok (.iadd, 1) := by decide +kernel
theorem dX6_allTrials_27 : decode cX6_allTrials 27 = .ok (.aload_n 0, 1) := by decide +kernel
theorem dX6_allTrials_28 : decode cX6_allTrials 28 = .ok (.getfield 15, 3) := by decide +kernel
theorem dX6_allTrials_31 : decode cX6_allTrials 31 = .ok (.iconst 1, 1) := by decide +kernel
theorem dX6_allTrials_32 : decode cX6_allTrials 32 = .ok (.isub, 1) := by decide +kernel
theorem dX6_allTrials_33 : decode cX6_allTrials 33 = .ok (.invokestatic 43, 3) := by decide +kernel
theorem dX6_allTrials_36 : decode cX6_allTrials 36 = .ok (.imul, 1) := by decide +kernel
theorem dX6_allTrials_37 : decode cX6_allTrials 37 = .ok (.iadd, 1) := by decide +kernel
theorem dX6_allTrials_38 : decode cX6_allTrials 38 = .ok (.istore_n 2, 1) := by decide +kernel
theorem dX6_allTrials_39 : decode cX6_allTrials 39 = .ok (.iinc 3 1, 3) := by decide +kernel
theorem dX6_allTrials_42 : decode cX6_allTrials 42 = .ok (.goto (-38), 3) := by decide +kernel
theorem dX6_allTrials_45 : decode cX6_allTrials 45 = .ok (.iload_n 2, 1) := by decide +kernel
theorem dX6_allTrials_46 : decode cX6_allTrials 46 = .ok (.ireturn, 1) := by decide +kernel
set_option maxRecDepth 20000 in
theorem ggX7_init_X0_init : GoodIn wsX7_init wsX0_init := goodIn_r _ [32, 33, 2, 3, 34, 35, 36, 37, 38, 39, 40, 41, 42, 43, 44, 45, 46, 47, 48, 49, 50, 51, 52, 53, 99, 100, 101, 102, 103, 104, 105, 106, 107, 143, 144, 145, 146] (by decide +kernel) (by decide +kernel)
set_option maxRecDepth 20000 in
theorem gX7_init_X0_init : GoodIn wsX7_init (wsX0_init) := ggX7_init_X0_init
set_option maxRecDepth 20000 in
theorem ggX7_init_X5_init : GoodIn wsX7_init wsX5_init := goodIn_r _ [55, 56, 2, 3, 57, 58, 59, 60, 34, 61, 62, 63, 64, 65, 66, 116, 117, 118, 119, 120, 121, 122, 123, 124] (by decide +kernel) (by decide +kernel)
set_option maxRecDepth 20000 in
theorem gX7_init_X5_init_n25 : GoodIn wsX7_init (wsX5_init) := ggX7_init_X5_init
set_option maxRecDepth 20000 in
theorem ggX7_init_X2_init : GoodIn wsX7_init wsX2_init := goodIn_r _ [68, 69, 2, 3, 70, 71, 34, 72, 73, 74, 75, 76, 77, 78, 79, 125, 126, 127, 128, 129, 130, 131, 132, 133] (by decide +kernel) (by decide +kernel)
set_option maxRecDepth 20000 in
theorem gX7_init_X2_init_n32 : GoodIn wsX7_init (wsX2_init) := ggX7_init_X2_init
set_option maxRecDepth 20000 in
theorem ggX7_init_X6_init : GoodIn wsX7_init wsX6_init := goodIn_r _ [81, 82, 2, 3, 34, 83, 84, 134, 135] (by decide +kernel) (by decide +kernel)
set_option maxRecDepth 20000 in
theorem gX7_init_X6_init_n39 : GoodIn wsX7_init (wsX6_init) := ggX7_init_X6_init
set_option maxRecDepth 20000 in
theorem ggX7_init_X3_init : GoodIn wsX7_init wsX3_init := goodIn_r _ [86, 87, 2, 3, 34, 88, 89, 90, 91, 136, 137, 138, 139] (by decide +kernel) (by decide +kernel)
set_option maxRecDepth 20000 in
theorem gX7_init_X3_init_n46 : GoodIn wsX7_init (wsX3_init) := ggX7_init_X3_init
set_option maxRecDepth 20000 in
theorem ggX7_init_X4_init : GoodIn wsX7_init wsX4_init := goodIn_r _ [93, 94, 2, 3, 95, 96, 97, 98, 140, 141, 142] (by decide +kernel) (by decide +kernel)
set_option maxRecDepth 20000 in
theorem gX7_init_X4_init_n57 : GoodIn wsX7_init (wsX4_init) := ggX7_init_X4_init
theorem dX7_init_0 : decode cX7_init 0 = .ok (.aload_n 0, 1) := by decide +kernel
theorem dX7_init_1 : decode cX7_init 1 = .ok (.invokespecial 3, 3) := by decide +kernel
theorem dX7_init_4 : decode cX7_init 4 = .ok (.aload_n 0, 1) := by decide +kernel
theorem dX7_init_5 : decode cX7_init 5 = .ok (.new 9, 3) := by decide +kernel
theorem dX7_init_8 : decode cX7_init 8 = .ok (.dup, 1) := by decide +kernel
theorem dX7_init_9 : decode cX7_init 9 = .ok (.invokespecial 11, 3) := by decide +kernel
theorem dX7_init_12 : decode cX7_init 12 = .ok (.putfield 12, 3) := by decide +kernel
theorem dX7_init_15 : decode cX7_init 15 = .ok (.aload_n 0, 1) := by decide +kernel
theorem dX7_init_16 : decode cX7_init 16 = .ok (.new 9, 3) := by decide +kernel
theorem dX7_init_19 : decode cX7_init 19 = .ok (.dup, 1) := by decide +kernel
theorem dX7_init_20 : decode cX7_init 20 = .ok (.invokespecial 11, 3) := by decide +kernel
theorem dX7_init_23 : decode cX7_init 23 = .ok (.putfield 16, 3) := by decide +kernel
theorem dX7_init_26 : decode cX7_init 26 = .ok (.aload_n 0, 1) := by decide +kernel
theorem dX7_init_27 : decode cX7_init 27 = .ok (.iconst 0, 1) := by decide +kernel
theorem dX7_init_28 : decode cX7_init 28 = .ok (.putfield 19, 3) := by decide +kernel
theorem dX7_init_31 : decode cX7_init 31 = .ok (.aload_n 0, 1) := by decide +kernel
theorem dX7_init_32 : decode cX7_init 32 = .ok (.new 23, 3) := by decide +kernel
theorem dX7_init_35 : decode cX7_init 35 = .ok (.dup, 1) := by decide +kernel
theorem dX7_init_36 : decode cX7_init 36 = .ok (.invokespecial 25, 3) := by decide +kernel
theorem dX7_init_39 : decode cX7_init 39 = .ok (.putfield 26, 3) := by decide +kernel
theorem dX7_init_42 : decode cX7_init 42 = .ok (.aload_n 0, 1) := by decide +kernel
theorem dX7_init_43 : decode cX7_init 43 = .ok (.new 30, 3) := by decide +kernel
theorem dX7_init_46 : decode cX7_init 46 = .ok (.dup, 1) := by decide +kernel
theorem dX7_init_47 : decode cX7_init 47 = .ok (.invokespecial 32, 3) := by decide +kernel
theorem dX7_init_50 : decode cX7_init 50 = .ok (.putfield 33, 3) := by decide +kernel
theorem dX7_init_53 : decode cX7_init 53 = .ok (.aload_n 0, 1) := by decide +kernel
theorem dX7_init_54 : decode cX7_init 54 = .ok (.new 37, 3) := by decide +kernel
theorem dX7_init_57 : decode cX7_init 57 = .ok (.dup, 1) := by decide +kernel
theorem dX7_init_58 : decode cX7_init 58 = .ok (.invokespecial 39, 3) := by decide +kernel
theorem dX7_init_61 : decode cX7_init 61 = .ok (.putfield 40, 3) := by decide +kernel
theorem dX7_init_64 : decode cX7_init 64 = .ok (.aload_n 0, 1) := by decide +kernel
theorem dX7_init_65 : decode cX7_init 65 = .ok (.new 44, 3) := by decide +kernel
theorem dX7_init_68 : decode cX7_init 68 = .ok (.dup, 1) := by decide +kernel
theorem dX7_init_69 : decode cX7_init 69 = .ok (.invokespecial 46, 3) := by decide +kernel
theorem dX7_init_72 : decode cX7_init 72 = .ok (.putfield 47, 3) := by decide +kernel
theorem dX7_init_75 : decode cX7_init 75 = .ok (.aload_n 0, 1) := by decide +kernel
theorem dX7_init_76 : decode cX7_init 76 = .ok (.iconst 4, 1) := by decide +kernel
theorem dX7_init_77 : decode cX7_init 77 = .ok (.anewarray 51, 3) := by decide +kernel
theorem dX7_init_80 : decode cX7_init 80 = .ok (.putfield 53, 3) := by decide +kernel
theorem dX7_init_83 : decode cX7_init 83 = .ok (.iconst 0, 1) := by decide +kernel
theorem dX7_init_84 : decode cX7_init 84 = .ok (.istore_n 1, 1) := by decide +kernel
theorem dX7_init_85 : decode cX7_init 85 = .ok (.iload_n 1, 1) := by decide +kernel
theorem dX7_init_86 : decode cX7_init 86 = .ok (.aload_n 0, 1) := by decide +kernel
theorem dX7_init_87 : decode cX7_init 87 = .ok (.getfield 53, 3) := by decide +kernel
theorem dX7_init_90 : decode cX7_init 90 = .ok (.arraylength, 1) := by decide +kernel
theorem dX7_init_91 : decode cX7_init 91 = .ok (.if_icmp .ge 22, 3) := by decide +kernel
theorem dX7_init_94 : decode cX7_init 94 = .ok (.aload_n 0, 1) := by decide +kernel
theorem dX7_init_95 : decode cX7_init 95 = .ok (.getfield 53, 3) := by decide +kernel
theorem dX7_init_98 : decode cX7_init 98 = .ok (.iload_n 1, 1) := by decide +kernel
theorem dX7_init_99 : decode cX7_init 99 = .ok (.new 51, 3) := by decide +kernel
theorem dX7_init_102 : decode cX7_init 102 = .ok (.dup, 1) := by decide +kernel
theorem dX7_init_103 : decode cX7_init 103 = .ok (.invokespecial 57, 3) := by decide +kernel
theorem dX7_init_106 : decode cX7_init 106 = .ok (.aastore, 1) := by decide +kernel
theorem dX7_init_107 : decode cX7_init 107 = .ok (.iinc 1 1, 3) := by decide +kernel
theorem dX7_init_110 : decode cX7_init 110 = .ok (.goto (-25), 3) := by decide +kernel
theorem dX7_init_113 : decode cX7_init 113 = .ok (.return_, 1) := by decide +kernel
set_option maxRecDepth 20000 in
theorem ggX7_cow_X0_addCow : GoodIn wsX7_cow wsX0_addCow := goodIn_r _ [10, 11, 12, 25, 26, 27, 28, 29, 30, 31, 32, 33] (by decide +kernel) (by decide +kernel)
set_option maxRecDepth 20000 in
theorem gX7_cow_X0_addCow : GoodIn wsX7_cow (wsV RX7 62 RX0 yX0_addCow wsX0_addCow) := goodIn_app (goodIn_of _ (by decide +kernel)) ggX7_cow_X0_addCow
set_option maxRecDepth 20000 in
theorem ggX7_cow_X0_allCows : GoodIn wsX7_cow wsX0_allCows := goodIn_r _ [16, 12, 25, 26, 27, 28, 29, 30, 31, 32, 33] (by decide +kernel) (by decide +kernel)
set_option maxRecDepth 20000 in
theorem gX7_cow_X0_allCows : GoodIn wsX7_cow (wsV RX7 70 RX0 yX0_allCows wsX0_allCows) := goodIn_app (goodIn_of _ (by decide +kernel)) ggX7_cow_X0_allCows
theorem dX7_cow_0 : decode cX7_cow 0 = .ok (.iload_n 1, 1) := by decide +kernel
theorem dX7_cow_1 : decode cX7_cow 1 = .ok (.iconst 1, 1) := by decide +kernel
theorem dX7_cow_2 : decode cX7_cow 2 = .ok (.if_icmp .lt 9, 3) := by decide +kernel
theorem dX7_cow_5 : decode cX7_cow 5 = .ok (.iload_n 1, 1) := by decide +kernel
theorem dX7_cow_6 : decode cX7_cow 6 = .ok (.bipush 9, 2) := by decide +kernel
theorem dX7_cow_8 : decode cX7_cow 8 = .ok (.if_icmp .le 5, 3) := by decide +kernel
theorem dX7_cow_11 : decode cX7_cow 11 = .ok (.iconst (-1), 1) := by decide +kernel
theorem dX7_cow_12 : decode cX7_cow 12 = .ok (.ireturn, 1) := by decide +kernel
theorem dX7_cow_13 : decode cX7_cow 13 = .ok (.aload_n 0, 1) := by decide +kernel
theorem dX7_cow_14 : decode cX7_cow 14 = .ok (.getfield 12, 3) := by decide +kernel
theorem dX7_cow_17 : decode cX7_cow 17 = .ok (.getfield 58, 3) := by decide +kernel
theorem dX7_cow_20 : decode cX7_cow 20 = .ok (.bipush 8, 2) := by decide +kernel
theorem dX7_cow_22 : decode cX7_cow 22 = .ok (.if_icmp .lt 6, 3) := by decide +kernel
theorem dX7_cow_25 : decode cX7_cow 25 = .ok (.bipush (-3), 2) := by decide +kernel
theorem dX7_cow_27 : decode cX7_cow 27 = .ok (.ireturn, 1) := by decide +kernel
theorem dX7_cow_28 : decode cX7_cow 28 = .ok (.aload_n 0, 1) := by decide +kernel
theorem dX7_cow_29 : decode cX7_cow 29 = .ok (.getfield 12, 3) := by decide +kernel
theorem dX7_cow_32 : decode cX7_cow 32 = .ok (.iload_n 1, 1) := by decide +kernel
theorem dX7_cow_33 : decode cX7_cow 33 = .ok (.invokevirtual 62, 3) := by decide +kernel
theorem dX7_cow_36 : decode cX7_cow 36 = .ok (.aload_n 0, 1) := by decide +kernel
theorem dX7_cow_37 : decode cX7_cow 37 = .ok (.getfield 12, 3) := by decide +kernel
theorem dX7_cow_40 : decode cX7_cow 40 = .ok (.getfield 66, 3) := by decide +kernel
theorem dX7_cow_43 : decode cX7_cow 43 = .ok (.aload_n 0, 1) := by decide +kernel
theorem dX7_cow_44 : decode cX7_cow 44 = .ok (.getfield 12, 3) := by decide +kernel
theorem dX7_cow_47 : decode cX7_cow 47 = .ok (.invokevirtual 70, 3) := by decide +kernel
theorem dX7_cow_50 : decode cX7_cow 50 = .ok (.putfield 74, 3) := by decide +kernel
theorem dX7_cow_53 : decode cX7_cow 53 = .ok (.aload_n 0, 1) := by decide +kernel
theorem dX7_cow_54 : decode cX7_cow 54 = .ok (.getfield 12, 3) := by decide +kernel
theorem dX7_cow_57 : decode cX7_cow 57 = .ok (.iconst 0, 1) := by decide +kernel
theorem dX7_cow_58 : decode cX7_cow 58 = .ok (.putfield 79, 3) := by decide +kernel
theorem dX7_cow_61 : decode cX7_cow 61 = .ok (.aload_n 0, 1) := by decide +kernel
theorem dX7_cow_62 : decode cX7_cow 62 = .ok (.getfield 12, 3) := by decide +kernel
theorem dX7_cow_65 : decode cX7_cow 65 = .ok (.getfield 58, 3) := by decide +kernel
theorem dX7_cow_68 : decode cX7_cow 68 = .ok (.iconst 1, 1) := by decide +kernel
theorem dX7_cow_69 : decode cX7_cow 69 = .ok (.isub, 1) := by decide +kernel
theorem dX7_cow_70 : decode cX7_cow 70 = .ok (.ireturn, 1) := by decide +kernel
set_option maxRecDepth 20000 in
theorem ggX7_taster_X0_addTaster : GoodIn wsX7_taster wsX0_addTaster := goodIn_r _ [8, 9, 10, 11, 20, 21, 22, 23, 24, 25, 26, 27, 28] (by decide +kernel) (by decide +kernel)
set_option maxRecDepth 20000 in
theorem gX7_taster_X0_addTaster : GoodIn wsX7_taster (wsV RX7 85 RX0 yX0_addTaster wsX0_addTaster) := goodIn_app (goodIn_of _ (by decide +kernel)) ggX7_taster_X0_addTaster
theorem dX7_taster_0 : decode cX7_taster 0 = .ok (.iload_n 1, 1) := by decide +kernel
theorem dX7_taster_1 : decode cX7_taster 1 = .ok (.ifCond .lt 19, 3) := by decide +kernel
theorem dX7_taster_4 : decode cX7_taster 4 = .ok (.iload_n 1, 1) := by decide +kernel
theorem dX7_taster_5 : decode cX7_taster 5 = .ok (.iconst 5, 1) := by decide +kernel
theorem dX7_taster_6 : decode cX7_taster 6 = .ok (.if_icmp .ge 14, 3) := by decide +kernel
theorem dX7_taster_9 : decode cX7_taster 9 = .ok (.iload_n 2, 1) := by decide +kernel
theorem dX7_taster_10 : decode cX7_taster 10 = .ok (.iconst 1, 1) := by decide +kernel
theorem dX7_taster_11 : decode cX7_taster 11 = .ok (.if_icmp .lt 9, 3) := by decide +kernel
theorem dX7_taster_14 : decode cX7_taster 14 = .ok (.iload_n 2, 1) := by decide +kernel
theorem dX7_taster_15 : decode cX7_taster 15 = .ok (.bipush 9, 2) := by decide +kernel
theorem dX7_taster_17 : decode cX7_taster 17 = .ok (.if_icmp .le 5, 3) := by decide +kernel
theorem dX7_taster_20 : decode cX7_taster 20 = .ok (.iconst (-1), 1) := by decide +kernel
theorem dX7_taster_21 : decode cX7_taster 21 = .ok (.ireturn, 1) := by decide +kernel
theorem dX7_taster_22 : decode cX7_taster 22 = .ok (.aload_n 0, 1) := by decide +kernel
theorem dX7_taster_23 : decode cX7_taster 23 = .ok (.getfield 12, 3) := by decide +kernel
theorem dX7_taster_26 : decode cX7_taster 26 = .ok (.getfield 82, 3) := by decide +kernel
theorem dX7_taster_29 : decode cX7_taster 29 = .ok (.iconst 4, 1) := by decide +kernel
theorem dX7_taster_30 : decode cX7_taster 30 = .ok (.if_icmp .lt 6, 3) := by decide +kernel
theorem dX7_taster_33 : decode cX7_taster 33 = .ok (.bipush (-3), 2) := by decide +kernel
theorem dX7_taster_35 : decode cX7_taster 35 = .ok (.ireturn, 1) := by decide +kernel
theorem dX7_taster_36 : decode cX7_taster 36 = .ok (.aload_n 0, 1) := by decide +kernel
theorem dX7_taster_37 : decode cX7_taster 37 = .ok (.getfield 12, 3) := by decide +kernel
theorem dX7_taster_40 : decode cX7_taster 40 = .ok (.iload_n 1, 1) := by decide +kernel
theorem dX7_taster_41 : decode cX7_taster 41 = .ok (.iload_n 2, 1) := by decide +kernel
theorem dX7_taster_42 : decode cX7_taster 42 = .ok (.invokevirtual 85, 3) := by decide +kernel
theorem dX7_taster_45 : decode cX7_taster 45 = .ok (.aload_n 0, 1) := by decide +kernel
theorem dX7_taster_46 : decode cX7_taster 46 = .ok (.getfield 12, 3) := by decide +kernel
theorem dX7_taster_49 : decode cX7_taster 49 = .ok (.iconst 0, 1) := by decide +kernel
theorem dX7_taster_50 : decode cX7_taster 50 = .ok (.putfield 79, 3) := by decide +kernel
theorem dX7_taster_53 : decode cX7_taster 53 = .ok (.aload_n 0, 1) := by decide +kernel
theorem dX7_taster_54 : decode cX7_taster 54 = .ok (.getfield 12, 3) := by decide +kernel
theorem dX7_taster_57 : decode cX7_taster 57 = .ok (.getfield 82, 3) := by decide +kernel
theorem dX7_taster_60 : decode cX7_taster 60 = .ok (.iconst 1, 1) := by decide +kernel
theorem dX7_taster_61 : decode cX7_taster 61 = .ok (.isub, 1) := by decide +kernel
theorem dX7_taster_62 : decode cX7_taster 62 = .ok (.ireturn, 1) := by decide +kernel
set_option maxRecDepth 20000 in
theorem ggX7_milk_X7_isCow : GoodIn wsX7_milk wsX7_isCow := goodIn_r _ [7, 1, 8, 9, 10, 11, 12, 13, 14, 15, 16, 17, 18, 19, 20, 21, 22, 23, 24, 25] (by decide +kernel) (by decide +kernel)
set_option maxRecDepth 20000 in
theorem gX7_milk_X7_isCow : GoodIn wsX7_milk (wsV RX7 89 RX7 yX7_isCow wsX7_isCow) := goodIn_app (goodIn_of _ (by decide +kernel)) ggX7_milk_X7_isCow
theorem dX7_milk_0 : decode cX7_milk 0 = .ok (.aload_n 0, 1) := by decide +kernel
theorem dX7_milk_1 : decode cX7_milk 1 = .ok (.iload_n 1, 1) := by decide +kernel
theorem dX7_milk_2 : decode cX7_milk 2 = .ok (.invokevirtual 89, 3) := by decide +kernel
theorem dX7_milk_5 : decode cX7_milk 5 = .ok (.ifCond .eq 14, 3) := by decide +kernel
theorem dX7_milk_8 : decode cX7_milk 8 = .ok (.iload_n 2, 1) := by decide +kernel
theorem dX7_milk_9 : decode cX7_milk 9 = .ok (.iconst 1, 1) := by decide +kernel
theorem dX7_milk_10 : decode cX7_milk 10 = .ok (.if_icmp .lt 9, 3) := by decide +kernel
theorem dX7_milk_13 : decode cX7_milk 13 = .ok (.iload_n 2, 1) := by decide +kernel
theorem dX7_milk_14 : decode cX7_milk 14 = .ok (.bipush 9, 2) := by decide +kernel
theorem dX7_milk_16 : decode cX7_milk 16 = .ok (.if_icmp .le 5, 3) := by decide +kernel
theorem dX7_milk_19 : decode cX7_milk 19 = .ok (.iconst (-1), 1) := by decide +kernel
theorem dX7_milk_20 : decode cX7_milk 20 = .ok (.ireturn, 1) := by decide +kernel
theorem dX7_milk_21 : decode cX7_milk 21 = .ok (.aload_n 0, 1) := by decide +kernel
theorem dX7_milk_22 : decode cX7_milk 22 = .ok (.getfield 12, 3) := by decide +kernel
theorem dX7_milk_25 : decode cX7_milk 25 = .ok (.getfield 93, 3) := by decide +kernel
theorem dX7_milk_28 : decode cX7_milk 28 = .ok (.iload_n 1, 1) := by decide +kernel
theorem dX7_milk_29 : decode cX7_milk 29 = .ok (.iaload, 1) := by decide +kernel
theorem dX7_milk_30 : decode cX7_milk 30 = .ok (.istore_n 3, 1) := by decide +kernel
theorem dX7_milk_31 : decode cX7_milk 31 = .ok (.aload_n 0, 1) := by decide +kernel
theorem dX7_milk_32 : decode cX7_milk 32 = .ok (.getfield 12, 3) := by decide +kernel
theorem dX7_milk_35 : decode cX7_milk 35 = .ok (.getfield 93, 3) := by decide +kernel
theorem dX7_milk_38 : decode cX7_milk 38 = .ok (.iload_n 1, 1) := by decide +kernel
theorem dX7_milk_39 : decode cX7_milk 39 = .ok (.iload_n 2, 1) := by decide +kernel
theorem dX7_milk_40 : decode cX7_milk 40 = .ok (.iastore, 1) := by decide +kernel
theorem dX7_milk_41 : decode cX7_milk 41 = .ok (.iload_n 3, 1) := by decide +kernel
theorem dX7_milk_42 : decode cX7_milk 42 = .ok (.ireturn, 1) := by decide +kernel
set_option maxRecDepth 20000 in
theorem ggX7_at_X7_isTaster : GoodIn wsX7_at wsX7_isTaster := goodIn_r _ [8, 1, 9, 13, 14, 15, 16, 17, 18, 19, 20, 21, 22, 23, 24, 25, 26, 27, 28, 29] (by decide +kernel) (by decide +kernel)
set_option maxRecDepth 20000 in
theorem gX7_at_X7_isTaster : GoodIn wsX7_at (wsV RX7 97 RX7 yX7_isTaster wsX7_isTaster) := goodIn_app (goodIn_of _ (by decide +kernel)) ggX7_at_X7_isTaster
set_option maxRecDepth 20000 in
theorem ggX7_at_X7_isEither : GoodIn wsX7_at wsX7_isEither := goodIn_r _ [12] (by decide +kernel) (by decide +kernel)
set_option maxRecDepth 20000 in
theorem gX7_at_X7_isEither : GoodIn wsX7_at (va_wsS RX7 100 yX7_isEither wsX7_isEither) := goodIn_app (goodIn_of _ (by decide +kernel)) ggX7_at_X7_isEither
theorem dX7_at_0 : decode cX7_at 0 = .ok (.aload_n 0, 1) := by decide +kernel
theorem dX7_at_1 : decode cX7_at 1 = .ok (.iload_n 1, 1) := by decide +kernel
theorem dX7_at_2 : decode cX7_at 2 = .ok (.invokevirtual 97, 3) := by decide +kernel
theorem dX7_at_5 : decode cX7_at 5 = .ok (.ifCond .eq 10, 3) := by decide +kernel
theorem dX7_at_8 : decode cX7_at 8 = .ok (.iload_n 2, 1) := by decide +kernel
theorem dX7_at_9 : decode cX7_at 9 = .ok (.invokestatic 100, 3) := by decide +kernel
theorem dX7_at_12 : decode cX7_at 12 = .ok (.ifCond .ne 5, 3) := by decide +kernel
theorem dX7_at_15 : decode cX7_at 15 = .ok (.iconst (-1), 1) := by decide +kernel
theorem dX7_at_16 : decode cX7_at 16 = .ok (.ireturn, 1) := by decide +kernel
theorem dX7_at_17 : decode cX7_at 17 = .ok (.iload_n 2, 1) := by decide +kernel
theorem dX7_at_18 : decode cX7_at 18 = .ok (.ifCond .ne 15, 3) := by decide +kernel
theorem dX7_at_21 : decode cX7_at 21 = .ok (.aload_n 0, 1) := by decide +kernel
theorem dX7_at_22 : decode cX7_at 22 = .ok (.getfield 12, 3) := by decide +kernel
theorem dX7_at_25 : decode cX7_at 25 = .ok (.getfield 103, 3) := by decide +kernel
theorem dX7_at_28 : decode cX7_at 28 = .ok (.iload_n 1, 1) := by decide +kernel
theorem dX7_at_29 : decode cX7_at 29 = .ok (.iaload, 1) := by decide +kernel
theorem dX7_at_30 : decode cX7_at 30 = .ok (.goto 12, 3) := by decide +kernel
theorem dX7_at_33 : decode cX7_at 33 = .ok (.aload_n 0, 1) := by decide +kernel
theorem dX7_at_34 : decode cX7_at 34 = .ok (.getfield 12, 3) := by decide +kernel
theorem dX7_at_37 : decode cX7_at 37 = .ok (.getfield 106, 3) := by decide +kernel
theorem dX7_at_40 : decode cX7_at 40 = .ok (.iload_n 1, 1) := by decide +kernel
theorem dX7_at_41 : decode cX7_at 41 = .ok (.iaload, 1) := by decide +kernel
theorem dX7_at_42 : decode cX7_at 42 = .ok (.ireturn, 1) := by decide +kernel
set_option maxRecDepth 20000 in
theorem ggX7_of_X7_isCow : GoodIn wsX7_of wsX7_isCow := goodIn_r _ [7, 1, 8, 9, 10, 11, 12, 13, 14, 15, 16, 17, 18, 19, 20, 21, 22, 23, 24, 25] (by decide +kernel) (by decide +kernel)
set_option maxRecDepth 20000 in
theorem gX7_of_X7_isCow : GoodIn wsX7_of (wsV RX7 89 RX7 yX7_isCow wsX7_isCow) := goodIn_app (goodIn_of _ (by decide +kernel)) ggX7_of_X7_isCow
theorem dX7_of_0 : decode cX7_of 0 = .ok (.aload_n 0, 1) := by decide +kernel
theorem dX7_of_1 : decode cX7_of 1 = .ok (.iload_n 1, 1) := by decide +kernel
theorem dX7_of_2 : decode cX7_of 2 = .ok (.invokevirtual 89, 3) := by decide +kernel
theorem dX7_of_5 : decode cX7_of 5 = .ok (.ifCond .eq 15, 3) := by decide +kernel
theorem dX7_of_8 : decode cX7_of 8 = .ok (.aload_n 0, 1) := by decide +kernel
theorem dX7_of_9 : decode cX7_of 9 = .ok (.getfield 12, 3) := by decide +kernel
theorem dX7_of_12 : decode cX7_of 12 = .ok (.getfield 93, 3) := by decide +kernel
theorem dX7_of_15 : decode cX7_of 15 = .ok (.iload_n 1, 1) := by decide +kernel
theorem dX7_of_16 : decode cX7_of 16 = .ok (.iaload, 1) := by decide +kernel
theorem dX7_of_17 : decode cX7_of 17 = .ok (.goto 4, 3) := by decide +kernel
theorem dX7_of_20 : decode cX7_of 20 = .ok (.iconst (-1), 1) := by decide +kernel
theorem dX7_of_21 : decode cX7_of 21 = .ok (.ireturn, 1) := by decide +kernel
set_option maxRecDepth 20000 in
theorem ggX7_notices_X7_isTaster : GoodIn wsX7_notices wsX7_isTaster := goodIn_r _ [6, 1, 7, 56, 57, 58, 59, 60, 61, 62, 63, 64, 65, 66, 67, 68, 69, 70, 71, 72] (by decide +kernel) (by decide +kernel)
set_option maxRecDepth 20000 in
theorem gX7_notices_X7_isTaster : GoodIn wsX7_notices (wsV RX7 97 RX7 yX7_isTaster wsX7_isTaster) := goodIn_app (goodIn_of _ (by decide +kernel)) ggX7_notices_X7_isTaster
set_option maxRecDepth 20000 in
theorem ggX7_notices_X7_isMix : GoodIn wsX7_notices wsX7_isMix := goodIn_r _ [11, 1, 12, 13, 14, 15, 16, 17, 56, 57, 58, 59, 60, 61, 62, 63, 64, 65, 66, 67, 68, 69, 70, 71, 72] (by decide +kernel) (by decide +kernel)
set_option maxRecDepth 20000 in
theorem gX7_notices_X7_isMix : GoodIn wsX7_notices (wsV RX7 109 RX7 yX7_isMix wsX7_isMix) := goodIn_app (goodIn_of _ (by decide +kernel)) ggX7_notices_X7_isMix
set_option maxRecDepth 20000 in
theorem ggX7_notices_X7_isCow : GoodIn wsX7_notices wsX7_isCow := goodIn_r _ [21, 1, 22, 56, 57, 58, 59, 60, 61, 62, 63, 64, 65, 66, 67, 68, 69, 70, 71, 72] (by decide +kernel) (by decide +kernel)
set_option maxRecDepth 20000 in
theorem gX7_notices_X7_isCow : GoodIn wsX7_notices (wsV RX7 89 RX7 yX7_isCow wsX7_isCow) := goodIn_app (goodIn_of _ (by decide +kernel)) ggX7_notices_X7_isCow
set_option maxRecDepth 20000 in
theorem ggX7_notices_X0_noticedBy : GoodIn wsX7_notices wsX0_noticedBy := goodIn_r _ [26, 27, 28, 29, 30, 31, 15, 32, 33, 34, 35, 36, 37, 38, 17, 39, 40, 41, 42, 43, 44, 45, 46, 47, 48, 49, 50, 51, 52, 53, 54, 55, 13, 14, 16, 64, 65, 66, 67, 68, 69, 70, 71, 72, 73, 74, 75, 76] (by decide +kernel) (by decide +kernel)
set_option maxRecDepth 20000 in
theorem gX7_notices_X0_noticedBy : GoodIn wsX7_notices (wsV RX7 112 RX0 yX0_noticedBy wsX0_noticedBy) := goodIn_app (goodIn_of _ (by decide +kernel)) ggX7_notices_X0_noticedBy
theorem dX7_notices_0 : decode cX7_notices 0 = .ok (.aload_n 0, 1) := by decide +kernel
theorem dX7_notices_1 : decode cX7_notices 1 = .ok (.iload_n 1, 1) := by decide +kernel
theorem dX7_notices_2 : decode cX7_notices 2 = .ok (.invokevirtual 97, 3) := by decide +kernel
theorem dX7_notices_5 : decode cX7_notices 5 = .ok (.ifCond .eq 19, 3) := by decide +kernel
theorem dX7_notices_8 : decode cX7_notices 8 = .ok (.aload_n 0, 1) := by decide +kernel
theorem dX7_notices_9 : decode cX7_notices 9 = .ok (.iload_n 2, 1) := by decide +kernel
theorem dX7_notices_10 : decode cX7_notices 10 = .ok (.invokevirtual 109, 3) := by decide +kernel
theorem dX7_notices_13 : decode cX7_notices 13 = .ok (.ifCond .eq 11, 3) := by decide +kernel
theorem dX7_notices_16 : decode cX7_notices 16 = .ok (.aload_n 0, 1) := by decide +kernel
theorem dX7_notices_17 : decode cX7_notices 17 = .ok (.iload_n 3, 1) := by decide +kernel
theorem dX7_notices_18 : decode cX7_notices 18 = .ok (.invokevirtual 89, 3) := by decide +kernel
theorem dX7_notices_21 : decode cX7_notices 21 = .ok (.ifCond .ne 5, 3) := by decide +kernel
theorem dX7_notices_24 : decode cX7_notices 24 = .ok (.iconst (-1), 1) := by decide +kernel
theorem dX7_notices_25 : decode cX7_notices 25 = .ok (.ireturn, 1) := by decide +kernel
theorem dX7_notices_26 : decode cX7_notices 26 = .ok (.aload_n 0, 1) := by decide +kernel
theorem dX7_notices_27 : decode cX7_notices 27 = .ok (.getfield 12, 3) := by decide +kernel
theorem dX7_notices_30 : decode cX7_notices 30 = .ok (.iload_n 1, 1) := by decide +kernel
theorem dX7_notices_31 : decode cX7_notices 31 = .ok (.iload_n 2, 1) := by decide +kernel
theorem dX7_notices_32 : decode cX7_notices 32 = .ok (.invokevirtual 112, 3) := by decide +kernel
theorem dX7_notices_35 : decode cX7_notices 35 = .ok (.iload_n 3, 1) := by decide +kernel
theorem dX7_notices_36 : decode cX7_notices 36 = .ok (.ishr, 1) := by decide +kernel
theorem dX7_notices_37 : decode cX7_notices 37 = .ok (.iconst 1, 1) := by decide +kernel
theorem dX7_notices_38 : decode cX7_notices 38 = .ok (.iand, 1) := by decide +kernel
theorem dX7_notices_39 : decode cX7_notices 39 = .ok (.ireturn, 1) := by decide +kernel
set_option maxRecDepth 20000 in
theorem ggX7_type_X5_put : GoodIn wsX7_type wsX5_put := goodIn_r _ [7, 8, 9, 18, 19, 20, 21, 22, 23, 24, 25, 26] (by decide +kernel) (by decide +kernel)
set_option maxRecDepth 20000 in
theorem gX7_type_X5_put : GoodIn wsX7_type (wsV RX7 119 RX5 yX5_put wsX5_put) := goodIn_app (goodIn_of _ (by decide +kernel)) ggX7_type_X5_put
theorem dX7_type_0 : decode cX7_type 0 = .ok (.iload_n 1, 1) := by decide +kernel
theorem dX7_type_1 : decode cX7_type 1 = .ok (.bipush 32, 2) := by decide +kernel
theorem dX7_type_3 : decode cX7_type 3 = .ok (.if_icmp .lt 9, 3) := by decide +kernel
theorem dX7_type_6 : decode cX7_type 6 = .ok (.iload_n 1, 1) := by decide +kernel
theorem dX7_type_7 : decode cX7_type 7 = .ok (.bipush 126, 2) := by decide +kernel
theorem dX7_type_9 : decode cX7_type 9 = .ok (.if_icmp .le 5, 3) := by decide +kernel
theorem dX7_type_12 : decode cX7_type 12 = .ok (.iconst (-1), 1) := by decide +kernel
theorem dX7_type_13 : decode cX7_type 13 = .ok (.ireturn, 1) := by decide +kernel
theorem dX7_type_14 : decode cX7_type 14 = .ok (.aload_n 0, 1) := by decide +kernel
theorem dX7_type_15 : decode cX7_type 15 = .ok (.getfield 26, 3) := by decide +kernel
theorem dX7_type_18 : decode cX7_type 18 = .ok (.getfield 116, 3) := by decide +kernel
theorem dX7_type_21 : decode cX7_type 21 = .ok (.bipush 40, 2) := by decide +kernel
theorem dX7_type_23 : decode cX7_type 23 = .ok (.if_icmp .lt 6, 3) := by decide +kernel
theorem dX7_type_26 : decode cX7_type 26 = .ok (.bipush (-3), 2) := by decide +kernel
theorem dX7_type_28 : decode cX7_type 28 = .ok (.ireturn, 1) := by decide +kernel
theorem dX7_type_29 : decode cX7_type 29 = .ok (.aload_n 0, 1) := by decide +kernel
theorem dX7_type_30 : decode cX7_type 30 = .ok (.getfield 26, 3) := by decide +kernel
theorem dX7_type_33 : decode cX7_type 33 = .ok (.iload_n 1, 1) := by decide +kernel
theorem dX7_type_34 : decode cX7_type 34 = .ok (.i2c, 1) := by decide +kernel
theorem dX7_type_35 : decode cX7_type 35 = .ok (.invokevirtual 119, 3) := by decide +kernel
theorem dX7_type_38 : decode cX7_type 38 = .ok (.aload_n 0, 1) := by decide +kernel
theorem dX7_type_39 : decode cX7_type 39 = .ok (.getfield 26, 3) := by decide +kernel
theorem dX7_type_42 : decode cX7_type 42 = .ok (.getfield 116, 3) := by decide +kernel
theorem dX7_type_45 : decode cX7_type 45 = .ok (.ireturn, 1) := by decide +kernel
set_option maxRecDepth 20000 in
theorem ggX7_herd_X5_readHerd : GoodIn wsX7_herd wsX5_readHerd := goodIn_r _ [10, 11, 12, 13, 14, 15, 16, 17, 9, 18, 19, 20, 21, 22, 23, 24, 25, 26, 27, 28, 29, 30, 31, 32, 33, 34, 35, 36, 37, 38, 39, 40, 41, 42, 43, 44, 45, 46, 47, 48, 49, 50, 51, 52, 53, 54, 55, 56, 57, 58, 59, 60, 61, 62, 63, 64, 65, 66, 67, 68, 69, 70, 71, 72, 73, 74, 75, 76, 77, 78, 79, 80, 81, 82, 83, 84, 85, 86, 87, 88, 89, 90, 91, 92, 93, 94, 95, 96, 97, 98, 99, 100, 101, 102, 103, 104, 105, 106, 107, 108, 109, 110, 111, 112, 113, 114, 115, 116, 117, 118, 119, 120, 121, 122, 123, 124, 125, 126, 127, 169, 170, 171, 172, 173, 174, 175, 176, 177] (by decide +kernel) (by decide +kernel)
set_option maxRecDepth 20000 in
theorem gX7_herd_X5_readHerd : GoodIn wsX7_herd (wsV RX7 123 RX5 yX5_readHerd wsX5_readHerd) := goodIn_app (goodIn_of _ (by decide +kernel)) ggX7_herd_X5_readHerd
set_option maxRecDepth 20000 in
theorem ggX7_herd_X0_settle : GoodIn wsX7_herd wsX0_settle := goodIn_r _ [132, 133, 134, 135, 136, 137, 138, 139, 140, 141, 142, 143, 144, 145, 146, 147, 148, 131, 149, 150, 151, 152, 153, 154, 155, 156, 157, 158, 159, 160, 178, 179, 180, 181, 182, 183, 184, 185, 186, 169, 170, 171, 172, 173, 174, 175, 176, 177, 187, 188, 189, 190] (by decide +kernel) (by decide +kernel)
set_option maxRecDepth 20000 in
theorem gX7_herd_X0_settle : GoodIn wsX7_herd (wsV RX7 130 RX0 yX0_settle wsX0_settle) := goodIn_app (goodIn_of _ (by decide +kernel)) ggX7_herd_X0_settle
theorem dX7_herd_0 : decode cX7_herd 0 = .ok (.aload_n 0, 1) := by decide +kernel
theorem dX7_herd_1 : decode cX7_herd 1 = .ok (.getfield 26, 3) := by decide +kernel
theorem dX7_herd_4 : decode cX7_herd 4 = .ok (.invokevirtual 123, 3) := by decide +kernel
theorem dX7_herd_7 : decode cX7_herd 7 = .ok (.istore_n 1, 1) := by decide +kernel
theorem dX7_herd_8 : decode cX7_herd 8 = .ok (.aload_n 0, 1) := by decide +kernel
theorem dX7_herd_9 : decode cX7_herd 9 = .ok (.getfield 26, 3) := by decide +kernel
theorem dX7_herd_12 : decode cX7_herd 12 = .ok (.iconst 0, 1) := by decide +kernel
theorem dX7_herd_13 : decode cX7_herd 13 = .ok (.putfield 116, 3) := by decide +kernel
theorem dX7_herd_16 : decode cX7_herd 16 = .ok (.iload_n 1, 1) := by decide +kernel
theorem dX7_herd_17 : decode cX7_herd 17 = .ok (.ifCond .ne 14, 3) := by decide +kernel
theorem dX7_herd_20 : decode cX7_herd 20 = .ok (.bipush (-20), 2) := by decide +kernel
theorem dX7_herd_22 : decode cX7_herd 22 = .ok (.aload_n 0, 1) := by decide +kernel
theorem dX7_herd_23 : decode cX7_herd 23 = .ok (.getfield 26, 3) := by decide +kernel
theorem dX7_herd_26 : decode cX7_herd 26 = .ok (.getfield 127, 3) := by decide +kernel
theorem dX7_herd_29 : decode cX7_herd 29 = .ok (.isub, 1) := by decide +kernel
theorem dX7_herd_30 : decode cX7_herd 30 = .ok (.ireturn, 1) := by decide +kernel
theorem dX7_herd_31 : decode cX7_herd 31 = .ok (.aload_n 0, 1) := by decide +kernel
theorem dX7_herd_32 : decode cX7_herd 32 = .ok (.getfield 12, 3) := by decide +kernel
theorem dX7_herd_35 : decode cX7_herd 35 = .ok (.aload_n 0, 1) := by decide +kernel
theorem dX7_herd_36 : decode cX7_herd 36 = .ok (.getfield 26, 3) := by decide +kernel
theorem dX7_herd_39 : decode cX7_herd 39 = .ok (.invokevirtual 130, 3) := by decide +kernel
theorem dX7_herd_42 : decode cX7_herd 42 = .ok (.aload_n 0, 1) := by decide +kernel
theorem dX7_herd_43 : decode cX7_herd 43 = .ok (.getfield 12, 3) := by decide +kernel
theorem dX7_herd_46 : decode cX7_herd 46 = .ok (.getfield 58, 3) := by decide +kernel
theorem dX7_herd_49 : decode cX7_herd 49 = .ok (.ireturn, 1) := by decide +kernel
set_option maxRecDepth 20000 in
theorem ggX7_count_X0_allCows : GoodIn wsX7_count wsX0_allCows := goodIn_r _ [13, 14, 28, 29, 30, 31, 32, 33, 34, 35, 36] (by decide +kernel) (by decide +kernel)
set_option maxRecDepth 20000 in
theorem gX7_count_X0_allCows : GoodIn wsX7_count (wsV RX7 70 RX0 yX0_allCows wsX0_allCows) := goodIn_app (goodIn_of _ (by decide +kernel)) ggX7_count_X0_allCows
set_option maxRecDepth 20000 in
theorem ggX7_count_X0_milkOf : GoodIn wsX7_count wsX0_milkOf := goodIn_r _ [18, 14, 19, 28, 29, 30, 31, 32, 33, 34, 35, 36] (by decide +kernel) (by decide +kernel)
set_option maxRecDepth 20000 in
theorem gX7_count_X0_milkOf : GoodIn wsX7_count (wsV RX7 140 RX0 yX0_milkOf wsX0_milkOf) := goodIn_app (goodIn_of _ (by decide +kernel)) ggX7_count_X0_milkOf
theorem dX7_count_0 : decode cX7_count 0 = .ok (.iload_n 1, 1) := by decide +kernel
theorem dX7_count_1 : decode cX7_count 1 = .ok (.tableswitch 137 0 7 #[47, 55, 63, 74, 85, 96, 111, 129], 47) := by decide +kernel
theorem dX7_count_48 : decode cX7_count 48 = .ok (.aload_n 0, 1) := by decide +kernel
theorem dX7_count_49 : decode cX7_count 49 = .ok (.getfield 12, 3) := by decide +kernel
theorem dX7_count_52 : decode cX7_count 52 = .ok (.getfield 58, 3) := by decide +kernel
theorem dX7_count_55 : decode cX7_count 55 = .ok (.ireturn, 1) := by decide +kernel
theorem dX7_count_56 : decode cX7_count 56 = .ok (.aload_n 0, 1) := by decide +kernel
theorem dX7_count_57 : decode cX7_count 57 = .ok (.getfield 12, 3) := by decide +kernel
theorem dX7_count_60 : decode cX7_count 60 = .ok (.getfield 82, 3) := by decide +kernel
theorem dX7_count_63 : decode cX7_count 63 = .ok (.ireturn, 1) := by decide +kernel
theorem dX7_count_64 : decode cX7_count 64 = .ok (.aload_n 0, 1) := by decide +kernel
theorem dX7_count_65 : decode cX7_count 65 = .ok (.getfield 12, 3) := by decide +kernel
theorem dX7_count_68 : decode cX7_count 68 = .ok (.getfield 66, 3) := by decide +kernel
theorem dX7_count_71 : decode cX7_count 71 = .ok (.getfield 134, 3) := by decide +kernel
theorem dX7_count_74 : decode cX7_count 74 = .ok (.ireturn, 1) := by decide +kernel
theorem dX7_count_75 : decode cX7_count 75 = .ok (.aload_n 0, 1) := by decide +kernel
theorem dX7_count_76 : decode cX7_count 76 = .ok (.getfield 12, 3) := by decide +kernel
theorem dX7_count_79 : decode cX7_count 79 = .ok (.getfield 66, 3) := by decide +kernel
theorem dX7_count_82 : decode cX7_count 82 = .ok (.getfield 74, 3) := by decide +kernel
theorem dX7_count_85 : decode cX7_count 85 = .ok (.ireturn, 1) := by decide +kernel
theorem dX7_count_86 : decode cX7_count 86 = .ok (.aload_n 0, 1) := by decide +kernel
theorem dX7_count_87 : decode cX7_count 87 = .ok (.getfield 12, 3) := by decide +kernel
theorem dX7_count_90 : decode cX7_count 90 = .ok (.getfield 66, 3) := by decide +kernel
theorem dX7_count_93 : decode cX7_count 93 = .ok (.getfield 137, 3) := by decide +kernel
theorem dX7_count_96 : decode cX7_count 96 = .ok (.ireturn, 1) := by decide +kernel
theorem dX7_count_97 : decode cX7_count 97 = .ok (.aload_n 0, 1) := by decide +kernel
theorem dX7_count_98 : decode cX7_count 98 = .ok (.getfield 12, 3) := by decide +kernel
theorem dX7_count_101 : decode cX7_count 101 = .ok (.aload_n 0, 1) := by decide +kernel
theorem dX7_count_102 : decode cX7_count 102 = .ok (.getfield 12, 3) := by decide +kernel
theorem dX7_count_105 : decode cX7_count 105 = .ok (.invokevirtual 70, 3) := by decide +kernel
theorem dX7_count_108 : decode cX7_count 108 = .ok (.invokevirtual 140, 3) := by decide +kernel
theorem dX7_count_111 : decode cX7_count 111 = .ok (.ireturn, 1) := by decide +kernel
theorem dX7_count_112 : decode cX7_count 112 = .ok (.aload_n 0, 1) := by decide +kernel
theorem dX7_count_113 : decode cX7_count 113 = .ok (.getfield 12, 3) := by decide +kernel
theorem dX7_count_116 : decode cX7_count 116 = .ok (.aload_n 0, 1) := by decide +kernel
theorem dX7_count_117 : decode cX7_count 117 = .ok (.getfield 12, 3) := by decide +kernel
theorem dX7_count_120 : decode cX7_count 120 = .ok (.getfield 66, 3) := by decide +kernel
theorem dX7_count_123 : decode cX7_count 123 = .ok (.getfield 74, 3) := by decide +kernel
theorem dX7_count_126 : decode cX7_count 126 = .ok (.invokevirtual 140, 3) := by decide +kernel
theorem dX7_count_129 : decode cX7_count 129 = .ok (.ireturn, 1) := by decide +kernel
theorem dX7_count_130 : decode cX7_count 130 = .ok (.aload_n 0, 1) := by decide +kernel
theorem dX7_count_131 : decode cX7_count 131 = .ok (.getfield 12, 3) := by decide +kernel
theorem dX7_count_134 : decode cX7_count 134 = .ok (.getfield 79, 3) := by decide +kernel
theorem dX7_count_137 : decode cX7_count 137 = .ok (.ireturn, 1) := by decide +kernel
theorem dX7_count_138 : decode cX7_count 138 = .ok (.iconst (-1), 1) := by decide +kernel
theorem dX7_count_139 : decode cX7_count 139 = .ok (.ireturn, 1) := by decide +kernel
set_option maxRecDepth 20000 in
theorem ggX7_answer_X7_isTaster : GoodIn wsX7_answer wsX7_isTaster := goodIn_r _ [11, 1, 12, 82, 83, 84, 85, 86, 87, 88, 89, 90, 91, 92, 93, 94, 95, 96, 97, 98] (by decide +kernel) (by decide +kernel)
set_option maxRecDepth 20000 in
theorem gX7_answer_X7_isTaster : GoodIn wsX7_answer (wsV RX7 97 RX7 yX7_isTaster wsX7_isTaster) := goodIn_app (goodIn_of _ (by decide +kernel)) ggX7_answer_X7_isTaster
set_option maxRecDepth 20000 in
theorem ggX7_answer_X7_isMix : GoodIn wsX7_answer wsX7_isMix := goodIn_r _ [16, 1, 17, 18, 19, 20, 21, 22, 82, 83, 84, 85, 86, 87, 88, 89, 90, 91, 92, 93, 94, 95, 96, 97, 98] (by decide +kernel) (by decide +kernel)
set_option maxRecDepth 20000 in
theorem gX7_answer_X7_isMix : GoodIn wsX7_answer (wsV RX7 109 RX7 yX7_isMix wsX7_isMix) := goodIn_app (goodIn_of _ (by decide +kernel)) ggX7_answer_X7_isMix
set_option maxRecDepth 20000 in
theorem ggX7_answer_X7_isEither : GoodIn wsX7_answer wsX7_isEither := goodIn_r _ [25] (by decide +kernel) (by decide +kernel)
set_option maxRecDepth 20000 in
theorem gX7_answer_X7_isEither : GoodIn wsX7_answer (va_wsS RX7 100 yX7_isEither wsX7_isEither) := goodIn_app (goodIn_of _ (by decide +kernel)) ggX7_answer_X7_isEither
set_option maxRecDepth 20000 in
theorem ggX7_answer_X0_remember : GoodIn wsX7_answer wsX0_remember := goodIn_r _ [29, 30, 31, 32, 33, 34, 35, 36, 37, 38, 39, 40, 41, 42, 43, 44, 45, 46, 90, 91, 92, 93, 94, 95, 96, 97, 98, 99, 100, 101, 102] (by decide +kernel) (by decide +kernel)
set_option maxRecDepth 20000 in
theorem gX7_answer_X0_remember : GoodIn wsX7_answer (wsV RX7 144 RX0 yX0_remember wsX0_remember) := goodIn_app (goodIn_of _ (by decide +kernel)) ggX7_answer_X0_remember
set_option maxRecDepth 20000 in
theorem ggX7_answer_X0_agreeing : GoodIn wsX7_answer wsX0_agreeing := goodIn_r _ [50, 51, 52, 53, 20, 54, 32, 55, 56, 57, 58, 59, 22, 60, 61, 62, 63, 64, 65, 66, 67, 68, 69, 70, 71, 72, 73, 74, 75, 76, 18, 19, 21, 90, 91, 92, 93, 94, 95, 96, 97, 98, 99, 100, 101, 102] (by decide +kernel) (by decide +kernel)
set_option maxRecDepth 20000 in
theorem gX7_answer_X0_agreeing : GoodIn wsX7_answer (wsV RX7 147 RX0 yX0_agreeing wsX0_agreeing) := goodIn_app (goodIn_of _ (by decide +kernel)) ggX7_answer_X0_agreeing
set_option maxRecDepth 20000 in
theorem ggX7_answer_X0_hear : GoodIn wsX7_answer wsX0_hear := goodIn_r _ [80, 32, 81, 55, 90, 91, 92, 93, 94, 95, 96, 97, 98, 99, 100, 101, 102] (by decide +kernel) (by decide +kernel)
set_option maxRecDepth 20000 in
theorem gX7_answer_X0_hear : GoodIn wsX7_answer (wsV RX7 151 RX0 yX0_hear wsX0_hear) := goodIn_app (goodIn_of _ (by decide +kernel)) ggX7_answer_X0_hear
theorem dX7_answer_0 : decode cX7_answer 0 = .ok (.aload_n 0, 1) := by decide +kernel
theorem dX7_answer_1 : decode cX7_answer 1 = .ok (.iload_n 1, 1) := by decide +kernel
theorem dX7_answer_2 : decode cX7_answer 2 = .ok (.invokevirtual 97, 3) := by decide +kernel
theorem dX7_answer_5 : decode cX7_answer 5 = .ok (.ifCond .eq 18, 3) := by decide +kernel
theorem dX7_answer_8 : decode cX7_answer 8 = .ok (.aload_n 0, 1) := by decide +kernel
theorem dX7_answer_9 : decode cX7_answer 9 = .ok (.iload_n 2, 1) := by decide +kernel
theorem dX7_answer_10 : decode cX7_answer 10 = .ok (.invokevirtual 109, 3) := by decide +kernel
theorem dX7_answer_13 : decode cX7_answer 13 = .ok (.ifCond .eq 10, 3) := by decide +kernel
theorem dX7_answer_16 : decode cX7_answer 16 = .ok (.iload_n 3, 1) := by decide +kernel
theorem dX7_answer_17 : decode cX7_answer 17 = .ok (.invokestatic 100, 3) := by decide +kernel
theorem dX7_answer_20 : decode cX7_answer 20 = .ok (.ifCond .ne 5, 3) := by decide +kernel
theorem dX7_answer_23 : decode cX7_answer 23 = .ok (.iconst (-1), 1) := by decide +kernel
theorem dX7_answer_24 : decode cX7_answer 24 = .ok (.ireturn, 1) := by decide +kernel
theorem dX7_answer_25 : decode cX7_answer 25 = .ok (.aload_n 0, 1) := by decide +kernel
theorem dX7_answer_26 : decode cX7_answer 26 = .ok (.getfield 12, 3) := by decide +kernel
theorem dX7_answer_29 : decode cX7_answer 29 = .ok (.getfield 66, 3) := by decide +kernel
theorem dX7_answer_32 : decode cX7_answer 32 = .ok (.getfield 134, 3) := by decide +kernel
theorem dX7_answer_35 : decode cX7_answer 35 = .ok (.sipush 9999, 3) := by decide +kernel
