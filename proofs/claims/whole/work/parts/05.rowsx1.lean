theorem inJ7 : ∀ w ∈ wsJ70, w ∈ lw_tbl := by decide +kernel
set_option maxRecDepth 20000 in
theorem ggX1_init_J7_fill_53178 : GoodIn wsX1_init wsJ7_fill_53178 := goodIn_r _ [31] (by decide +kernel) (by decide +kernel)
set_option maxRecDepth 20000 in
theorem gX1_init_J7_fill_53178 : GoodIn wsX1_init (va_wsS RX1 66 yJ7_fill_53178 wsJ7_fill_53178) := goodIn_app (goodIn_of _ (by decide +kernel)) ggX1_init_J7_fill_53178
theorem dX1_init_0 : decode cX1_init 0 = .ok (.aload_n 0, 1) := by decide +kernel
theorem dX1_init_1 : decode cX1_init 1 = .ok (.invokespecial 1, 3) := by decide +kernel
theorem dX1_init_4 : decode cX1_init 4 = .ok (.aload_n 0, 1) := by decide +kernel
theorem dX1_init_5 : decode cX1_init 5 = .ok (.sipush 200, 3) := by decide +kernel
theorem dX1_init_8 : decode cX1_init 8 = .ok (.newarray .int, 2) := by decide +kernel
theorem dX1_init_10 : decode cX1_init 10 = .ok (.putfield 9, 3) := by decide +kernel
theorem dX1_init_13 : decode cX1_init 13 = .ok (.aload_n 0, 1) := by decide +kernel
theorem dX1_init_14 : decode cX1_init 14 = .ok (.sipush 200, 3) := by decide +kernel
theorem dX1_init_17 : decode cX1_init 17 = .ok (.newarray .int, 2) := by decide +kernel
theorem dX1_init_19 : decode cX1_init 19 = .ok (.putfield 13, 3) := by decide +kernel
theorem dX1_init_22 : decode cX1_init 22 = .ok (.aload_n 0, 1) := by decide +kernel
theorem dX1_init_23 : decode cX1_init 23 = .ok (.sipush 200, 3) := by decide +kernel
theorem dX1_init_26 : decode cX1_init 26 = .ok (.newarray .boolean, 2) := by decide +kernel
theorem dX1_init_28 : decode cX1_init 28 = .ok (.putfield 16, 3) := by decide +kernel
theorem dX1_init_31 : decode cX1_init 31 = .ok (.aload_n 0, 1) := by decide +kernel
theorem dX1_init_32 : decode cX1_init 32 = .ok (.bipush 60, 2) := by decide +kernel
theorem dX1_init_34 : decode cX1_init 34 = .ok (.newarray .int, 2) := by decide +kernel
theorem dX1_init_36 : decode cX1_init 36 = .ok (.putfield 20, 3) := by decide +kernel
theorem dX1_init_39 : decode cX1_init 39 = .ok (.aload_n 0, 1) := by decide +kernel
theorem dX1_init_40 : decode cX1_init 40 = .ok (.iconst 0, 1) := by decide +kernel
theorem dX1_init_41 : decode cX1_init 41 = .ok (.putfield 23, 3) := by decide +kernel
theorem dX1_init_44 : decode cX1_init 44 = .ok (.aload_n 0, 1) := by decide +kernel
theorem dX1_init_45 : decode cX1_init 45 = .ok (.sipush 250, 3) := by decide +kernel
theorem dX1_init_48 : decode cX1_init 48 = .ok (.newarray .int, 2) := by decide +kernel
theorem dX1_init_50 : decode cX1_init 50 = .ok (.putfield 27, 3) := by decide +kernel
theorem dX1_init_53 : decode cX1_init 53 = .ok (.aload_n 0, 1) := by decide +kernel
theorem dX1_init_54 : decode cX1_init 54 = .ok (.sipush 250, 3) := by decide +kernel
theorem dX1_init_57 : decode cX1_init 57 = .ok (.newarray .int, 2) := by decide +kernel
theorem dX1_init_59 : decode cX1_init 59 = .ok (.putfield 30, 3) := by decide +kernel
theorem dX1_init_62 : decode cX1_init 62 = .ok (.aload_n 0, 1) := by decide +kernel
theorem dX1_init_63 : decode cX1_init 63 = .ok (.sipush 250, 3) := by decide +kernel
theorem dX1_init_66 : decode cX1_init 66 = .ok (.newarray .int, 2) := by decide +kernel
theorem dX1_init_68 : decode cX1_init 68 = .ok (.putfield 33, 3) := by decide +kernel
theorem dX1_init_71 : decode cX1_init 71 = .ok (.aload_n 0, 1) := by decide +kernel
theorem dX1_init_72 : decode cX1_init 72 = .ok (.sipush 250, 3) := by decide +kernel
theorem dX1_init_75 : decode cX1_init 75 = .ok (.newarray .int, 2) := by decide +kernel
theorem dX1_init_77 : decode cX1_init 77 = .ok (.putfield 36, 3) := by decide +kernel
theorem dX1_init_80 : decode cX1_init 80 = .ok (.aload_n 0, 1) := by decide +kernel
theorem dX1_init_81 : decode cX1_init 81 = .ok (.sipush 250, 3) := by decide +kernel
theorem dX1_init_84 : decode cX1_init 84 = .ok (.newarray .int, 2) := by decide +kernel
theorem dX1_init_86 : decode cX1_init 86 = .ok (.putfield 39, 3) := by decide +kernel
theorem dX1_init_89 : decode cX1_init 89 = .ok (.aload_n 0, 1) := by decide +kernel
theorem dX1_init_90 : decode cX1_init 90 = .ok (.iconst 0, 1) := by decide +kernel
theorem dX1_init_91 : decode cX1_init 91 = .ok (.putfield 42, 3) := by decide +kernel
theorem dX1_init_94 : decode cX1_init 94 = .ok (.aload_n 0, 1) := by decide +kernel
theorem dX1_init_95 : decode cX1_init 95 = .ok (.sipush 250, 3) := by decide +kernel
theorem dX1_init_98 : decode cX1_init 98 = .ok (.newarray .int, 2) := by decide +kernel
theorem dX1_init_100 : decode cX1_init 100 = .ok (.putfield 45, 3) := by decide +kernel
theorem dX1_init_103 : decode cX1_init 103 = .ok (.aload_n 0, 1) := by decide +kernel
theorem dX1_init_104 : decode cX1_init 104 = .ok (.iconst 0, 1) := by decide +kernel
theorem dX1_init_105 : decode cX1_init 105 = .ok (.putfield 48, 3) := by decide +kernel
theorem dX1_init_108 : decode cX1_init 108 = .ok (.aload_n 0, 1) := by decide +kernel
theorem dX1_init_109 : decode cX1_init 109 = .ok (.sipush 250, 3) := by decide +kernel
theorem dX1_init_112 : decode cX1_init 112 = .ok (.newarray .int, 2) := by decide +kernel
theorem dX1_init_114 : decode cX1_init 114 = .ok (.putfield 51, 3) := by decide +kernel
theorem dX1_init_117 : decode cX1_init 117 = .ok (.aload_n 0, 1) := by decide +kernel
theorem dX1_init_118 : decode cX1_init 118 = .ok (.iconst 1, 1) := by decide +kernel
theorem dX1_init_119 : decode cX1_init 119 = .ok (.bipush 40, 2) := by decide +kernel
theorem dX1_init_121 : decode cX1_init 121 = .ok (.iload_n 1, 1) := by decide +kernel
theorem dX1_init_122 : decode cX1_init 122 = .ok (.invokestatic 54, 3) := by decide +kernel
theorem dX1_init_125 : decode cX1_init 125 = .ok (.invokestatic 60, 3) := by decide +kernel
theorem dX1_init_128 : decode cX1_init 128 = .ok (.putfield 63, 3) := by decide +kernel
theorem dX1_init_131 : decode cX1_init 131 = .ok (.aload_n 0, 1) := by decide +kernel
theorem dX1_init_132 : decode cX1_init 132 = .ok (.getfield 9, 3) := by decide +kernel
theorem dX1_init_135 : decode cX1_init 135 = .ok (.iconst (-1), 1) := by decide +kernel
theorem dX1_init_136 : decode cX1_init 136 = .ok (.invokestatic 66, 3) := by decide +kernel
theorem dX1_init_139 : decode cX1_init 139 = .ok (.aload_n 0, 1) := by decide +kernel
theorem dX1_init_140 : decode cX1_init 140 = .ok (.getfield 13, 3) := by decide +kernel
theorem dX1_init_143 : decode cX1_init 143 = .ok (.iconst (-1), 1) := by decide +kernel
theorem dX1_init_144 : decode cX1_init 144 = .ok (.invokestatic 66, 3) := by decide +kernel
theorem dX1_init_147 : decode cX1_init 147 = .ok (.return_, 1) := by decide +kernel
set_option maxRecDepth 20000 in
theorem ggX1_house_X1_isCarrier : GoodIn wsX1_house wsX1_isCarrier := goodIn_r _ [8] (by decide +kernel) (by decide +kernel)
set_option maxRecDepth 20000 in
theorem gX1_house_X1_isCarrier : GoodIn wsX1_house (wsV RX1 72 RX1 yX1_isCarrier wsX1_isCarrier) := goodIn_app (goodIn_of _ (by decide +kernel)) ggX1_house_X1_isCarrier
set_option maxRecDepth 20000 in
theorem ggX1_house_X1_isNumber : GoodIn wsX1_house wsX1_isNumber := goodIn_r _ [12] (by decide +kernel) (by decide +kernel)
set_option maxRecDepth 20000 in
theorem gX1_house_X1_isNumber : GoodIn wsX1_house (wsV RX1 76 RX1 yX1_isNumber wsX1_isNumber) := goodIn_app (goodIn_of _ (by decide +kernel)) ggX1_house_X1_isNumber
set_option maxRecDepth 20000 in
theorem ggX1_house_X1_isHouse : GoodIn wsX1_house wsX1_isHouse := goodIn_r _ [16, 3, 9, 10, 11, 7, 12, 21, 22, 23, 24, 25, 26, 27, 28, 29, 30, 31, 32, 33, 34, 35] (by decide +kernel) (by decide +kernel)
set_option maxRecDepth 20000 in
theorem gX1_house_X1_isHouse : GoodIn wsX1_house (wsV RX1 79 RX1 yX1_isHouse wsX1_isHouse) := goodIn_app (goodIn_of _ (by decide +kernel)) ggX1_house_X1_isHouse
set_option maxRecDepth 20000 in
theorem ggX1_house_X1_lengthOfRound : GoodIn wsX1_house wsX1_lengthOfRound := goodIn_r _ [20, 1, 3, 2, 21, 22, 23, 24, 25, 26, 27, 28, 29, 30, 31, 32, 33, 34, 35] (by decide +kernel) (by decide +kernel)
set_option maxRecDepth 20000 in
theorem gX1_house_X1_lengthOfRound : GoodIn wsX1_house (wsV RX1 82 RX1 yX1_lengthOfRound wsX1_lengthOfRound) := goodIn_app (goodIn_of _ (by decide +kernel)) ggX1_house_X1_lengthOfRound
theorem dX1_house_0 : decode cX1_house 0 = .ok (.aload_n 0, 1) := by decide +kernel
theorem dX1_house_1 : decode cX1_house 1 = .ok (.iload_n 1, 1) := by decide +kernel
theorem dX1_house_2 : decode cX1_house 2 = .ok (.invokevirtual 72, 3) := by decide +kernel
theorem dX1_house_5 : decode cX1_house 5 = .ok (.ifCond .ne 5, 3) := by decide +kernel
theorem dX1_house_8 : decode cX1_house 8 = .ok (.iconst (-1), 1) := by decide +kernel
theorem dX1_house_9 : decode cX1_house 9 = .ok (.ireturn, 1) := by decide +kernel
theorem dX1_house_10 : decode cX1_house 10 = .ok (.aload_n 0, 1) := by decide +kernel
theorem dX1_house_11 : decode cX1_house 11 = .ok (.iload_n 2, 1) := by decide +kernel
theorem dX1_house_12 : decode cX1_house 12 = .ok (.invokevirtual 76, 3) := by decide +kernel
theorem dX1_house_15 : decode cX1_house 15 = .ok (.ifCond .ne 6, 3) := by decide +kernel
theorem dX1_house_18 : decode cX1_house 18 = .ok (.bipush (-2), 2) := by decide +kernel
theorem dX1_house_20 : decode cX1_house 20 = .ok (.ireturn, 1) := by decide +kernel
theorem dX1_house_21 : decode cX1_house 21 = .ok (.aload_n 0, 1) := by decide +kernel
theorem dX1_house_22 : decode cX1_house 22 = .ok (.iload_n 2, 1) := by decide +kernel
theorem dX1_house_23 : decode cX1_house 23 = .ok (.invokevirtual 79, 3) := by decide +kernel
theorem dX1_house_26 : decode cX1_house 26 = .ok (.ifCond .eq 6, 3) := by decide +kernel
theorem dX1_house_29 : decode cX1_house 29 = .ok (.bipush (-3), 2) := by decide +kernel
theorem dX1_house_31 : decode cX1_house 31 = .ok (.ireturn, 1) := by decide +kernel
theorem dX1_house_32 : decode cX1_house 32 = .ok (.aload_n 0, 1) := by decide +kernel
theorem dX1_house_33 : decode cX1_house 33 = .ok (.getfield 23, 3) := by decide +kernel
theorem dX1_house_36 : decode cX1_house 36 = .ok (.bipush 60, 2) := by decide +kernel
theorem dX1_house_38 : decode cX1_house 38 = .ok (.if_icmp .lt 6, 3) := by decide +kernel
theorem dX1_house_41 : decode cX1_house 41 = .ok (.bipush (-4), 2) := by decide +kernel
theorem dX1_house_43 : decode cX1_house 43 = .ok (.ireturn, 1) := by decide +kernel
theorem dX1_house_44 : decode cX1_house 44 = .ok (.aload_n 0, 1) := by decide +kernel
theorem dX1_house_45 : decode cX1_house 45 = .ok (.getfield 20, 3) := by decide +kernel
theorem dX1_house_48 : decode cX1_house 48 = .ok (.aload_n 0, 1) := by decide +kernel
theorem dX1_house_49 : decode cX1_house 49 = .ok (.getfield 23, 3) := by decide +kernel
theorem dX1_house_52 : decode cX1_house 52 = .ok (.iload_n 2, 1) := by decide +kernel
theorem dX1_house_53 : decode cX1_house 53 = .ok (.iastore, 1) := by decide +kernel
theorem dX1_house_54 : decode cX1_house 54 = .ok (.aload_n 0, 1) := by decide +kernel
theorem dX1_house_55 : decode cX1_house 55 = .ok (.dup, 1) := by decide +kernel
theorem dX1_house_56 : decode cX1_house 56 = .ok (.getfield 23, 3) := by decide +kernel
theorem dX1_house_59 : decode cX1_house 59 = .ok (.iconst 1, 1) := by decide +kernel
theorem dX1_house_60 : decode cX1_house 60 = .ok (.iadd, 1) := by decide +kernel
theorem dX1_house_61 : decode cX1_house 61 = .ok (.putfield 23, 3) := by decide +kernel
theorem dX1_house_64 : decode cX1_house 64 = .ok (.aload_n 0, 1) := by decide +kernel
theorem dX1_house_65 : decode cX1_house 65 = .ok (.getfield 9, 3) := by decide +kernel
theorem dX1_house_68 : decode cX1_house 68 = .ok (.iload_n 2, 1) := by decide +kernel
theorem dX1_house_69 : decode cX1_house 69 = .ok (.iload_n 1, 1) := by decide +kernel
theorem dX1_house_70 : decode cX1_house 70 = .ok (.iastore, 1) := by decide +kernel
theorem dX1_house_71 : decode cX1_house 71 = .ok (.aload_n 0, 1) := by decide +kernel
theorem dX1_house_72 : decode cX1_house 72 = .ok (.iload_n 1, 1) := by decide +kernel
theorem dX1_house_73 : decode cX1_house 73 = .ok (.invokevirtual 82, 3) := by decide +kernel
theorem dX1_house_76 : decode cX1_house 76 = .ok (.ireturn, 1) := by decide +kernel
set_option maxRecDepth 20000 in
theorem ggX1_point_X1_isHouse : GoodIn wsX1_point wsX1_isHouse := goodIn_r _ [6, 7, 8, 9, 10, 5, 11, 23, 24, 25, 26, 27, 28, 29, 30, 31, 32, 33, 34, 35, 36, 37] (by decide +kernel) (by decide +kernel)
set_option maxRecDepth 20000 in
theorem gX1_point_X1_isHouse : GoodIn wsX1_point (wsV RX1 79 RX1 yX1_isHouse wsX1_isHouse) := goodIn_app (goodIn_of _ (by decide +kernel)) ggX1_point_X1_isHouse
set_option maxRecDepth 20000 in
theorem ggX1_point_X1_isHole : GoodIn wsX1_point wsX1_isHole := goodIn_r _ [15, 16, 23, 24, 25, 26, 27, 28, 29, 30, 31, 32, 33, 34, 35, 36, 37] (by decide +kernel) (by decide +kernel)
set_option maxRecDepth 20000 in
theorem gX1_point_X1_isHole : GoodIn wsX1_point (wsV RX1 86 RX1 yX1_isHole wsX1_isHole) := goodIn_app (goodIn_of _ (by decide +kernel)) ggX1_point_X1_isHole
set_option maxRecDepth 20000 in
theorem ggX1_point_X1_housesAt : GoodIn wsX1_point wsX1_housesAt := goodIn_r _ [20, 21, 1, 22, 23, 24, 25, 26, 27, 28, 29, 30, 31, 32, 33, 34, 35, 36, 37] (by decide +kernel) (by decide +kernel)
set_option maxRecDepth 20000 in
theorem gX1_point_X1_housesAt : GoodIn wsX1_point (wsV RX1 89 RX1 yX1_housesAt wsX1_housesAt) := goodIn_app (goodIn_of _ (by decide +kernel)) ggX1_point_X1_housesAt
theorem dX1_point_0 : decode cX1_point 0 = .ok (.aload_n 0, 1) := by decide +kernel
theorem dX1_point_1 : decode cX1_point 1 = .ok (.iload_n 1, 1) := by decide +kernel
theorem dX1_point_2 : decode cX1_point 2 = .ok (.invokevirtual 79, 3) := by decide +kernel
theorem dX1_point_5 : decode cX1_point 5 = .ok (.ifCond .ne 5, 3) := by decide +kernel
theorem dX1_point_8 : decode cX1_point 8 = .ok (.iconst (-1), 1) := by decide +kernel
theorem dX1_point_9 : decode cX1_point 9 = .ok (.ireturn, 1) := by decide +kernel
theorem dX1_point_10 : decode cX1_point 10 = .ok (.aload_n 0, 1) := by decide +kernel
theorem dX1_point_11 : decode cX1_point 11 = .ok (.iload_n 2, 1) := by decide +kernel
theorem dX1_point_12 : decode cX1_point 12 = .ok (.invokevirtual 86, 3) := by decide +kernel
theorem dX1_point_15 : decode cX1_point 15 = .ok (.ifCond .ne 6, 3) := by decide +kernel
theorem dX1_point_18 : decode cX1_point 18 = .ok (.bipush (-2), 2) := by decide +kernel
theorem dX1_point_20 : decode cX1_point 20 = .ok (.ireturn, 1) := by decide +kernel
theorem dX1_point_21 : decode cX1_point 21 = .ok (.aload_n 0, 1) := by decide +kernel
theorem dX1_point_22 : decode cX1_point 22 = .ok (.getfield 13, 3) := by decide +kernel
theorem dX1_point_25 : decode cX1_point 25 = .ok (.iload_n 1, 1) := by decide +kernel
theorem dX1_point_26 : decode cX1_point 26 = .ok (.iload_n 2, 1) := by decide +kernel
theorem dX1_point_27 : decode cX1_point 27 = .ok (.iastore, 1) := by decide +kernel
theorem dX1_point_28 : decode cX1_point 28 = .ok (.aload_n 0, 1) := by decide +kernel
theorem dX1_point_29 : decode cX1_point 29 = .ok (.iload_n 2, 1) := by decide +kernel
theorem dX1_point_30 : decode cX1_point 30 = .ok (.invokevirtual 89, 3) := by decide +kernel
theorem dX1_point_33 : decode cX1_point 33 = .ok (.ireturn, 1) := by decide +kernel
set_option maxRecDepth 20000 in
theorem ggX1_item_X1_isNumber : GoodIn wsX1_item wsX1_isNumber := goodIn_r _ [11] (by decide +kernel) (by decide +kernel)
set_option maxRecDepth 20000 in
theorem gX1_item_X1_isNumber : GoodIn wsX1_item (wsV RX1 76 RX1 yX1_isNumber wsX1_isNumber) := goodIn_app (goodIn_of _ (by decide +kernel)) ggX1_item_X1_isNumber
theorem dX1_item_0 : decode cX1_item 0 = .ok (.aload_n 0, 1) := by decide +kernel
theorem dX1_item_1 : decode cX1_item 1 = .ok (.iload_n 1, 1) := by decide +kernel
theorem dX1_item_2 : decode cX1_item 2 = .ok (.invokevirtual 76, 3) := by decide +kernel
theorem dX1_item_5 : decode cX1_item 5 = .ok (.ifCond .eq 12, 3) := by decide +kernel
theorem dX1_item_8 : decode cX1_item 8 = .ok (.iload_n 2, 1) := by decide +kernel
theorem dX1_item_9 : decode cX1_item 9 = .ok (.ifCond .lt 8, 3) := by decide +kernel
theorem dX1_item_12 : decode cX1_item 12 = .ok (.iload_n 2, 1) := by decide +kernel
theorem dX1_item_13 : decode cX1_item 13 = .ok (.iconst 3, 1) := by decide +kernel
theorem dX1_item_14 : decode cX1_item 14 = .ok (.if_icmp .lt 6, 3) := by decide +kernel
theorem dX1_item_17 : decode cX1_item 17 = .ok (.bipush (-2), 2) := by decide +kernel
theorem dX1_item_19 : decode cX1_item 19 = .ok (.ireturn, 1) := by decide +kernel
theorem dX1_item_20 : decode cX1_item 20 = .ok (.aload_n 0, 1) := by decide +kernel
theorem dX1_item_21 : decode cX1_item 21 = .ok (.getfield 42, 3) := by decide +kernel
theorem dX1_item_24 : decode cX1_item 24 = .ok (.sipush 250, 3) := by decide +kernel
theorem dX1_item_27 : decode cX1_item 27 = .ok (.if_icmp .lt 6, 3) := by decide +kernel
theorem dX1_item_30 : decode cX1_item 30 = .ok (.bipush (-4), 2) := by decide +kernel
theorem dX1_item_32 : decode cX1_item 32 = .ok (.ireturn, 1) := by decide +kernel
theorem dX1_item_33 : decode cX1_item 33 = .ok (.aload_n 0, 1) := by decide +kernel
theorem dX1_item_34 : decode cX1_item 34 = .ok (.getfield 42, 3) := by decide +kernel
theorem dX1_item_37 : decode cX1_item 37 = .ok (.istore_n 3, 1) := by decide +kernel
theorem dX1_item_38 : decode cX1_item 38 = .ok (.aload_n 0, 1) := by decide +kernel
theorem dX1_item_39 : decode cX1_item 39 = .ok (.getfield 27, 3) := by decide +kernel
theorem dX1_item_42 : decode cX1_item 42 = .ok (.iload_n 3, 1) := by decide +kernel
theorem dX1_item_43 : decode cX1_item 43 = .ok (.iload_n 1, 1) := by decide +kernel
theorem dX1_item_44 : decode cX1_item 44 = .ok (.iastore, 1) := by decide +kernel
theorem dX1_item_45 : decode cX1_item 45 = .ok (.aload_n 0, 1) := by decide +kernel
theorem dX1_item_46 : decode cX1_item 46 = .ok (.getfield 30, 3) := by decide +kernel
theorem dX1_item_49 : decode cX1_item 49 = .ok (.iload_n 3, 1) := by decide +kernel
theorem dX1_item_50 : decode cX1_item 50 = .ok (.iload_n 2, 1) := by decide +kernel
theorem dX1_item_51 : decode cX1_item 51 = .ok (.iastore, 1) := by decide +kernel
theorem dX1_item_52 : decode cX1_item 52 = .ok (.aload_n 0, 1) := by decide +kernel
theorem dX1_item_53 : decode cX1_item 53 = .ok (.getfield 33, 3) := by decide +kernel
theorem dX1_item_56 : decode cX1_item 56 = .ok (.iload_n 3, 1) := by decide +kernel
theorem dX1_item_57 : decode cX1_item 57 = .ok (.iconst (-1), 1) := by decide +kernel
theorem dX1_item_58 : decode cX1_item 58 = .ok (.iastore, 1) := by decide +kernel
theorem dX1_item_59 : decode cX1_item 59 = .ok (.aload_n 0, 1) := by decide +kernel
theorem dX1_item_60 : decode cX1_item 60 = .ok (.getfield 36, 3) := by decide +kernel
theorem dX1_item_63 : decode cX1_item 63 = .ok (.iload_n 3, 1) := by decide +kernel
theorem dX1_item_64 : decode cX1_item 64 = .ok (.iconst (-1), 1) := by decide +kernel
theorem dX1_item_65 : decode cX1_item 65 = .ok (.iastore, 1) := by decide +kernel
theorem dX1_item_66 : decode cX1_item 66 = .ok (.aload_n 0, 1) := by decide +kernel
theorem dX1_item_67 : decode cX1_item 67 = .ok (.getfield 39, 3) := by decide +kernel
theorem dX1_item_70 : decode cX1_item 70 = .ok (.iload_n 3, 1) := by decide +kernel
theorem dX1_item_71 : decode cX1_item 71 = .ok (.iconst (-1), 1) := by decide +kernel
theorem dX1_item_72 : decode cX1_item 72 = .ok (.iastore, 1) := by decide +kernel
theorem dX1_item_73 : decode cX1_item 73 = .ok (.aload_n 0, 1) := by decide +kernel
theorem dX1_item_74 : decode cX1_item 74 = .ok (.dup, 1) := by decide +kernel
theorem dX1_item_75 : decode cX1_item 75 = .ok (.getfield 42, 3) := by decide +kernel
theorem dX1_item_78 : decode cX1_item 78 = .ok (.iconst 1, 1) := by decide +kernel
theorem dX1_item_79 : decode cX1_item 79 = .ok (.iadd, 1) := by decide +kernel
theorem dX1_item_80 : decode cX1_item 80 = .ok (.putfield 42, 3) := by decide +kernel
theorem dX1_item_83 : decode cX1_item 83 = .ok (.iload_n 3, 1) := by decide +kernel
theorem dX1_item_84 : decode cX1_item 84 = .ok (.ireturn, 1) := by decide +kernel
set_option maxRecDepth 20000 in
theorem ggX1_bundle_X1_isItem : GoodIn wsX1_bundle wsX1_isItem := goodIn_r _ [8, 9, 27, 28, 29, 30, 31, 32, 33, 34, 35, 36, 37, 38, 39, 40, 41] (by decide +kernel) (by decide +kernel)
set_option maxRecDepth 20000 in
theorem gX1_bundle_X1_isItem : GoodIn wsX1_bundle (wsV RX1 92 RX1 yX1_isItem wsX1_isItem) := goodIn_app (goodIn_of _ (by decide +kernel)) ggX1_bundle_X1_isItem
set_option maxRecDepth 20000 in
theorem ggX1_bundle_X1_mayBundle : GoodIn wsX1_bundle wsX1_mayBundle := goodIn_r _ [13, 14, 1, 15, 16, 17, 7, 18, 2, 19, 20, 21, 22, 27, 28, 29, 30, 31, 32, 33, 34, 35, 36, 37, 38, 39, 40, 41] (by decide +kernel) (by decide +kernel)
set_option maxRecDepth 20000 in
theorem gX1_bundle_X1_mayBundle : GoodIn wsX1_bundle (wsV RX1 95 RX1 yX1_mayBundle wsX1_mayBundle) := goodIn_app (goodIn_of _ (by decide +kernel)) ggX1_bundle_X1_mayBundle
set_option maxRecDepth 20000 in
theorem ggX1_bundle_X1_leadOf : GoodIn wsX1_bundle wsX1_leadOf := goodIn_r _ [22, 2, 27, 28, 29, 30, 31, 32, 33, 34, 35, 36, 37, 38, 39, 40, 41] (by decide +kernel) (by decide +kernel)
set_option maxRecDepth 20000 in
theorem gX1_bundle_X1_leadOf : GoodIn wsX1_bundle (wsV RX1 99 RX1 yX1_leadOf wsX1_leadOf) := goodIn_app (goodIn_of _ (by decide +kernel)) ggX1_bundle_X1_leadOf
set_option maxRecDepth 20000 in
theorem ggX1_bundle_X1_sizeOfBundle : GoodIn wsX1_bundle wsX1_sizeOfBundle := goodIn_r _ [26, 1, 27, 28, 29, 30, 31, 32, 33, 34, 35, 36, 37, 38, 39, 40, 41] (by decide +kernel) (by decide +kernel)
set_option maxRecDepth 20000 in
theorem gX1_bundle_X1_sizeOfBundle : GoodIn wsX1_bundle (wsV RX1 102 RX1 yX1_sizeOfBundle wsX1_sizeOfBundle) := goodIn_app (goodIn_of _ (by decide +kernel)) ggX1_bundle_X1_sizeOfBundle
theorem dX1_bundle_0 : decode cX1_bundle 0 = .ok (.aload_n 0, 1) := by decide +kernel
theorem dX1_bundle_1 : decode cX1_bundle 1 = .ok (.iload_n 1, 1) := by decide +kernel
theorem dX1_bundle_2 : decode cX1_bundle 2 = .ok (.invokevirtual 92, 3) := by decide +kernel
theorem dX1_bundle_5 : decode cX1_bundle 5 = .ok (.ifCond .eq 11, 3) := by decide +kernel
theorem dX1_bundle_8 : decode cX1_bundle 8 = .ok (.aload_n 0, 1) := by decide +kernel
theorem dX1_bundle_9 : decode cX1_bundle 9 = .ok (.iload_n 2, 1) := by decide +kernel
theorem dX1_bundle_10 : decode cX1_bundle 10 = .ok (.invokevirtual 92, 3) := by decide +kernel
theorem dX1_bundle_13 : decode cX1_bundle 13 = .ok (.ifCond .ne 5, 3) := by decide +kernel
theorem dX1_bundle_16 : decode cX1_bundle 16 = .ok (.iconst (-1), 1) := by decide +kernel
theorem dX1_bundle_17 : decode cX1_bundle 17 = .ok (.ireturn, 1) := by decide +kernel
theorem dX1_bundle_18 : decode cX1_bundle 18 = .ok (.aload_n 0, 1) := by decide +kernel
theorem dX1_bundle_19 : decode cX1_bundle 19 = .ok (.iload_n 1, 1) := by decide +kernel
theorem dX1_bundle_20 : decode cX1_bundle 20 = .ok (.iload_n 2, 1) := by decide +kernel
theorem dX1_bundle_21 : decode cX1_bundle 21 = .ok (.invokevirtual 95, 3) := by decide +kernel
theorem dX1_bundle_24 : decode cX1_bundle 24 = .ok (.ifCond .ne 6, 3) := by decide +kernel
theorem dX1_bundle_27 : decode cX1_bundle 27 = .ok (.bipush (-3), 2) := by decide +kernel
theorem dX1_bundle_29 : decode cX1_bundle 29 = .ok (.ireturn, 1) := by decide +kernel
theorem dX1_bundle_30 : decode cX1_bundle 30 = .ok (.aload_n 0, 1) := by decide +kernel
theorem dX1_bundle_31 : decode cX1_bundle 31 = .ok (.getfield 39, 3) := by decide +kernel
theorem dX1_bundle_34 : decode cX1_bundle 34 = .ok (.iload_n 1, 1) := by decide +kernel
theorem dX1_bundle_35 : decode cX1_bundle 35 = .ok (.iload_n 2, 1) := by decide +kernel
theorem dX1_bundle_36 : decode cX1_bundle 36 = .ok (.iastore, 1) := by decide +kernel
theorem dX1_bundle_37 : decode cX1_bundle 37 = .ok (.aload_n 0, 1) := by decide +kernel
theorem dX1_bundle_38 : decode cX1_bundle 38 = .ok (.getfield 36, 3) := by decide +kernel
theorem dX1_bundle_41 : decode cX1_bundle 41 = .ok (.iload_n 2, 1) := by decide +kernel
theorem dX1_bundle_42 : decode cX1_bundle 42 = .ok (.iload_n 1, 1) := by decide +kernel
theorem dX1_bundle_43 : decode cX1_bundle 43 = .ok (.iastore, 1) := by decide +kernel
theorem dX1_bundle_44 : decode cX1_bundle 44 = .ok (.aload_n 0, 1) := by decide +kernel
theorem dX1_bundle_45 : decode cX1_bundle 45 = .ok (.getfield 33, 3) := by decide +kernel
theorem dX1_bundle_48 : decode cX1_bundle 48 = .ok (.iload_n 2, 1) := by decide +kernel
theorem dX1_bundle_49 : decode cX1_bundle 49 = .ok (.iconst (-1), 1) := by decide +kernel
theorem dX1_bundle_50 : decode cX1_bundle 50 = .ok (.iastore, 1) := by decide +kernel
theorem dX1_bundle_51 : decode cX1_bundle 51 = .ok (.aload_n 0, 1) := by decide +kernel
theorem dX1_bundle_52 : decode cX1_bundle 52 = .ok (.aload_n 0, 1) := by decide +kernel
theorem dX1_bundle_53 : decode cX1_bundle 53 = .ok (.iload_n 1, 1) := by decide +kernel
theorem dX1_bundle_54 : decode cX1_bundle 54 = .ok (.invokevirtual 99, 3) := by decide +kernel
theorem dX1_bundle_57 : decode cX1_bundle 57 = .ok (.invokevirtual 102, 3) := by decide +kernel
theorem dX1_bundle_60 : decode cX1_bundle 60 = .ok (.ireturn, 1) := by decide +kernel
set_option maxRecDepth 20000 in
theorem ggX1_put_X1_isItem : GoodIn wsX1_put wsX1_isItem := goodIn_r _ [7, 8, 29, 30, 31, 32, 33, 34, 35, 36, 37, 38, 39, 40, 41, 42, 43] (by decide +kernel) (by decide +kernel)
set_option maxRecDepth 20000 in
theorem gX1_put_X1_isItem : GoodIn wsX1_put (wsV RX1 92 RX1 yX1_isItem wsX1_isItem) := goodIn_app (goodIn_of _ (by decide +kernel)) ggX1_put_X1_isItem
set_option maxRecDepth 20000 in
theorem ggX1_put_X1_isHole : GoodIn wsX1_put wsX1_isHole := goodIn_r _ [12, 13, 29, 30, 31, 32, 33, 34, 35, 36, 37, 38, 39, 40, 41, 42, 43] (by decide +kernel) (by decide +kernel)
set_option maxRecDepth 20000 in
theorem gX1_put_X1_isHole : GoodIn wsX1_put (wsV RX1 86 RX1 yX1_isHole wsX1_isHole) := goodIn_app (goodIn_of _ (by decide +kernel)) ggX1_put_X1_isHole
set_option maxRecDepth 20000 in
theorem ggX1_put_X1_leads : GoodIn wsX1_put wsX1_leads := goodIn_r _ [17, 18, 29, 30, 31, 32, 33, 34, 35, 36, 37, 38, 39, 40, 41, 42, 43] (by decide +kernel) (by decide +kernel)
set_option maxRecDepth 20000 in
theorem gX1_put_X1_leads : GoodIn wsX1_put (wsV RX1 105 RX1 yX1_leads wsX1_leads) := goodIn_app (goodIn_of _ (by decide +kernel)) ggX1_put_X1_leads
set_option maxRecDepth 20000 in
theorem ggX1_put_X1_isWrong : GoodIn wsX1_put wsX1_isWrong := goodIn_r _ [22, 23, 24, 25, 26, 27, 6, 28, 1, 2, 29, 30, 31, 32, 33, 34, 35, 36, 37, 38, 39, 40, 41, 42, 43] (by decide +kernel) (by decide +kernel)
set_option maxRecDepth 20000 in
theorem gX1_put_X1_isWrong : GoodIn wsX1_put (wsV RX1 108 RX1 yX1_isWrong wsX1_isWrong) := goodIn_app (goodIn_of _ (by decide +kernel)) ggX1_put_X1_isWrong
theorem dX1_put_0 : decode cX1_put 0 = .ok (.aload_n 0, 1) := by decide +kernel
theorem dX1_put_1 : decode cX1_put 1 = .ok (.iload_n 1, 1) := by decide +kernel
theorem dX1_put_2 : decode cX1_put 2 = .ok (.invokevirtual 92, 3) := by decide +kernel
theorem dX1_put_5 : decode cX1_put 5 = .ok (.ifCond .ne 5, 3) := by decide +kernel
theorem dX1_put_8 : decode cX1_put 8 = .ok (.iconst (-1), 1) := by decide +kernel
theorem dX1_put_9 : decode cX1_put 9 = .ok (.ireturn, 1) := by decide +kernel
theorem dX1_put_10 : decode cX1_put 10 = .ok (.aload_n 0, 1) := by decide +kernel
theorem dX1_put_11 : decode cX1_put 11 = .ok (.iload_n 2, 1) := by decide +kernel
theorem dX1_put_12 : decode cX1_put 12 = .ok (.invokevirtual 86, 3) := by decide +kernel
theorem dX1_put_15 : decode cX1_put 15 = .ok (.ifCond .ne 6, 3) := by decide +kernel
theorem dX1_put_18 : decode cX1_put 18 = .ok (.bipush (-2), 2) := by decide +kernel
theorem dX1_put_20 : decode cX1_put 20 = .ok (.ireturn, 1) := by decide +kernel
theorem dX1_put_21 : decode cX1_put 21 = .ok (.aload_n 0, 1) := by decide +kernel
theorem dX1_put_22 : decode cX1_put 22 = .ok (.getfield 30, 3) := by decide +kernel
theorem dX1_put_25 : decode cX1_put 25 = .ok (.iload_n 1, 1) := by decide +kernel
theorem dX1_put_26 : decode cX1_put 26 = .ok (.iaload, 1) := by decide +kernel
theorem dX1_put_27 : decode cX1_put 27 = .ok (.iconst 2, 1) := by decide +kernel
theorem dX1_put_28 : decode cX1_put 28 = .ok (.if_icmp .eq 11, 3) := by decide +kernel
theorem dX1_put_31 : decode cX1_put 31 = .ok (.aload_n 0, 1) := by decide +kernel
theorem dX1_put_32 : decode cX1_put 32 = .ok (.iload_n 1, 1) := by decide +kernel
theorem dX1_put_33 : decode cX1_put 33 = .ok (.invokevirtual 105, 3) := by decide +kernel
theorem dX1_put_36 : decode cX1_put 36 = .ok (.ifCond .ne 6, 3) := by decide +kernel
theorem dX1_put_39 : decode cX1_put 39 = .ok (.bipush (-3), 2) := by decide +kernel
theorem dX1_put_41 : decode cX1_put 41 = .ok (.ireturn, 1) := by decide +kernel
theorem dX1_put_42 : decode cX1_put 42 = .ok (.aload_n 0, 1) := by decide +kernel
theorem dX1_put_43 : decode cX1_put 43 = .ok (.getfield 33, 3) := by decide +kernel
theorem dX1_put_46 : decode cX1_put 46 = .ok (.iload_n 1, 1) := by decide +kernel
theorem dX1_put_47 : decode cX1_put 47 = .ok (.iload_n 2, 1) := by decide +kernel
theorem dX1_put_48 : decode cX1_put 48 = .ok (.iastore, 1) := by decide +kernel
theorem dX1_put_49 : decode cX1_put 49 = .ok (.aload_n 0, 1) := by decide +kernel
theorem dX1_put_50 : decode cX1_put 50 = .ok (.iload_n 1, 1) := by decide +kernel
theorem dX1_put_51 : decode cX1_put 51 = .ok (.invokevirtual 108, 3) := by decide +kernel
theorem dX1_put_54 : decode cX1_put 54 = .ok (.ifCond .eq 7, 3) := by decide +kernel
theorem dX1_put_57 : decode cX1_put 57 = .ok (.iconst 1, 1) := by decide +kernel
theorem dX1_put_58 : decode cX1_put 58 = .ok (.goto 4, 3) := by decide +kernel
theorem dX1_put_61 : decode cX1_put 61 = .ok (.iconst 0, 1) := by decide +kernel
theorem dX1_put_62 : decode cX1_put 62 = .ok (.ireturn, 1) := by decide +kernel
set_option maxRecDepth 20000 in
theorem ggX1_hold_X1_isHouse : GoodIn wsX1_hold wsX1_isHouse := goodIn_r _ [6, 7, 8, 9, 10, 5, 11, 12, 13, 14, 15, 16, 17, 18, 19, 20, 21, 22, 23, 24, 25, 26] (by decide +kernel) (by decide +kernel)
set_option maxRecDepth 20000 in
theorem gX1_hold_X1_isHouse : GoodIn wsX1_hold (wsV RX1 79 RX1 yX1_isHouse wsX1_isHouse) := goodIn_app (goodIn_of _ (by decide +kernel)) ggX1_hold_X1_isHouse
theorem dX1_hold_0 : decode cX1_hold 0 = .ok (.aload_n 0, 1) := by decide +kernel
theorem dX1_hold_1 : decode cX1_hold 1 = .ok (.iload_n 1, 1) := by decide +kernel
theorem dX1_hold_2 : decode cX1_hold 2 = .ok (.invokevirtual 79, 3) := by decide +kernel
theorem dX1_hold_5 : decode cX1_hold 5 = .ok (.ifCond .eq 13, 3) := by decide +kernel
theorem dX1_hold_8 : decode cX1_hold 8 = .ok (.aload_n 0, 1) := by decide +kernel
theorem dX1_hold_9 : decode cX1_hold 9 = .ok (.getfield 16, 3) := by decide +kernel
theorem dX1_hold_12 : decode cX1_hold 12 = .ok (.iload_n 1, 1) := by decide +kernel
theorem dX1_hold_13 : decode cX1_hold 13 = .ok (.baload, 1) := by decide +kernel
theorem dX1_hold_14 : decode cX1_hold 14 = .ok (.iload_n 2, 1) := by decide +kernel
theorem dX1_hold_15 : decode cX1_hold 15 = .ok (.if_icmp .ne 5, 3) := by decide +kernel
theorem dX1_hold_18 : decode cX1_hold 18 = .ok (.iconst 0, 1) := by decide +kernel
theorem dX1_hold_19 : decode cX1_hold 19 = .ok (.ireturn, 1) := by decide +kernel
theorem dX1_hold_20 : decode cX1_hold 20 = .ok (.aload_n 0, 1) := by decide +kernel
theorem dX1_hold_21 : decode cX1_hold 21 = .ok (.getfield 16, 3) := by decide +kernel
theorem dX1_hold_24 : decode cX1_hold 24 = .ok (.iload_n 1, 1) := by decide +kernel
theorem dX1_hold_25 : decode cX1_hold 25 = .ok (.iload_n 2, 1) := by decide +kernel
theorem dX1_hold_26 : decode cX1_hold 26 = .ok (.bastore, 1) := by decide +kernel
theorem dX1_hold_27 : decode cX1_hold 27 = .ok (.iconst 1, 1) := by decide +kernel
theorem dX1_hold_28 : decode cX1_hold 28 = .ok (.ireturn, 1) := by decide +kernel
set_option maxRecDepth 20000 in
theorem ggX1_sample_X1_noteWhereAllLie : GoodIn wsX1_sample wsX1_noteWhereAllLie := goodIn_r _ [9, 2, 3, 10, 11, 12, 8, 13, 14, 15, 16, 17, 18, 19, 20, 21, 22, 31, 32, 33, 34, 35, 36, 37, 38, 39, 40, 41, 42, 43, 44, 45] (by decide +kernel) (by decide +kernel)
set_option maxRecDepth 20000 in
theorem gX1_sample_X1_noteWhereAllLie : GoodIn wsX1_sample (wsV RX1 111 RX1 yX1_noteWhereAllLie wsX1_noteWhereAllLie) := goodIn_app (goodIn_of _ (by decide +kernel)) ggX1_sample_X1_noteWhereAllLie
set_option maxRecDepth 20000 in
theorem ggX1_sample_X1_bringHome : GoodIn wsX1_sample wsX1_bringHome := goodIn_r _ [26, 21, 22, 20, 27, 28, 29, 8, 30, 15, 16, 17, 18, 19, 31, 32, 33, 34, 35, 36, 37, 38, 39, 40, 41, 42, 43, 44, 45] (by decide +kernel) (by decide +kernel)
set_option maxRecDepth 20000 in
theorem gX1_sample_X1_bringHome : GoodIn wsX1_sample (wsV RX1 115 RX1 yX1_bringHome wsX1_bringHome) := goodIn_app (goodIn_of _ (by decide +kernel)) ggX1_sample_X1_bringHome
theorem dX1_sample_0 : decode cX1_sample 0 = .ok (.iload_n 3, 1) := by decide +kernel
theorem dX1_sample_1 : decode cX1_sample 1 = .ok (.iconst 1, 1) := by decide +kernel
theorem dX1_sample_2 : decode cX1_sample 2 = .ok (.if_icmp .lt 19, 3) := by decide +kernel
theorem dX1_sample_5 : decode cX1_sample 5 = .ok (.iload_n 3, 1) := by decide +kernel
theorem dX1_sample_6 : decode cX1_sample 6 = .ok (.sipush 1000, 3) := by decide +kernel
theorem dX1_sample_9 : decode cX1_sample 9 = .ok (.if_icmp .gt 12, 3) := by decide +kernel
theorem dX1_sample_12 : decode cX1_sample 12 = .ok (.iload_n 2, 1) := by decide +kernel
theorem dX1_sample_13 : decode cX1_sample 13 = .ok (.ifCond .lt 8, 3) := by decide +kernel
theorem dX1_sample_16 : decode cX1_sample 16 = .ok (.iload_n 2, 1) := by decide +kernel
theorem dX1_sample_17 : decode cX1_sample 17 = .ok (.iload_n 3, 1) := by decide +kernel
theorem dX1_sample_18 : decode cX1_sample 18 = .ok (.if_icmp .le 6, 3) := by decide +kernel
theorem dX1_sample_21 : decode cX1_sample 21 = .ok (.bipush (-2), 2) := by decide +kernel
theorem dX1_sample_23 : decode cX1_sample 23 = .ok (.ireturn, 1) := by decide +kernel
theorem dX1_sample_24 : decode cX1_sample 24 = .ok (.aload_n 0, 1) := by decide +kernel
theorem dX1_sample_25 : decode cX1_sample 25 = .ok (.invokevirtual 111, 3) := by decide +kernel
theorem dX1_sample_28 : decode cX1_sample 28 = .ok (.iload_n 1, 1) := by decide +kernel
theorem dX1_sample_29 : decode cX1_sample 29 = .ok (.istore 4, 2) := by decide +kernel
theorem dX1_sample_31 : decode cX1_sample 31 = .ok (.iconst 0, 1) := by decide +kernel
theorem dX1_sample_32 : decode cX1_sample 32 = .ok (.istore 5, 2) := by decide +kernel
theorem dX1_sample_34 : decode cX1_sample 34 = .ok (.iconst 0, 1) := by decide +kernel
theorem dX1_sample_35 : decode cX1_sample 35 = .ok (.istore 6, 2) := by decide +kernel
theorem dX1_sample_37 : decode cX1_sample 37 = .ok (.iload 6, 2) := by decide +kernel
theorem dX1_sample_39 : decode cX1_sample 39 = .ok (.aload_n 0, 1) := by decide +kernel
theorem dX1_sample_40 : decode cX1_sample 40 = .ok (.getfield 63, 3) := by decide +kernel
theorem dX1_sample_43 : decode cX1_sample 43 = .ok (.if_icmp .ge 73, 3) := by decide +kernel
theorem dX1_sample_46 : decode cX1_sample 46 = .ok (.iconst 0, 1) := by decide +kernel
theorem dX1_sample_47 : decode cX1_sample 47 = .ok (.istore 7, 2) := by decide +kernel
theorem dX1_sample_49 : decode cX1_sample 49 = .ok (.iload 7, 2) := by decide +kernel
theorem dX1_sample_51 : decode cX1_sample 51 = .ok (.aload_n 0, 1) := by decide +kernel
theorem dX1_sample_52 : decode cX1_sample 52 = .ok (.getfield 42, 3) := by decide +kernel
theorem dX1_sample_55 : decode cX1_sample 55 = .ok (.if_icmp .ge 55, 3) := by decide +kernel
theorem dX1_sample_58 : decode cX1_sample 58 = .ok (.aload_n 0, 1) := by decide +kernel
theorem dX1_sample_59 : decode cX1_sample 59 = .ok (.getfield 51, 3) := by decide +kernel
theorem dX1_sample_62 : decode cX1_sample 62 = .ok (.iload 7, 2) := by decide +kernel
theorem dX1_sample_64 : decode cX1_sample 64 = .ok (.iaload, 1) := by decide +kernel
theorem dX1_sample_65 : decode cX1_sample 65 = .ok (.iload 6, 2) := by decide +kernel
theorem dX1_sample_67 : decode cX1_sample 67 = .ok (.if_icmp .ne 37, 3) := by decide +kernel
theorem dX1_sample_70 : decode cX1_sample 70 = .ok (.iload 4, 2) := by decide +kernel
theorem dX1_sample_72 : decode cX1_sample 72 = .ok (.ldc 114, 2) := by decide +kernel
theorem dX1_sample_74 : decode cX1_sample 74 = .ok (.imul, 1) := by decide +kernel
theorem dX1_sample_75 : decode cX1_sample 75 = .ok (.sipush 12345, 3) := by decide +kernel
theorem dX1_sample_78 : decode cX1_sample 78 = .ok (.iadd, 1) := by decide +kernel
theorem dX1_sample_79 : decode cX1_sample 79 = .ok (.istore 4, 2) := by decide +kernel
theorem dX1_sample_81 : decode cX1_sample 81 = .ok (.iload 4, 2) := by decide +kernel
theorem dX1_sample_83 : decode cX1_sample 83 = .ok (.bipush 16, 2) := by decide +kernel
theorem dX1_sample_85 : decode cX1_sample 85 = .ok (.iushr, 1) := by decide +kernel
theorem dX1_sample_86 : decode cX1_sample 86 = .ok (.iload_n 3, 1) := by decide +kernel
theorem dX1_sample_87 : decode cX1_sample 87 = .ok (.irem, 1) := by decide +kernel
theorem dX1_sample_88 : decode cX1_sample 88 = .ok (.iload_n 2, 1) := by decide +kernel
theorem dX1_sample_89 : decode cX1_sample 89 = .ok (.if_icmp .ge 15, 3) := by decide +kernel
theorem dX1_sample_92 : decode cX1_sample 92 = .ok (.aload_n 0, 1) := by decide +kernel
theorem dX1_sample_93 : decode cX1_sample 93 = .ok (.iload 7, 2) := by decide +kernel
theorem dX1_sample_95 : decode cX1_sample 95 = .ok (.invokevirtual 115, 3) := by decide +kernel
theorem dX1_sample_98 : decode cX1_sample 98 = .ok (.ifCond .eq 6, 3) := by decide +kernel
theorem dX1_sample_101 : decode cX1_sample 101 = .ok (.iinc 5 1, 3) := by decide +kernel
theorem dX1_sample_104 : decode cX1_sample 104 = .ok (.iinc 7 1, 3) := by decide +kernel
theorem dX1_sample_107 : decode cX1_sample 107 = .ok (.goto (-58), 3) := by decide +kernel
theorem dX1_sample_110 : decode cX1_sample 110 = .ok (.iinc 6 1, 3) := by decide +kernel
theorem dX1_sample_113 : decode cX1_sample 113 = .ok (.goto (-76), 3) := by decide +kernel
theorem dX1_sample_116 : decode cX1_sample 116 = .ok (.iload 5, 2) := by decide +kernel
theorem dX1_sample_118 : decode cX1_sample 118 = .ok (.ireturn, 1) := by decide +kernel
set_option maxRecDepth 20000 in
theorem ggX1_sort_X1_itemsInFrames : GoodIn wsX1_sort wsX1_itemsInFrames := goodIn_r _ [5, 6, 7, 8, 9, 10, 4, 11, 12, 13, 14, 15, 16, 17, 18, 19, 20, 21, 22, 23, 24, 25, 26, 27, 28, 29, 30, 31, 32, 33, 34, 35, 36, 37, 38, 39, 40, 41, 42, 43, 44, 45, 46, 47, 48, 49, 50, 51, 52, 53, 54, 55, 56, 57, 58, 59, 60, 61, 62, 63, 64, 65, 66, 67, 68, 69, 70, 71, 72] (by decide +kernel) (by decide +kernel)
set_option maxRecDepth 20000 in
theorem gX1_sort_X1_itemsInFrames : GoodIn wsX1_sort (wsV RX1 118 RX1 yX1_itemsInFrames wsX1_itemsInFrames) := goodIn_app (goodIn_of _ (by decide +kernel)) ggX1_sort_X1_itemsInFrames
theorem dX1_sort_0 : decode cX1_sort 0 = .ok (.aload_n 0, 1) := by decide +kernel
theorem dX1_sort_1 : decode cX1_sort 1 = .ok (.invokevirtual 118, 3) := by decide +kernel
theorem dX1_sort_4 : decode cX1_sort 4 = .ok (.ireturn, 1) := by decide +kernel
set_option maxRecDepth 20000 in
theorem ggX1_frame_X1_isCarrier : GoodIn wsX1_frame wsX1_isCarrier := goodIn_r _ [11] (by decide +kernel) (by decide +kernel)
set_option maxRecDepth 20000 in
theorem gX1_frame_X1_isCarrier : GoodIn wsX1_frame (wsV RX1 72 RX1 yX1_isCarrier wsX1_isCarrier) := goodIn_app (goodIn_of _ (by decide +kernel)) ggX1_frame_X1_isCarrier
set_option maxRecDepth 20000 in
theorem ggX1_frame_X1_lineUpFrame : GoodIn wsX1_frame wsX1_lineUpFrame := goodIn_r _ [15, 5, 16, 17, 18, 19, 10, 20, 21, 22, 23, 24, 25, 26, 27, 28, 29, 30, 31, 32, 33, 34, 35, 36, 37, 38, 39, 40, 41, 42, 43, 44, 45, 46, 47, 48, 49, 50, 51, 52, 53, 54, 55, 56, 57, 58, 59, 60, 61, 62, 63, 64, 65, 66, 67, 68, 69, 70, 6, 71, 72, 73, 74, 75, 76, 77, 78, 79, 80, 81, 82, 83, 84, 85, 86, 87, 88, 89, 90, 91, 92, 93, 94, 95] (by decide +kernel) (by decide +kernel)
set_option maxRecDepth 20000 in
theorem gX1_frame_X1_lineUpFrame : GoodIn wsX1_frame (wsV RX1 129 RX1 yX1_lineUpFrame wsX1_lineUpFrame) := goodIn_app (goodIn_of _ (by decide +kernel)) ggX1_frame_X1_lineUpFrame
theorem dX1_frame_0 : decode cX1_frame 0 = .ok (.aload_n 0, 1) := by decide +kernel
theorem dX1_frame_1 : decode cX1_frame 1 = .ok (.iload_n 1, 1) := by decide +kernel
theorem dX1_frame_2 : decode cX1_frame 2 = .ok (.invokevirtual 72, 3) := by decide +kernel
theorem dX1_frame_5 : decode cX1_frame 5 = .ok (.ifCond .ne 13, 3) := by decide +kernel
theorem dX1_frame_8 : decode cX1_frame 8 = .ok (.new 122, 3) := by decide +kernel
theorem dX1_frame_11 : decode cX1_frame 11 = .ok (.dup, 1) := by decide +kernel
theorem dX1_frame_12 : decode cX1_frame 12 = .ok (.ldc 124, 2) := by decide +kernel
theorem dX1_frame_14 : decode cX1_frame 14 = .ok (.invokespecial 126, 3) := by decide +kernel
theorem dX1_frame_17 : decode cX1_frame 17 = .ok (.athrow, 1) := by decide +kernel
theorem dX1_frame_18 : decode cX1_frame 18 = .ok (.aload_n 0, 1) := by decide +kernel
theorem dX1_frame_19 : decode cX1_frame 19 = .ok (.iload_n 1, 1) := by decide +kernel
theorem dX1_frame_20 : decode cX1_frame 20 = .ok (.invokevirtual 129, 3) := by decide +kernel
theorem dX1_frame_23 : decode cX1_frame 23 = .ok (.iload_n 2, 1) := by decide +kernel
theorem dX1_frame_24 : decode cX1_frame 24 = .ok (.ifCond .lt 11, 3) := by decide +kernel
theorem dX1_frame_27 : decode cX1_frame 27 = .ok (.iload_n 2, 1) := by decide +kernel
theorem dX1_frame_28 : decode cX1_frame 28 = .ok (.aload_n 0, 1) := by decide +kernel
theorem dX1_frame_29 : decode cX1_frame 29 = .ok (.getfield 48, 3) := by decide +kernel
theorem dX1_frame_32 : decode cX1_frame 32 = .ok (.if_icmp .lt 13, 3) := by decide +kernel
theorem dX1_frame_35 : decode cX1_frame 35 = .ok (.new 133, 3) := by decide +kernel
theorem dX1_frame_38 : decode cX1_frame 38 = .ok (.dup, 1) := by decide +kernel
theorem dX1_frame_39 : decode cX1_frame 39 = .ok (.ldc 135, 2) := by decide +kernel
theorem dX1_frame_41 : decode cX1_frame 41 = .ok (.invokespecial 137, 3) := by decide +kernel
theorem dX1_frame_44 : decode cX1_frame 44 = .ok (.athrow, 1) := by decide +kernel
theorem dX1_frame_45 : decode cX1_frame 45 = .ok (.aload_n 0, 1) := by decide +kernel
theorem dX1_frame_46 : decode cX1_frame 46 = .ok (.getfield 45, 3) := by decide +kernel
theorem dX1_frame_49 : decode cX1_frame 49 = .ok (.iload_n 2, 1) := by decide +kernel
theorem dX1_frame_50 : decode cX1_frame 50 = .ok (.iaload, 1) := by decide +kernel
theorem dX1_frame_51 : decode cX1_frame 51 = .ok (.ireturn, 1) := by decide +kernel
set_option maxRecDepth 20000 in
theorem ggX1_list_X1_isCarrier : GoodIn wsX1_list wsX1_isCarrier := goodIn_r _ [12] (by decide +kernel) (by decide +kernel)
set_option maxRecDepth 20000 in
theorem gX1_list_X1_isCarrier : GoodIn wsX1_list (wsV RX1 72 RX1 yX1_isCarrier wsX1_isCarrier) := goodIn_app (goodIn_of _ (by decide +kernel)) ggX1_list_X1_isCarrier
set_option maxRecDepth 20000 in
theorem ggX1_list_X1_addRound : GoodIn wsX1_list wsX1_addRound := goodIn_r _ [16, 17, 18, 19, 20, 21, 22, 11, 23, 24, 25, 26, 27, 28, 29, 30, 31, 32, 33, 34, 35, 36, 37, 38, 6, 39, 40, 41, 42, 43, 44, 45, 46, 47, 48, 49, 50, 51, 52, 53, 54, 55, 56, 57, 58, 59, 60, 61, 62, 63, 64, 65, 66, 5, 7, 67, 68, 69, 70, 71, 72, 73, 74, 75, 76, 77, 78, 79, 80, 81, 82] (by decide +kernel) (by decide +kernel)
set_option maxRecDepth 20000 in
theorem gX1_list_X1_addRound : GoodIn wsX1_list (wsV RX1 144 RX1 yX1_addRound wsX1_addRound) := goodIn_app (goodIn_of _ (by decide +kernel)) ggX1_list_X1_addRound
theorem dX1_list_0 : decode cX1_list 0 = .ok (.aload_n 0, 1) := by decide +kernel
theorem dX1_list_1 : decode cX1_list 1 = .ok (.iload_n 1, 1) := by decide +kernel
theorem dX1_list_2 : decode cX1_list 2 = .ok (.invokevirtual 72, 3) := by decide +kernel
theorem dX1_list_5 : decode cX1_list 5 = .ok (.ifCond .ne 13, 3) := by decide +kernel
theorem dX1_list_8 : decode cX1_list 8 = .ok (.new 122, 3) := by decide +kernel
theorem dX1_list_11 : decode cX1_list 11 = .ok (.dup, 1) := by decide +kernel
theorem dX1_list_12 : decode cX1_list 12 = .ok (.ldc 124, 2) := by decide +kernel
theorem dX1_list_14 : decode cX1_list 14 = .ok (.invokespecial 126, 3) := by decide +kernel
theorem dX1_list_17 : decode cX1_list 17 = .ok (.athrow, 1) := by decide +kernel
theorem dX1_list_18 : decode cX1_list 18 = .ok (.aload_n 0, 1) := by decide +kernel
theorem dX1_list_19 : decode cX1_list 19 = .ok (.iconst 0, 1) := by decide +kernel
theorem dX1_list_20 : decode cX1_list 20 = .ok (.putfield 48, 3) := by decide +kernel
theorem dX1_list_23 : decode cX1_list 23 = .ok (.aload_n 0, 1) := by decide +kernel
theorem dX1_list_24 : decode cX1_list 24 = .ok (.iload_n 1, 1) := by decide +kernel
theorem dX1_list_25 : decode cX1_list 25 = .ok (.getstatic 138, 3) := by decide +kernel
theorem dX1_list_28 : decode cX1_list 28 = .ok (.invokevirtual 144, 3) := by decide +kernel
theorem dX1_list_31 : decode cX1_list 31 = .ok (.iload_n 2, 1) := by decide +kernel
theorem dX1_list_32 : decode cX1_list 32 = .ok (.ifCond .lt 11, 3) := by decide +kernel
theorem dX1_list_35 : decode cX1_list 35 = .ok (.iload_n 2, 1) := by decide +kernel
theorem dX1_list_36 : decode cX1_list 36 = .ok (.aload_n 0, 1) := by decide +kernel
theorem dX1_list_37 : decode cX1_list 37 = .ok (.getfield 48, 3) := by decide +kernel
theorem dX1_list_40 : decode cX1_list 40 = .ok (.if_icmp .lt 13, 3) := by decide +kernel
theorem dX1_list_43 : decode cX1_list 43 = .ok (.new 133, 3) := by decide +kernel
theorem dX1_list_46 : decode cX1_list 46 = .ok (.dup, 1) := by decide +kernel
theorem dX1_list_47 : decode cX1_list 47 = .ok (.ldc 148, 2) := by decide +kernel
theorem dX1_list_49 : decode cX1_list 49 = .ok (.invokespecial 137, 3) := by decide +kernel
theorem dX1_list_52 : decode cX1_list 52 = .ok (.athrow, 1) := by decide +kernel
theorem dX1_list_53 : decode cX1_list 53 = .ok (.aload_n 0, 1) := by decide +kernel
theorem dX1_list_54 : decode cX1_list 54 = .ok (.getfield 45, 3) := by decide +kernel
theorem dX1_list_57 : decode cX1_list 57 = .ok (.iload_n 2, 1) := by decide +kernel
theorem dX1_list_58 : decode cX1_list 58 = .ok (.iaload, 1) := by decide +kernel
theorem dX1_list_59 : decode cX1_list 59 = .ok (.ireturn, 1) := by decide +kernel
set_option maxRecDepth 20000 in
theorem ggX1_drawer_X1_addOfHouse : GoodIn wsX1_drawer wsX1_addOfHouse := goodIn_r _ [7, 8, 9, 10, 11, 12, 6, 13, 14, 15, 16, 17, 18, 19, 20, 21, 2, 22, 23, 24, 25, 26, 27, 28, 29, 30, 31, 32, 33, 34, 35, 36, 37, 38, 39, 40, 41, 42, 43, 44, 45, 46, 47, 48, 49, 50, 51, 52, 53, 1, 54, 55, 60, 61, 62, 63, 64, 65, 66, 67, 68, 69, 70, 71, 72, 73, 74] (by decide +kernel) (by decide +kernel)
set_option maxRecDepth 20000 in
theorem gX1_drawer_X1_addOfHouse : GoodIn wsX1_drawer (wsV RX1 153 RX1 yX1_addOfHouse wsX1_addOfHouse) := goodIn_app (goodIn_of _ (by decide +kernel)) ggX1_drawer_X1_addOfHouse
set_option maxRecDepth 20000 in
theorem ggX1_drawer_X1_inRow : GoodIn wsX1_drawer wsX1_inRow := goodIn_r _ [59, 1, 54, 60, 61, 62, 63, 64, 65, 66, 67, 68, 69, 70, 71, 72, 73, 74] (by decide +kernel) (by decide +kernel)
set_option maxRecDepth 20000 in
theorem gX1_drawer_X1_inRow : GoodIn wsX1_drawer (wsV RX1 156 RX1 yX1_inRow wsX1_inRow) := goodIn_app (goodIn_of _ (by decide +kernel)) ggX1_drawer_X1_inRow
theorem dX1_drawer_0 : decode cX1_drawer 0 = .ok (.aload_n 0, 1) := by decide +kernel
theorem dX1_drawer_1 : decode cX1_drawer 1 = .ok (.iconst 0, 1) := by decide +kernel
theorem dX1_drawer_2 : decode cX1_drawer 2 = .ok (.putfield 48, 3) := by decide +kernel
theorem dX1_drawer_5 : decode cX1_drawer 5 = .ok (.aload_n 0, 1) := by decide +kernel
theorem dX1_drawer_6 : decode cX1_drawer 6 = .ok (.iload_n 1, 1) := by decide +kernel
theorem dX1_drawer_7 : decode cX1_drawer 7 = .ok (.getstatic 150, 3) := by decide +kernel
theorem dX1_drawer_10 : decode cX1_drawer 10 = .ok (.invokevirtual 153, 3) := by decide +kernel
theorem dX1_drawer_13 : decode cX1_drawer 13 = .ok (.aload_n 0, 1) := by decide +kernel
theorem dX1_drawer_14 : decode cX1_drawer 14 = .ok (.iload_n 2, 1) := by decide +kernel
theorem dX1_drawer_15 : decode cX1_drawer 15 = .ok (.invokevirtual 156, 3) := by decide +kernel
theorem dX1_drawer_18 : decode cX1_drawer 18 = .ok (.ireturn, 1) := by decide +kernel
set_option maxRecDepth 20000 in
theorem ggX1_stray_X1_leads : GoodIn wsX1_stray wsX1_leads := goodIn_r _ [8, 9, 56, 57, 58, 59, 60, 61, 62, 63, 64, 65, 66, 67, 68, 69, 70] (by decide +kernel) (by decide +kernel)
set_option maxRecDepth 20000 in
theorem gX1_stray_X1_leads : GoodIn wsX1_stray (wsV RX1 105 RX1 yX1_leads wsX1_leads) := goodIn_app (goodIn_of _ (by decide +kernel)) ggX1_stray_X1_leads
set_option maxRecDepth 20000 in
theorem ggX1_stray_X1_placeOf : GoodIn wsX1_stray wsX1_placeOf := goodIn_r _ [13, 14, 15, 3, 16, 17, 18, 19, 20, 21, 22, 23, 7, 24, 25, 26, 27, 28, 29, 30, 31, 32, 33, 34, 35, 36, 37, 38, 39, 40, 41, 42, 43, 44, 45, 56, 57, 58, 59, 60, 61, 62, 63, 64, 65, 66, 67, 68, 69, 70] (by decide +kernel) (by decide +kernel)
set_option maxRecDepth 20000 in
theorem gX1_stray_X1_placeOf : GoodIn wsX1_stray (wsV RX1 159 RX1 yX1_placeOf wsX1_placeOf) := goodIn_app (goodIn_of _ (by decide +kernel)) ggX1_stray_X1_placeOf
set_option maxRecDepth 20000 in
theorem ggX1_stray_X1_addBundle : GoodIn wsX1_stray wsX1_addBundle := goodIn_r _ [49, 1, 50, 51, 56, 57, 58, 59, 60, 61, 62, 63, 64, 65, 66, 67, 68, 69, 70] (by decide +kernel) (by decide +kernel)
set_option maxRecDepth 20000 in
theorem gX1_stray_X1_addBundle : GoodIn wsX1_stray (wsV RX1 166 RX1 yX1_addBundle wsX1_addBundle) := goodIn_app (goodIn_of _ (by decide +kernel)) ggX1_stray_X1_addBundle
set_option maxRecDepth 20000 in
theorem ggX1_stray_X1_inRow : GoodIn wsX1_stray wsX1_inRow := goodIn_r _ [55, 1, 50, 56, 57, 58, 59, 60, 61, 62, 63, 64, 65, 66, 67, 68, 69, 70] (by decide +kernel) (by decide +kernel)
set_option maxRecDepth 20000 in
theorem gX1_stray_X1_inRow : GoodIn wsX1_stray (wsV RX1 156 RX1 yX1_inRow wsX1_inRow) := goodIn_app (goodIn_of _ (by decide +kernel)) ggX1_stray_X1_inRow
theorem dX1_stray_0 : decode cX1_stray 0 = .ok (.aload_n 0, 1) := by decide +kernel
theorem dX1_stray_1 : decode cX1_stray 1 = .ok (.iconst 0, 1) := by decide +kernel
theorem dX1_stray_2 : decode cX1_stray 2 = .ok (.putfield 48, 3) := by decide +kernel
theorem dX1_stray_5 : decode cX1_stray 5 = .ok (.iconst 0, 1) := by decide +kernel
theorem dX1_stray_6 : decode cX1_stray 6 = .ok (.istore_n 2, 1) := by decide +kernel
theorem dX1_stray_7 : decode cX1_stray 7 = .ok (.iload_n 2, 1) := by decide +kernel
theorem dX1_stray_8 : decode cX1_stray 8 = .ok (.aload_n 0, 1) := by decide +kernel
theorem dX1_stray_9 : decode cX1_stray 9 = .ok (.getfield 42, 3) := by decide +kernel
theorem dX1_stray_12 : decode cX1_stray 12 = .ok (.if_icmp .ge 33, 3) := by decide +kernel
theorem dX1_stray_15 : decode cX1_stray 15 = .ok (.aload_n 0, 1) := by decide +kernel
theorem dX1_stray_16 : decode cX1_stray 16 = .ok (.iload_n 2, 1) := by decide +kernel
theorem dX1_stray_17 : decode cX1_stray 17 = .ok (.invokevirtual 105, 3) := by decide +kernel
theorem dX1_stray_20 : decode cX1_stray 20 = .ok (.ifCond .eq 19, 3) := by decide +kernel
theorem dX1_stray_23 : decode cX1_stray 23 = .ok (.aload_n 0, 1) := by decide +kernel
theorem dX1_stray_24 : decode cX1_stray 24 = .ok (.iload_n 2, 1) := by decide +kernel
theorem dX1_stray_25 : decode cX1_stray 25 = .ok (.invokevirtual 159, 3) := by decide +kernel
theorem dX1_stray_28 : decode cX1_stray 28 = .ok (.getstatic 163, 3) := by decide +kernel
theorem dX1_stray_31 : decode cX1_stray 31 = .ok (.if_acmp .ne 8, 3) := by decide +kernel
theorem dX1_stray_34 : decode cX1_stray 34 = .ok (.aload_n 0, 1) := by decide +kernel
theorem dX1_stray_35 : decode cX1_stray 35 = .ok (.iload_n 2, 1) := by decide +kernel
theorem dX1_stray_36 : decode cX1_stray 36 = .ok (.invokevirtual 166, 3) := by decide +kernel
theorem dX1_stray_39 : decode cX1_stray 39 = .ok (.iinc 2 1, 3) := by decide +kernel
theorem dX1_stray_42 : decode cX1_stray 42 = .ok (.goto (-35), 3) := by decide +kernel
theorem dX1_stray_45 : decode cX1_stray 45 = .ok (.aload_n 0, 1) := by decide +kernel
theorem dX1_stray_46 : decode cX1_stray 46 = .ok (.iload_n 1, 1) := by decide +kernel
theorem dX1_stray_47 : decode cX1_stray 47 = .ok (.invokevirtual 156, 3) := by decide +kernel
theorem dX1_stray_50 : decode cX1_stray 50 = .ok (.ireturn, 1) := by decide +kernel
set_option maxRecDepth 20000 in
theorem ggX1_lies_X1_isItem : GoodIn wsX1_lies wsX1_isItem := goodIn_r _ [5, 6, 20, 21, 22, 23, 24, 25, 26, 27, 28, 29, 30, 31, 32, 33, 34] (by decide +kernel) (by decide +kernel)
set_option maxRecDepth 20000 in
theorem gX1_lies_X1_isItem : GoodIn wsX1_lies (wsV RX1 92 RX1 yX1_isItem wsX1_isItem) := goodIn_app (goodIn_of _ (by decide +kernel)) ggX1_lies_X1_isItem
set_option maxRecDepth 20000 in
theorem ggX1_lies_X1_leadOf : GoodIn wsX1_lies wsX1_leadOf := goodIn_r _ [10, 11, 20, 21, 22, 23, 24, 25, 26, 27, 28, 29, 30, 31, 32, 33, 34] (by decide +kernel) (by decide +kernel)
set_option maxRecDepth 20000 in
theorem gX1_lies_X1_leadOf : GoodIn wsX1_lies (wsV RX1 99 RX1 yX1_leadOf wsX1_leadOf) := goodIn_app (goodIn_of _ (by decide +kernel)) ggX1_lies_X1_leadOf
set_option maxRecDepth 20000 in
theorem ggX1_lies_X1_holeOfLead : GoodIn wsX1_lies wsX1_holeOfLead := goodIn_r _ [15, 16, 17, 18, 19, 20, 21, 22, 23, 24, 25, 26, 27, 28, 29, 30, 31, 32, 33, 34] (by decide +kernel) (by decide +kernel)
set_option maxRecDepth 20000 in
theorem gX1_lies_X1_holeOfLead : GoodIn wsX1_lies (wsV RX1 169 RX1 yX1_holeOfLead wsX1_holeOfLead) := goodIn_app (goodIn_of _ (by decide +kernel)) ggX1_lies_X1_holeOfLead
theorem dX1_lies_0 : decode cX1_lies 0 = .ok (.aload_n 0, 1) := by decide +kernel
theorem dX1_lies_1 : decode cX1_lies 1 = .ok (.iload_n 1, 1) := by decide +kernel
theorem dX1_lies_2 : decode cX1_lies 2 = .ok (.invokevirtual 92, 3) := by decide +kernel
theorem dX1_lies_5 : decode cX1_lies 5 = .ok (.ifCond .eq 15, 3) := by decide +kernel
theorem dX1_lies_8 : decode cX1_lies 8 = .ok (.aload_n 0, 1) := by decide +kernel
theorem dX1_lies_9 : decode cX1_lies 9 = .ok (.aload_n 0, 1) := by decide +kernel
theorem dX1_lies_10 : decode cX1_lies 10 = .ok (.iload_n 1, 1) := by decide +kernel
theorem dX1_lies_11 : decode cX1_lies 11 = .ok (.invokevirtual 99, 3) := by decide +kernel
theorem dX1_lies_14 : decode cX1_lies 14 = .ok (.invokevirtual 169, 3) := by decide +kernel
theorem dX1_lies_17 : decode cX1_lies 17 = .ok (.goto 4, 3) := by decide +kernel
theorem dX1_lies_20 : decode cX1_lies 20 = .ok (.iconst (-1), 1) := by decide +kernel
theorem dX1_lies_21 : decode cX1_lies 21 = .ok (.ireturn, 1) := by decide +kernel
set_option maxRecDepth 20000 in
theorem ggX1_minutes_X1_isCarrier : GoodIn wsX1_minutes wsX1_isCarrier := goodIn_r _ [7] (by decide +kernel) (by decide +kernel)
set_option maxRecDepth 20000 in
theorem gX1_minutes_X1_isCarrier : GoodIn wsX1_minutes (wsV RX1 72 RX1 yX1_isCarrier wsX1_isCarrier) := goodIn_app (goodIn_of _ (by decide +kernel)) ggX1_minutes_X1_isCarrier
set_option maxRecDepth 20000 in
theorem ggX1_minutes_X1_secondsOf : GoodIn wsX1_minutes wsX1_secondsOf := goodIn_r _ [11, 12, 13, 14, 15, 16, 17, 18, 19, 20, 6, 21, 22, 23, 24, 25, 26, 27, 28, 29, 30, 31, 32, 33, 34, 35, 36, 37, 38, 39, 40, 41, 42, 43, 44, 45, 46, 47, 48, 49, 50, 51, 52, 53, 54, 55, 56, 57, 58, 59, 60, 61, 62, 63, 64, 65, 66, 67, 68, 69, 70, 71, 72, 73, 74, 75, 76, 77, 78, 79, 80, 81, 82, 83, 84, 85, 86, 87, 88, 89, 90, 91, 92, 93, 94] (by decide +kernel) (by decide +kernel)
set_option maxRecDepth 20000 in
theorem gX1_minutes_X1_secondsOf : GoodIn wsX1_minutes (wsV RX1 172 RX1 yX1_secondsOf wsX1_secondsOf) := goodIn_app (goodIn_of _ (by decide +kernel)) ggX1_minutes_X1_secondsOf
theorem dX1_minutes_0 : decode cX1_minutes 0 = .ok (.aload_n 0, 1) := by decide +kernel
theorem dX1_minutes_1 : decode cX1_minutes 1 = .ok (.iload_n 1, 1) := by decide +kernel
theorem dX1_minutes_2 : decode cX1_minutes 2 = .ok (.invokevirtual 72, 3) := by decide +kernel
theorem dX1_minutes_5 : decode cX1_minutes 5 = .ok (.ifCond .ne 13, 3) := by decide +kernel
theorem dX1_minutes_8 : decode cX1_minutes 8 = .ok (.new 122, 3) := by decide +kernel
theorem dX1_minutes_11 : decode cX1_minutes 11 = .ok (.dup, 1) := by decide +kernel
theorem dX1_minutes_12 : decode cX1_minutes 12 = .ok (.ldc 124, 2) := by decide +kernel
theorem dX1_minutes_14 : decode cX1_minutes 14 = .ok (.invokespecial 126, 3) := by decide +kernel
theorem dX1_minutes_17 : decode cX1_minutes 17 = .ok (.athrow, 1) := by decide +kernel
theorem dX1_minutes_18 : decode cX1_minutes 18 = .ok (.aload_n 0, 1) := by decide +kernel
theorem dX1_minutes_19 : decode cX1_minutes 19 = .ok (.iload_n 1, 1) := by decide +kernel
theorem dX1_minutes_20 : decode cX1_minutes 20 = .ok (.invokevirtual 172, 3) := by decide +kernel
theorem dX1_minutes_23 : decode cX1_minutes 23 = .ok (.bipush 60, 2) := by decide +kernel
theorem dX1_minutes_25 : decode cX1_minutes 25 = .ok (.iadd, 1) := by decide +kernel
theorem dX1_minutes_26 : decode cX1_minutes 26 = .ok (.iconst 1, 1) := by decide +kernel
theorem dX1_minutes_27 : decode cX1_minutes 27 = .ok (.isub, 1) := by decide +kernel
theorem dX1_minutes_28 : decode cX1_minutes 28 = .ok (.bipush 60, 2) := by decide +kernel
theorem dX1_minutes_30 : decode cX1_minutes 30 = .ok (.idiv, 1) := by decide +kernel
theorem dX1_minutes_31 : decode cX1_minutes 31 = .ok (.ireturn, 1) := by decide +kernel
set_option maxRecDepth 20000 in
theorem ggX1_teaching_X1_houseByHoles : GoodIn wsX1_teaching wsX1_houseByHoles := goodIn_r _ [7, 8, 9, 10, 1, 2, 11, 12, 13, 14, 15, 16, 17, 18, 19, 20, 21, 22, 23, 24, 25] (by decide +kernel) (by decide +kernel)
set_option maxRecDepth 20000 in
theorem gX1_teaching_X1_houseByHoles : GoodIn wsX1_teaching (wsV RX1 175 RX1 yX1_houseByHoles wsX1_houseByHoles) := goodIn_app (goodIn_of _ (by decide +kernel)) ggX1_teaching_X1_houseByHoles
theorem dX1_teaching_0 : decode cX1_teaching 0 = .ok (.aload_n 0, 1) := by decide +kernel
theorem dX1_teaching_1 : decode cX1_teaching 1 = .ok (.iload_n 1, 1) := by decide +kernel
theorem dX1_teaching_2 : decode cX1_teaching 2 = .ok (.invokevirtual 175, 3) := by decide +kernel
theorem dX1_teaching_5 : decode cX1_teaching 5 = .ok (.istore_n 3, 1) := by decide +kernel
theorem dX1_teaching_6 : decode cX1_teaching 6 = .ok (.iload_n 3, 1) := by decide +kernel
theorem dX1_teaching_7 : decode cX1_teaching 7 = .ok (.iconst (-1), 1) := by decide +kernel
theorem dX1_teaching_8 : decode cX1_teaching 8 = .ok (.if_icmp .ne 5, 3) := by decide +kernel
theorem dX1_teaching_11 : decode cX1_teaching 11 = .ok (.iconst (-1), 1) := by decide +kernel
theorem dX1_teaching_12 : decode cX1_teaching 12 = .ok (.ireturn, 1) := by decide +kernel
theorem dX1_teaching_13 : decode cX1_teaching 13 = .ok (.iload_n 2, 1) := by decide +kernel
theorem dX1_teaching_14 : decode cX1_teaching 14 = .ok (.tableswitch 42 0 2 #[26, 28, 35], 26) := by decide +kernel
theorem dX1_teaching_40 : decode cX1_teaching 40 = .ok (.iload_n 3, 1) := by decide +kernel
theorem dX1_teaching_41 : decode cX1_teaching 41 = .ok (.ireturn, 1) := by decide +kernel
theorem dX1_teaching_42 : decode cX1_teaching 42 = .ok (.aload_n 0, 1) := by decide +kernel
theorem dX1_teaching_43 : decode cX1_teaching 43 = .ok (.getfield 13, 3) := by decide +kernel
theorem dX1_teaching_46 : decode cX1_teaching 46 = .ok (.iload_n 3, 1) := by decide +kernel
theorem dX1_teaching_47 : decode cX1_teaching 47 = .ok (.iaload, 1) := by decide +kernel
theorem dX1_teaching_48 : decode cX1_teaching 48 = .ok (.ireturn, 1) := by decide +kernel
theorem dX1_teaching_49 : decode cX1_teaching 49 = .ok (.aload_n 0, 1) := by decide +kernel
theorem dX1_teaching_50 : decode cX1_teaching 50 = .ok (.getfield 9, 3) := by decide +kernel
theorem dX1_teaching_53 : decode cX1_teaching 53 = .ok (.iload_n 3, 1) := by decide +kernel
theorem dX1_teaching_54 : decode cX1_teaching 54 = .ok (.iaload, 1) := by decide +kernel
theorem dX1_teaching_55 : decode cX1_teaching 55 = .ok (.ireturn, 1) := by decide +kernel
theorem dX1_teaching_56 : decode cX1_teaching 56 = .ok (.bipush (-2), 2) := by decide +kernel
theorem dX1_teaching_58 : decode cX1_teaching 58 = .ok (.ireturn, 1) := by decide +kernel
set_option maxRecDepth 20000 in
theorem ggX1_count_X1_wrongOnes : GoodIn wsX1_count wsX1_wrongOnes := goodIn_r _ [13, 5, 14, 15, 16, 12, 17, 18, 19, 20, 21, 22, 23, 24, 25, 26, 27, 28, 29, 30, 69, 70, 71, 72, 73, 74, 75, 76, 77, 78, 79, 80, 81, 82, 83] (by decide +kernel) (by decide +kernel)
set_option maxRecDepth 20000 in
theorem gX1_count_X1_wrongOnes : GoodIn wsX1_count (wsV RX1 178 RX1 yX1_wrongOnes wsX1_wrongOnes) := goodIn_app (goodIn_of _ (by decide +kernel)) ggX1_count_X1_wrongOnes
set_option maxRecDepth 20000 in
theorem ggX1_count_X1_heldHouses : GoodIn wsX1_count wsX1_heldHouses := goodIn_r _ [34, 4, 35, 36, 69, 70, 71, 72, 73, 74, 75, 76, 77, 78, 79, 80, 81, 82, 83] (by decide +kernel) (by decide +kernel)
set_option maxRecDepth 20000 in
theorem gX1_count_X1_heldHouses : GoodIn wsX1_count (wsV RX1 181 RX1 yX1_heldHouses wsX1_heldHouses) := goodIn_app (goodIn_of _ (by decide +kernel)) ggX1_count_X1_heldHouses
set_option maxRecDepth 20000 in
theorem ggX1_count_X1_itemsInFrames : GoodIn wsX1_count wsX1_itemsInFrames := goodIn_r _ [40, 41, 42, 43, 44, 45, 12, 46, 5, 14, 15, 16, 17, 18, 47, 48, 49, 50, 24, 29, 8, 35, 7, 6, 51, 52, 53, 54, 55, 56, 57, 58, 59, 25, 26, 27, 28, 30, 23, 19, 20, 21, 22, 60, 61, 62, 63, 4, 36, 64, 65, 66, 67, 68, 69, 70, 71, 72, 73, 74, 75, 76, 77, 78, 79, 80, 81, 82, 83] (by decide +kernel) (by decide +kernel)
set_option maxRecDepth 20000 in
theorem gX1_count_X1_itemsInFrames : GoodIn wsX1_count (wsV RX1 118 RX1 yX1_itemsInFrames wsX1_itemsInFrames) := goodIn_app (goodIn_of _ (by decide +kernel)) ggX1_count_X1_itemsInFrames
set_option maxRecDepth 20000 in
theorem ggX1_count_X1_itemsAt : GoodIn wsX1_count wsX1_itemsAt := goodIn_r _ [46, 5, 14, 15, 16, 12, 17, 18, 47, 48, 49, 50, 24, 29, 8, 35, 7, 6, 42, 41, 51, 52, 53, 54, 55, 56, 57, 58, 59, 25, 26, 27, 28, 30, 23, 19, 20, 21, 22, 60, 61, 62, 63, 4, 36, 64, 65, 66, 67, 68, 69, 70, 71, 72, 73, 74, 75, 76, 77, 78, 79, 80, 81, 82, 83] (by decide +kernel) (by decide +kernel)
set_option maxRecDepth 20000 in
theorem gX1_count_X1_itemsAt : GoodIn wsX1_count (wsV RX1 184 RX1 yX1_itemsAt wsX1_itemsAt) := goodIn_app (goodIn_of _ (by decide +kernel)) ggX1_count_X1_itemsAt
theorem dX1_count_0 : decode cX1_count 0 = .ok (.iload_n 1, 1) := by decide +kernel
theorem dX1_count_1 : decode cX1_count 1 = .ok (.tableswitch 105 0 8 #[51, 56, 61, 66, 71, 76, 81, 89, 97], 51) := by decide +kernel
theorem dX1_count_52 : decode cX1_count 52 = .ok (.aload_n 0, 1) := by decide +kernel
theorem dX1_count_53 : decode cX1_count 53 = .ok (.getfield 63, 3) := by decide +kernel
theorem dX1_count_56 : decode cX1_count 56 = .ok (.ireturn, 1) := by decide +kernel
theorem dX1_count_57 : decode cX1_count 57 = .ok (.aload_n 0, 1) := by decide +kernel
theorem dX1_count_58 : decode cX1_count 58 = .ok (.getfield 23, 3) := by decide +kernel
theorem dX1_count_61 : decode cX1_count 61 = .ok (.ireturn, 1) := by decide +kernel
theorem dX1_count_62 : decode cX1_count 62 = .ok (.aload_n 0, 1) := by decide +kernel
theorem dX1_count_63 : decode cX1_count 63 = .ok (.getfield 42, 3) := by decide +kernel
theorem dX1_count_66 : decode cX1_count 66 = .ok (.ireturn, 1) := by decide +kernel
theorem dX1_count_67 : decode cX1_count 67 = .ok (.aload_n 0, 1) := by decide +kernel
theorem dX1_count_68 : decode cX1_count 68 = .ok (.invokevirtual 178, 3) := by decide +kernel
theorem dX1_count_71 : decode cX1_count 71 = .ok (.ireturn, 1) := by decide +kernel
theorem dX1_count_72 : decode cX1_count 72 = .ok (.aload_n 0, 1) := by decide +kernel
theorem dX1_count_73 : decode cX1_count 73 = .ok (.invokevirtual 181, 3) := by decide +kernel
theorem dX1_count_76 : decode cX1_count 76 = .ok (.ireturn, 1) := by decide +kernel
theorem dX1_count_77 : decode cX1_count 77 = .ok (.aload_n 0, 1) := by decide +kernel
theorem dX1_count_78 : decode cX1_count 78 = .ok (.invokevirtual 118, 3) := by decide +kernel
theorem dX1_count_81 : decode cX1_count 81 = .ok (.ireturn, 1) := by decide +kernel
theorem dX1_count_82 : decode cX1_count 82 = .ok (.aload_n 0, 1) := by decide +kernel
theorem dX1_count_83 : decode cX1_count 83 = .ok (.getstatic 138, 3) := by decide +kernel
theorem dX1_count_86 : decode cX1_count 86 = .ok (.invokevirtual 184, 3) := by decide +kernel
theorem dX1_count_89 : decode cX1_count 89 = .ok (.ireturn, 1) := by decide +kernel
theorem dX1_count_90 : decode cX1_count 90 = .ok (.aload_n 0, 1) := by decide +kernel
theorem dX1_count_91 : decode cX1_count 91 = .ok (.getstatic 150, 3) := by decide +kernel
theorem dX1_count_94 : decode cX1_count 94 = .ok (.invokevirtual 184, 3) := by decide +kernel
theorem dX1_count_97 : decode cX1_count 97 = .ok (.ireturn, 1) := by decide +kernel
theorem dX1_count_98 : decode cX1_count 98 = .ok (.aload_n 0, 1) := by decide +kernel
theorem dX1_count_99 : decode cX1_count 99 = .ok (.getstatic 163, 3) := by decide +kernel
theorem dX1_count_102 : decode cX1_count 102 = .ok (.invokevirtual 184, 3) := by decide +kernel
theorem dX1_count_105 : decode cX1_count 105 = .ok (.ireturn, 1) := by decide +kernel
theorem dX1_count_106 : decode cX1_count 106 = .ok (.new 133, 3) := by decide +kernel
theorem dX1_count_109 : decode cX1_count 109 = .ok (.dup, 1) := by decide +kernel
theorem dX1_count_110 : decode cX1_count 110 = .ok (.ldc 188, 2) := by decide +kernel
theorem dX1_count_112 : decode cX1_count 112 = .ok (.invokespecial 137, 3) := by decide +kernel
theorem dX1_count_115 : decode cX1_count 115 = .ok (.athrow, 1) := by decide +kernel
theorem dX1_isCarrier_0 : decode cX1_isCarrier 0 = .ok (.iload_n 1, 1) := by decide +kernel
theorem dX1_isCarrier_1 : decode cX1_isCarrier 1 = .ok (.ifCond .lt 12, 3) := by decide +kernel
theorem dX1_isCarrier_4 : decode cX1_isCarrier 4 = .ok (.iload_n 1, 1) := by decide +kernel
theorem dX1_isCarrier_5 : decode cX1_isCarrier 5 = .ok (.iconst 4, 1) := by decide +kernel
theorem dX1_isCarrier_6 : decode cX1_isCarrier 6 = .ok (.if_icmp .ge 7, 3) := by decide +kernel
theorem dX1_isCarrier_9 : decode cX1_isCarrier 9 = .ok (.iconst 1, 1) := by decide +kernel
theorem dX1_isCarrier_10 : decode cX1_isCarrier 10 = .ok (.goto 4, 3) := by decide +kernel
theorem dX1_isCarrier_13 : decode cX1_isCarrier 13 = .ok (.iconst 0, 1) := by decide +kernel
theorem dX1_isCarrier_14 : decode cX1_isCarrier 14 = .ok (.ireturn, 1) := by decide +kernel
theorem dX1_isNumber_0 : decode cX1_isNumber 0 = .ok (.iload_n 1, 1) := by decide +kernel
theorem dX1_isNumber_1 : decode cX1_isNumber 1 = .ok (.ifCond .lt 14, 3) := by decide +kernel
theorem dX1_isNumber_4 : decode cX1_isNumber 4 = .ok (.iload_n 1, 1) := by decide +kernel
theorem dX1_isNumber_5 : decode cX1_isNumber 5 = .ok (.sipush 200, 3) := by decide +kernel
theorem dX1_isNumber_8 : decode cX1_isNumber 8 = .ok (.if_icmp .ge 7, 3) := by decide +kernel
theorem dX1_isNumber_11 : decode cX1_isNumber 11 = .ok (.iconst 1, 1) := by decide +kernel
theorem dX1_isNumber_12 : decode cX1_isNumber 12 = .ok (.goto 4, 3) := by decide +kernel
theorem dX1_isNumber_15 : decode cX1_isNumber 15 = .ok (.iconst 0, 1) := by decide +kernel
theorem dX1_isNumber_16 : decode cX1_isNumber 16 = .ok (.ireturn, 1) := by decide +kernel
set_option maxRecDepth 20000 in
theorem ggX1_isHouse_X1_isNumber : GoodIn wsX1_isHouse wsX1_isNumber := goodIn_r _ [6] (by decide +kernel) (by decide +kernel)
set_option maxRecDepth 20000 in
theorem gX1_isHouse_X1_isNumber : GoodIn wsX1_isHouse (wsV RX1 76 RX1 yX1_isNumber wsX1_isNumber) := goodIn_app (goodIn_of _ (by decide +kernel)) ggX1_isHouse_X1_isNumber
theorem dX1_isHouse_0 : decode cX1_isHouse 0 = .ok (.aload_n 0, 1) := by decide +kernel
theorem dX1_isHouse_1 : decode cX1_isHouse 1 = .ok (.iload_n 1, 1) := by decide +kernel
theorem dX1_isHouse_2 : decode cX1_isHouse 2 = .ok (.invokevirtual 76, 3) := by decide +kernel
theorem dX1_isHouse_5 : decode cX1_isHouse 5 = .ok (.ifCond .eq 17, 3) := by decide +kernel
theorem dX1_isHouse_8 : decode cX1_isHouse 8 = .ok (.aload_n 0, 1) := by decide +kernel
theorem dX1_isHouse_9 : decode cX1_isHouse 9 = .ok (.getfield 9, 3) := by decide +kernel
theorem dX1_isHouse_12 : decode cX1_isHouse 12 = .ok (.iload_n 1, 1) := by decide +kernel
theorem dX1_isHouse_13 : decode cX1_isHouse 13 = .ok (.iaload, 1) := by decide +kernel
theorem dX1_isHouse_14 : decode cX1_isHouse 14 = .ok (.iconst (-1), 1) := by decide +kernel
theorem dX1_isHouse_15 : decode cX1_isHouse 15 = .ok (.if_icmp .eq 7, 3) := by decide +kernel
theorem dX1_isHouse_18 : decode cX1_isHouse 18 = .ok (.iconst 1, 1) := by decide +kernel
theorem dX1_isHouse_19 : decode cX1_isHouse 19 = .ok (.goto 4, 3) := by decide +kernel
theorem dX1_isHouse_22 : decode cX1_isHouse 22 = .ok (.iconst 0, 1) := by decide +kernel
theorem dX1_isHouse_23 : decode cX1_isHouse 23 = .ok (.ireturn, 1) := by decide +kernel
theorem dX1_isHole_0 : decode cX1_isHole 0 = .ok (.iload_n 1, 1) := by decide +kernel
theorem dX1_isHole_1 : decode cX1_isHole 1 = .ok (.ifCond .lt 15, 3) := by decide +kernel
theorem dX1_isHole_4 : decode cX1_isHole 4 = .ok (.iload_n 1, 1) := by decide +kernel
theorem dX1_isHole_5 : decode cX1_isHole 5 = .ok (.aload_n 0, 1) := by decide +kernel
theorem dX1_isHole_6 : decode cX1_isHole 6 = .ok (.getfield 63, 3) := by decide +kernel
theorem dX1_isHole_9 : decode cX1_isHole 9 = .ok (.if_icmp .ge 7, 3) := by decide +kernel
theorem dX1_isHole_12 : decode cX1_isHole 12 = .ok (.iconst 1, 1) := by decide +kernel
theorem dX1_isHole_13 : decode cX1_isHole 13 = .ok (.goto 4, 3) := by decide +kernel
theorem dX1_isHole_16 : decode cX1_isHole 16 = .ok (.iconst 0, 1) := by decide +kernel
theorem dX1_isHole_17 : decode cX1_isHole 17 = .ok (.ireturn, 1) := by decide +kernel
theorem dX1_isItem_0 : decode cX1_isItem 0 = .ok (.iload_n 1, 1) := by decide +kernel
theorem dX1_isItem_1 : decode cX1_isItem 1 = .ok (.ifCond .lt 15, 3) := by decide +kernel
theorem dX1_isItem_4 : decode cX1_isItem 4 = .ok (.iload_n 1, 1) := by decide +kernel
theorem dX1_isItem_5 : decode cX1_isItem 5 = .ok (.aload_n 0, 1) := by decide +kernel
theorem dX1_isItem_6 : decode cX1_isItem 6 = .ok (.getfield 42, 3) := by decide +kernel
theorem dX1_isItem_9 : decode cX1_isItem 9 = .ok (.if_icmp .ge 7, 3) := by decide +kernel
theorem dX1_isItem_12 : decode cX1_isItem 12 = .ok (.iconst 1, 1) := by decide +kernel
theorem dX1_isItem_13 : decode cX1_isItem 13 = .ok (.goto 4, 3) := by decide +kernel
theorem dX1_isItem_16 : decode cX1_isItem 16 = .ok (.iconst 0, 1) := by decide +kernel
theorem dX1_isItem_17 : decode cX1_isItem 17 = .ok (.ireturn, 1) := by decide +kernel
theorem dX1_lengthOfRound_0 : decode cX1_lengthOfRound 0 = .ok (.iconst 0, 1) := by decide +kernel
theorem dX1_lengthOfRound_1 : decode cX1_lengthOfRound 1 = .ok (.istore_n 2, 1) := by decide +kernel
theorem dX1_lengthOfRound_2 : decode cX1_lengthOfRound 2 = .ok (.iconst 0, 1) := by decide +kernel
theorem dX1_lengthOfRound_3 : decode cX1_lengthOfRound 3 = .ok (.istore_n 3, 1) := by decide +kernel
theorem dX1_lengthOfRound_4 : decode cX1_lengthOfRound 4 = .ok (.iload_n 3, 1) := by decide +kernel
theorem dX1_lengthOfRound_5 : decode cX1_lengthOfRound 5 = .ok (.aload_n 0, 1) := by decide +kernel
theorem dX1_lengthOfRound_6 : decode cX1_lengthOfRound 6 = .ok (.getfield 23, 3) := by decide +kernel
theorem dX1_lengthOfRound_9 : decode cX1_lengthOfRound 9 = .ok (.if_icmp .ge 27, 3) := by decide +kernel
theorem dX1_lengthOfRound_12 : decode cX1_lengthOfRound 12 = .ok (.aload_n 0, 1) := by decide +kernel
theorem dX1_lengthOfRound_13 : decode cX1_lengthOfRound 13 = .ok (.getfield 9, 3) := by decide +kernel
theorem dX1_lengthOfRound_16 : decode cX1_lengthOfRound 16 = .ok (.aload_n 0, 1) := by decide +kernel
theorem dX1_lengthOfRound_17 : decode cX1_lengthOfRound 17 = .ok (.getfield 20, 3) := by decide +kernel
theorem dX1_lengthOfRound_20 : decode cX1_lengthOfRound 20 = .ok (.iload_n 3, 1) := by decide +kernel
theorem dX1_lengthOfRound_21 : decode cX1_lengthOfRound 21 = .ok (.iaload, 1) := by decide +kernel
theorem dX1_lengthOfRound_22 : decode cX1_lengthOfRound 22 = .ok (.iaload, 1) := by decide +kernel
theorem dX1_lengthOfRound_23 : decode cX1_lengthOfRound 23 = .ok (.iload_n 1, 1) := by decide +kernel
theorem dX1_lengthOfRound_24 : decode cX1_lengthOfRound 24 = .ok (.if_icmp .ne 6, 3) := by decide +kernel
theorem dX1_lengthOfRound_27 : decode cX1_lengthOfRound 27 = .ok (.iinc 2 1, 3) := by decide +kernel
theorem dX1_lengthOfRound_30 : decode cX1_lengthOfRound 30 = .ok (.iinc 3 1, 3) := by decide +kernel
theorem dX1_lengthOfRound_33 : decode cX1_lengthOfRound 33 = .ok (.goto (-29), 3) := by decide +kernel
theorem dX1_lengthOfRound_36 : decode cX1_lengthOfRound 36 = .ok (.iload_n 2, 1) := by decide +kernel
theorem dX1_lengthOfRound_37 : decode cX1_lengthOfRound 37 = .ok (.ireturn, 1) := by decide +kernel
theorem dX1_housesAt_0 : decode cX1_housesAt 0 = .ok (.iconst 0, 1) := by decide +kernel
theorem dX1_housesAt_1 : decode cX1_housesAt 1 = .ok (.istore_n 2, 1) := by decide +kernel
theorem dX1_housesAt_2 : decode cX1_housesAt 2 = .ok (.iconst 0, 1) := by decide +kernel
theorem dX1_housesAt_3 : decode cX1_housesAt 3 = .ok (.istore_n 3, 1) := by decide +kernel
theorem dX1_housesAt_4 : decode cX1_housesAt 4 = .ok (.iload_n 3, 1) := by decide +kernel
theorem dX1_housesAt_5 : decode cX1_housesAt 5 = .ok (.aload_n 0, 1) := by decide +kernel
theorem dX1_housesAt_6 : decode cX1_housesAt 6 = .ok (.getfield 23, 3) := by decide +kernel
theorem dX1_housesAt_9 : decode cX1_housesAt 9 = .ok (.if_icmp .ge 27, 3) := by decide +kernel
theorem dX1_housesAt_12 : decode cX1_housesAt 12 = .ok (.aload_n 0, 1) := by decide +kernel
theorem dX1_housesAt_13 : decode cX1_housesAt 13 = .ok (.getfield 13, 3) := by decide +kernel
theorem dX1_housesAt_16 : decode cX1_housesAt 16 = .ok (.aload_n 0, 1) := by decide +kernel
theorem dX1_housesAt_17 : decode cX1_housesAt 17 = .ok (.getfield 20, 3) := by decide +kernel
theorem dX1_housesAt_20 : decode cX1_housesAt 20 = .ok (.iload_n 3, 1) := by decide +kernel
theorem dX1_housesAt_21 : decode cX1_housesAt 21 = .ok (.iaload, 1) := by decide +kernel
theorem dX1_housesAt_22 : decode cX1_housesAt 22 = .ok (.iaload, 1) := by decide +kernel
theorem dX1_housesAt_23 : decode cX1_housesAt 23 = .ok (.iload_n 1, 1) := by decide +kernel
theorem dX1_housesAt_24 : decode cX1_housesAt 24 = .ok (.if_icmp .ne 6, 3) := by decide +kernel
theorem dX1_housesAt_27 : decode cX1_housesAt 27 = .ok (.iinc 2 1, 3) := by decide +kernel
theorem dX1_housesAt_30 : decode cX1_housesAt 30 = .ok (.iinc 3 1, 3) := by decide +kernel
theorem dX1_housesAt_33 : decode cX1_housesAt 33 = .ok (.goto (-29), 3) := by decide +kernel
theorem dX1_housesAt_36 : decode cX1_housesAt 36 = .ok (.iload_n 2, 1) := by decide +kernel
theorem dX1_housesAt_37 : decode cX1_housesAt 37 = .ok (.ireturn, 1) := by decide +kernel
theorem dX1_leastCarrierAt_0 : decode cX1_leastCarrierAt 0 = .ok (.iconst (-1), 1) := by decide +kernel
theorem dX1_leastCarrierAt_1 : decode cX1_leastCarrierAt 1 = .ok (.istore_n 2, 1) := by decide +kernel
theorem dX1_leastCarrierAt_2 : decode cX1_leastCarrierAt 2 = .ok (.iconst 0, 1) := by decide +kernel
theorem dX1_leastCarrierAt_3 : decode cX1_leastCarrierAt 3 = .ok (.istore_n 3, 1) := by decide +kernel
theorem dX1_leastCarrierAt_4 : decode cX1_leastCarrierAt 4 = .ok (.iload_n 3, 1) := by decide +kernel
theorem dX1_leastCarrierAt_5 : decode cX1_leastCarrierAt 5 = .ok (.aload_n 0, 1) := by decide +kernel
theorem dX1_leastCarrierAt_6 : decode cX1_leastCarrierAt 6 = .ok (.getfield 23, 3) := by decide +kernel
theorem dX1_leastCarrierAt_9 : decode cX1_leastCarrierAt 9 = .ok (.if_icmp .ge 52, 3) := by decide +kernel
theorem dX1_leastCarrierAt_12 : decode cX1_leastCarrierAt 12 = .ok (.aload_n 0, 1) := by decide +kernel
theorem dX1_leastCarrierAt_13 : decode cX1_leastCarrierAt 13 = .ok (.getfield 20, 3) := by decide +kernel
theorem dX1_leastCarrierAt_16 : decode cX1_leastCarrierAt 16 = .ok (.iload_n 3, 1) := by decide +kernel
theorem dX1_leastCarrierAt_17 : decode cX1_leastCarrierAt 17 = .ok (.iaload, 1) := by decide +kernel
theorem dX1_leastCarrierAt_18 : decode cX1_leastCarrierAt 18 = .ok (.istore 4, 2) := by decide +kernel
theorem dX1_leastCarrierAt_20 : decode cX1_leastCarrierAt 20 = .ok (.aload_n 0, 1) := by decide +kernel
theorem dX1_leastCarrierAt_21 : decode cX1_leastCarrierAt 21 = .ok (.getfield 13, 3) := by decide +kernel
theorem dX1_leastCarrierAt_24 : decode cX1_leastCarrierAt 24 = .ok (.iload 4, 2) := by decide +kernel
theorem dX1_leastCarrierAt_26 : decode cX1_leastCarrierAt 26 = .ok (.iaload, 1) := by decide +kernel
theorem dX1_leastCarrierAt_27 : decode cX1_leastCarrierAt 27 = .ok (.iload_n 1, 1) := by decide +kernel
theorem dX1_leastCarrierAt_28 : decode cX1_leastCarrierAt 28 = .ok (.if_icmp .ne 27, 3) := by decide +kernel
theorem dX1_leastCarrierAt_31 : decode cX1_leastCarrierAt 31 = .ok (.iload_n 2, 1) := by decide +kernel
theorem dX1_leastCarrierAt_32 : decode cX1_leastCarrierAt 32 = .ok (.iconst (-1), 1) := by decide +kernel
theorem dX1_leastCarrierAt_33 : decode cX1_leastCarrierAt 33 = .ok (.if_icmp .eq 14, 3) := by decide +kernel
theorem dX1_leastCarrierAt_36 : decode cX1_leastCarrierAt 36 = .ok (.aload_n 0, 1) := by decide +kernel
theorem dX1_leastCarrierAt_37 : decode cX1_leastCarrierAt 37 = .ok (.getfield 9, 3) := by decide +kernel
theorem dX1_leastCarrierAt_40 : decode cX1_leastCarrierAt 40 = .ok (.iload 4, 2) := by decide +kernel
theorem dX1_leastCarrierAt_42 : decode cX1_leastCarrierAt 42 = .ok (.iaload, 1) := by decide +kernel
theorem dX1_leastCarrierAt_43 : decode cX1_leastCarrierAt 43 = .ok (.iload_n 2, 1) := by decide +kernel
theorem dX1_leastCarrierAt_44 : decode cX1_leastCarrierAt 44 = .ok (.if_icmp .ge 11, 3) := by decide +kernel
theorem dX1_leastCarrierAt_47 : decode cX1_leastCarrierAt 47 = .ok (.aload_n 0, 1) := by decide +kernel
theorem dX1_leastCarrierAt_48 : decode cX1_leastCarrierAt 48 = .ok (.getfield 9, 3) := by decide +kernel
theorem dX1_leastCarrierAt_51 : decode cX1_leastCarrierAt 51 = .ok (.iload 4, 2) := by decide +kernel
theorem dX1_leastCarrierAt_53 : decode cX1_leastCarrierAt 53 = .ok (.iaload, 1) := by decide +kernel
theorem dX1_leastCarrierAt_54 : decode cX1_leastCarrierAt 54 = .ok (.istore_n 2, 1) := by decide +kernel
theorem dX1_leastCarrierAt_55 : decode cX1_leastCarrierAt 55 = .ok (.iinc 3 1, 3) := by decide +kernel
theorem dX1_leastCarrierAt_58 : decode cX1_leastCarrierAt 58 = .ok (.goto (-54), 3) := by decide +kernel
theorem dX1_leastCarrierAt_61 : decode cX1_leastCarrierAt 61 = .ok (.iload_n 2, 1) := by decide +kernel
theorem dX1_leastCarrierAt_62 : decode cX1_leastCarrierAt 62 = .ok (.ireturn, 1) := by decide +kernel
theorem dX1_houseByHoles_0 : decode cX1_houseByHoles 0 = .ok (.iconst 0, 1) := by decide +kernel
theorem dX1_houseByHoles_1 : decode cX1_houseByHoles 1 = .ok (.istore_n 2, 1) := by decide +kernel
theorem dX1_houseByHoles_2 : decode cX1_houseByHoles 2 = .ok (.iconst 0, 1) := by decide +kernel
theorem dX1_houseByHoles_3 : decode cX1_houseByHoles 3 = .ok (.istore_n 3, 1) := by decide +kernel
theorem dX1_houseByHoles_4 : decode cX1_houseByHoles 4 = .ok (.iload_n 3, 1) := by decide +kernel
theorem dX1_houseByHoles_5 : decode cX1_houseByHoles 5 = .ok (.aload_n 0, 1) := by decide +kernel
theorem dX1_houseByHoles_6 : decode cX1_houseByHoles 6 = .ok (.getfield 63, 3) := by decide +kernel
theorem dX1_houseByHoles_9 : decode cX1_houseByHoles 9 = .ok (.if_icmp .ge 85, 3) := by decide +kernel
theorem dX1_houseByHoles_12 : decode cX1_houseByHoles 12 = .ok (.iconst 0, 1) := by decide +kernel
theorem dX1_houseByHoles_13 : decode cX1_houseByHoles 13 = .ok (.istore 4, 2) := by decide +kernel
theorem dX1_houseByHoles_15 : decode cX1_houseByHoles 15 = .ok (.iload 4, 2) := by decide +kernel
theorem dX1_houseByHoles_17 : decode cX1_houseByHoles 17 = .ok (.iconst 4, 1) := by decide +kernel
theorem dX1_houseByHoles_18 : decode cX1_houseByHoles 18 = .ok (.if_icmp .ge 70, 3) := by decide +kernel
theorem dX1_houseByHoles_21 : decode cX1_houseByHoles 21 = .ok (.iconst 0, 1) := by decide +kernel
theorem dX1_houseByHoles_22 : decode cX1_houseByHoles 22 = .ok (.istore 5, 2) := by decide +kernel
theorem dX1_houseByHoles_24 : decode cX1_houseByHoles 24 = .ok (.iload 5, 2) := by decide +kernel
theorem dX1_houseByHoles_26 : decode cX1_houseByHoles 26 = .ok (.aload_n 0, 1) := by decide +kernel
theorem dX1_houseByHoles_27 : decode cX1_houseByHoles 27 = .ok (.getfield 23, 3) := by decide +kernel
theorem dX1_houseByHoles_30 : decode cX1_houseByHoles 30 = .ok (.if_icmp .ge 52, 3) := by decide +kernel
theorem dX1_houseByHoles_33 : decode cX1_houseByHoles 33 = .ok (.aload_n 0, 1) := by decide +kernel
theorem dX1_houseByHoles_34 : decode cX1_houseByHoles 34 = .ok (.getfield 20, 3) := by decide +kernel
theorem dX1_houseByHoles_37 : decode cX1_houseByHoles 37 = .ok (.iload 5, 2) := by decide +kernel
theorem dX1_houseByHoles_39 : decode cX1_houseByHoles 39 = .ok (.iaload, 1) := by decide +kernel
theorem dX1_houseByHoles_40 : decode cX1_houseByHoles 40 = .ok (.istore 6, 2) := by decide +kernel
theorem dX1_houseByHoles_42 : decode cX1_houseByHoles 42 = .ok (.aload_n 0, 1) := by decide +kernel
theorem dX1_houseByHoles_43 : decode cX1_houseByHoles 43 = .ok (.getfield 13, 3) := by decide +kernel
theorem dX1_houseByHoles_46 : decode cX1_houseByHoles 46 = .ok (.iload 6, 2) := by decide +kernel
theorem dX1_houseByHoles_48 : decode cX1_houseByHoles 48 = .ok (.iaload, 1) := by decide +kernel
theorem dX1_houseByHoles_49 : decode cX1_houseByHoles 49 = .ok (.iload_n 3, 1) := by decide +kernel
theorem dX1_houseByHoles_50 : decode cX1_houseByHoles 50 = .ok (.if_icmp .ne 26, 3) := by decide +kernel
theorem dX1_houseByHoles_53 : decode cX1_houseByHoles 53 = .ok (.aload_n 0, 1) := by decide +kernel
theorem dX1_houseByHoles_54 : decode cX1_houseByHoles 54 = .ok (.getfield 9, 3) := by decide +kernel
theorem dX1_houseByHoles_57 : decode cX1_houseByHoles 57 = .ok (.iload 6, 2) := by decide +kernel
theorem dX1_houseByHoles_59 : decode cX1_houseByHoles 59 = .ok (.iaload, 1) := by decide +kernel
theorem dX1_houseByHoles_60 : decode cX1_houseByHoles 60 = .ok (.iload 4, 2) := by decide +kernel
theorem dX1_houseByHoles_62 : decode cX1_houseByHoles 62 = .ok (.if_icmp .ne 14, 3) := by decide +kernel
theorem dX1_houseByHoles_65 : decode cX1_houseByHoles 65 = .ok (.iload_n 2, 1) := by decide +kernel
theorem dX1_houseByHoles_66 : decode cX1_houseByHoles 66 = .ok (.iload_n 1, 1) := by decide +kernel
theorem dX1_houseByHoles_67 : decode cX1_houseByHoles 67 = .ok (.if_icmp .ne 6, 3) := by decide +kernel
theorem dX1_houseByHoles_70 : decode cX1_houseByHoles 70 = .ok (.iload 6, 2) := by decide +kernel
theorem dX1_houseByHoles_72 : decode cX1_houseByHoles 72 = .ok (.ireturn, 1) := by decide +kernel
theorem dX1_houseByHoles_73 : decode cX1_houseByHoles 73 = .ok (.iinc 2 1, 3) := by decide +kernel
theorem dX1_houseByHoles_76 : decode cX1_houseByHoles 76 = .ok (.iinc 5 1, 3) := by decide +kernel
theorem dX1_houseByHoles_79 : decode cX1_houseByHoles 79 = .ok (.goto (-55), 3) := by decide +kernel
theorem dX1_houseByHoles_82 : decode cX1_houseByHoles 82 = .ok (.iinc 4 1, 3) := by decide +kernel
theorem dX1_houseByHoles_85 : decode cX1_houseByHoles 85 = .ok (.goto (-70), 3) := by decide +kernel
theorem dX1_houseByHoles_88 : decode cX1_houseByHoles 88 = .ok (.iinc 3 1, 3) := by decide +kernel
theorem dX1_houseByHoles_91 : decode cX1_houseByHoles 91 = .ok (.goto (-87), 3) := by decide +kernel
theorem dX1_houseByHoles_94 : decode cX1_houseByHoles 94 = .ok (.iconst (-1), 1) := by decide +kernel
theorem dX1_houseByHoles_95 : decode cX1_houseByHoles 95 = .ok (.ireturn, 1) := by decide +kernel
theorem dX1_heldHouses_0 : decode cX1_heldHouses 0 = .ok (.iconst 0, 1) := by decide +kernel
theorem dX1_heldHouses_1 : decode cX1_heldHouses 1 = .ok (.istore_n 1, 1) := by decide +kernel
theorem dX1_heldHouses_2 : decode cX1_heldHouses 2 = .ok (.iconst 0, 1) := by decide +kernel
theorem dX1_heldHouses_3 : decode cX1_heldHouses 3 = .ok (.istore_n 2, 1) := by decide +kernel
theorem dX1_heldHouses_4 : decode cX1_heldHouses 4 = .ok (.iload_n 2, 1) := by decide +kernel
theorem dX1_heldHouses_5 : decode cX1_heldHouses 5 = .ok (.aload_n 0, 1) := by decide +kernel
theorem dX1_heldHouses_6 : decode cX1_heldHouses 6 = .ok (.getfield 23, 3) := by decide +kernel
theorem dX1_heldHouses_9 : decode cX1_heldHouses 9 = .ok (.if_icmp .ge 26, 3) := by decide +kernel
theorem dX1_heldHouses_12 : decode cX1_heldHouses 12 = .ok (.aload_n 0, 1) := by decide +kernel
theorem dX1_heldHouses_13 : decode cX1_heldHouses 13 = .ok (.getfield 16, 3) := by decide +kernel
theorem dX1_heldHouses_16 : decode cX1_heldHouses 16 = .ok (.aload_n 0, 1) := by decide +kernel
theorem dX1_heldHouses_17 : decode cX1_heldHouses 17 = .ok (.getfield 20, 3) := by decide +kernel
theorem dX1_heldHouses_20 : decode cX1_heldHouses 20 = .ok (.iload_n 2, 1) := by decide +kernel
theorem dX1_heldHouses_21 : decode cX1_heldHouses 21 = .ok (.iaload, 1) := by decide +kernel
theorem dX1_heldHouses_22 : decode cX1_heldHouses 22 = .ok (.baload, 1) := by decide +kernel
theorem dX1_heldHouses_23 : decode cX1_heldHouses 23 = .ok (.ifCond .eq 6, 3) := by decide +kernel
theorem dX1_heldHouses_26 : decode cX1_heldHouses 26 = .ok (.iinc 1 1, 3) := by decide +kernel
theorem dX1_heldHouses_29 : decode cX1_heldHouses 29 = .ok (.iinc 2 1, 3) := by decide +kernel
theorem dX1_heldHouses_32 : decode cX1_heldHouses 32 = .ok (.goto (-28), 3) := by decide +kernel
theorem dX1_heldHouses_35 : decode cX1_heldHouses 35 = .ok (.iload_n 1, 1) := by decide +kernel
theorem dX1_heldHouses_36 : decode cX1_heldHouses 36 = .ok (.ireturn, 1) := by decide +kernel
theorem dX1_leads_0 : decode cX1_leads 0 = .ok (.aload_n 0, 1) := by decide +kernel
theorem dX1_leads_1 : decode cX1_leads 1 = .ok (.getfield 36, 3) := by decide +kernel
theorem dX1_leads_4 : decode cX1_leads 4 = .ok (.iload_n 1, 1) := by decide +kernel
theorem dX1_leads_5 : decode cX1_leads 5 = .ok (.iaload, 1) := by decide +kernel
theorem dX1_leads_6 : decode cX1_leads 6 = .ok (.iconst (-1), 1) := by decide +kernel
theorem dX1_leads_7 : decode cX1_leads 7 = .ok (.if_icmp .ne 7, 3) := by decide +kernel
theorem dX1_leads_10 : decode cX1_leads 10 = .ok (.iconst 1, 1) := by decide +kernel
theorem dX1_leads_11 : decode cX1_leads 11 = .ok (.goto 4, 3) := by decide +kernel
theorem dX1_leads_14 : decode cX1_leads 14 = .ok (.iconst 0, 1) := by decide +kernel
theorem dX1_leads_15 : decode cX1_leads 15 = .ok (.ireturn, 1) := by decide +kernel
theorem dX1_leadOf_0 : decode cX1_leadOf 0 = .ok (.iload_n 1, 1) := by decide +kernel
theorem dX1_leadOf_1 : decode cX1_leadOf 1 = .ok (.istore_n 2, 1) := by decide +kernel
theorem dX1_leadOf_2 : decode cX1_leadOf 2 = .ok (.iconst 0, 1) := by decide +kernel
theorem dX1_leadOf_3 : decode cX1_leadOf 3 = .ok (.istore_n 3, 1) := by decide +kernel
theorem dX1_leadOf_4 : decode cX1_leadOf 4 = .ok (.iload_n 3, 1) := by decide +kernel
theorem dX1_leadOf_5 : decode cX1_leadOf 5 = .ok (.sipush 250, 3) := by decide +kernel
theorem dX1_leadOf_8 : decode cX1_leadOf 8 = .ok (.if_icmp .ge 26, 3) := by decide +kernel
theorem dX1_leadOf_11 : decode cX1_leadOf 11 = .ok (.aload_n 0, 1) := by decide +kernel
theorem dX1_leadOf_12 : decode cX1_leadOf 12 = .ok (.getfield 36, 3) := by decide +kernel
theorem dX1_leadOf_15 : decode cX1_leadOf 15 = .ok (.iload_n 2, 1) := by decide +kernel
theorem dX1_leadOf_16 : decode cX1_leadOf 16 = .ok (.iaload, 1) := by decide +kernel
theorem dX1_leadOf_17 : decode cX1_leadOf 17 = .ok (.iconst (-1), 1) := by decide +kernel
theorem dX1_leadOf_18 : decode cX1_leadOf 18 = .ok (.if_icmp .eq 16, 3) := by decide +kernel
theorem dX1_leadOf_21 : decode cX1_leadOf 21 = .ok (.aload_n 0, 1) := by decide +kernel
theorem dX1_leadOf_22 : decode cX1_leadOf 22 = .ok (.getfield 36, 3) := by decide +kernel
theorem dX1_leadOf_25 : decode cX1_leadOf 25 = .ok (.iload_n 2, 1) := by decide +kernel
theorem dX1_leadOf_26 : decode cX1_leadOf 26 = .ok (.iaload, 1) := by decide +kernel
theorem dX1_leadOf_27 : decode cX1_leadOf 27 = .ok (.istore_n 2, 1) := by decide +kernel
theorem dX1_leadOf_28 : decode cX1_leadOf 28 = .ok (.iinc 3 1, 3) := by decide +kernel
theorem dX1_leadOf_31 : decode cX1_leadOf 31 = .ok (.goto (-27), 3) := by decide +kernel
theorem dX1_leadOf_34 : decode cX1_leadOf 34 = .ok (.iload_n 2, 1) := by decide +kernel
theorem dX1_leadOf_35 : decode cX1_leadOf 35 = .ok (.ireturn, 1) := by decide +kernel
theorem dX1_sizeOfBundle_0 : decode cX1_sizeOfBundle 0 = .ok (.iconst 0, 1) := by decide +kernel
theorem dX1_sizeOfBundle_1 : decode cX1_sizeOfBundle 1 = .ok (.istore_n 2, 1) := by decide +kernel
theorem dX1_sizeOfBundle_2 : decode cX1_sizeOfBundle 2 = .ok (.iload_n 1, 1) := by decide +kernel
theorem dX1_sizeOfBundle_3 : decode cX1_sizeOfBundle 3 = .ok (.istore_n 3, 1) := by decide +kernel
theorem dX1_sizeOfBundle_4 : decode cX1_sizeOfBundle 4 = .ok (.iload_n 3, 1) := by decide +kernel
theorem dX1_sizeOfBundle_5 : decode cX1_sizeOfBundle 5 = .ok (.iconst (-1), 1) := by decide +kernel
theorem dX1_sizeOfBundle_6 : decode cX1_sizeOfBundle 6 = .ok (.if_icmp .eq 23, 3) := by decide +kernel
theorem dX1_sizeOfBundle_9 : decode cX1_sizeOfBundle 9 = .ok (.iload_n 2, 1) := by decide +kernel
theorem dX1_sizeOfBundle_10 : decode cX1_sizeOfBundle 10 = .ok (.sipush 250, 3) := by decide +kernel
theorem dX1_sizeOfBundle_13 : decode cX1_sizeOfBundle 13 = .ok (.if_icmp .ge 16, 3) := by decide +kernel
theorem dX1_sizeOfBundle_16 : decode cX1_sizeOfBundle 16 = .ok (.iinc 2 1, 3) := by decide +kernel
theorem dX1_sizeOfBundle_19 : decode cX1_sizeOfBundle 19 = .ok (.aload_n 0, 1) := by decide +kernel
theorem dX1_sizeOfBundle_20 : decode cX1_sizeOfBundle 20 = .ok (.getfield 39, 3) := by decide +kernel
theorem dX1_sizeOfBundle_23 : decode cX1_sizeOfBundle 23 = .ok (.iload_n 3, 1) := by decide +kernel
theorem dX1_sizeOfBundle_24 : decode cX1_sizeOfBundle 24 = .ok (.iaload, 1) := by decide +kernel
theorem dX1_sizeOfBundle_25 : decode cX1_sizeOfBundle 25 = .ok (.istore_n 3, 1) := by decide +kernel
theorem dX1_sizeOfBundle_26 : decode cX1_sizeOfBundle 26 = .ok (.goto (-22), 3) := by decide +kernel
theorem dX1_sizeOfBundle_29 : decode cX1_sizeOfBundle 29 = .ok (.iload_n 2, 1) := by decide +kernel
theorem dX1_sizeOfBundle_30 : decode cX1_sizeOfBundle 30 = .ok (.ireturn, 1) := by decide +kernel
set_option maxRecDepth 20000 in
theorem ggX1_mayBundle_X1_leads : GoodIn wsX1_mayBundle wsX1_leads := goodIn_r _ [7, 8, 13, 14, 15, 16, 17, 18, 19, 20, 21, 22, 23, 24, 25, 26, 27] (by decide +kernel) (by decide +kernel)
set_option maxRecDepth 20000 in
theorem gX1_mayBundle_X1_leads : GoodIn wsX1_mayBundle (wsV RX1 105 RX1 yX1_leads wsX1_leads) := goodIn_app (goodIn_of _ (by decide +kernel)) ggX1_mayBundle_X1_leads
set_option maxRecDepth 20000 in
theorem ggX1_mayBundle_X1_leadOf : GoodIn wsX1_mayBundle wsX1_leadOf := goodIn_r _ [12, 8, 13, 14, 15, 16, 17, 18, 19, 20, 21, 22, 23, 24, 25, 26, 27] (by decide +kernel) (by decide +kernel)
set_option maxRecDepth 20000 in
theorem gX1_mayBundle_X1_leadOf : GoodIn wsX1_mayBundle (wsV RX1 99 RX1 yX1_leadOf wsX1_leadOf) := goodIn_app (goodIn_of _ (by decide +kernel)) ggX1_mayBundle_X1_leadOf
theorem dX1_mayBundle_0 : decode cX1_mayBundle 0 = .ok (.aload_n 0, 1) := by decide +kernel
theorem dX1_mayBundle_1 : decode cX1_mayBundle 1 = .ok (.getfield 30, 3) := by decide +kernel
theorem dX1_mayBundle_4 : decode cX1_mayBundle 4 = .ok (.iload_n 1, 1) := by decide +kernel
theorem dX1_mayBundle_5 : decode cX1_mayBundle 5 = .ok (.iaload, 1) := by decide +kernel
theorem dX1_mayBundle_6 : decode cX1_mayBundle 6 = .ok (.iconst 2, 1) := by decide +kernel
theorem dX1_mayBundle_7 : decode cX1_mayBundle 7 = .ok (.if_icmp .eq 44, 3) := by decide +kernel
theorem dX1_mayBundle_10 : decode cX1_mayBundle 10 = .ok (.aload_n 0, 1) := by decide +kernel
theorem dX1_mayBundle_11 : decode cX1_mayBundle 11 = .ok (.getfield 30, 3) := by decide +kernel
theorem dX1_mayBundle_14 : decode cX1_mayBundle 14 = .ok (.iload_n 2, 1) := by decide +kernel
theorem dX1_mayBundle_15 : decode cX1_mayBundle 15 = .ok (.iaload, 1) := by decide +kernel
theorem dX1_mayBundle_16 : decode cX1_mayBundle 16 = .ok (.iconst 2, 1) := by decide +kernel
theorem dX1_mayBundle_17 : decode cX1_mayBundle 17 = .ok (.if_icmp .eq 34, 3) := by decide +kernel
theorem dX1_mayBundle_20 : decode cX1_mayBundle 20 = .ok (.aload_n 0, 1) := by decide +kernel
theorem dX1_mayBundle_21 : decode cX1_mayBundle 21 = .ok (.iload_n 2, 1) := by decide +kernel
theorem dX1_mayBundle_22 : decode cX1_mayBundle 22 = .ok (.invokevirtual 105, 3) := by decide +kernel
theorem dX1_mayBundle_25 : decode cX1_mayBundle 25 = .ok (.ifCond .eq 26, 3) := by decide +kernel
theorem dX1_mayBundle_28 : decode cX1_mayBundle 28 = .ok (.aload_n 0, 1) := by decide +kernel
theorem dX1_mayBundle_29 : decode cX1_mayBundle 29 = .ok (.getfield 39, 3) := by decide +kernel
theorem dX1_mayBundle_32 : decode cX1_mayBundle 32 = .ok (.iload_n 1, 1) := by decide +kernel
theorem dX1_mayBundle_33 : decode cX1_mayBundle 33 = .ok (.iaload, 1) := by decide +kernel
theorem dX1_mayBundle_34 : decode cX1_mayBundle 34 = .ok (.iconst (-1), 1) := by decide +kernel
theorem dX1_mayBundle_35 : decode cX1_mayBundle 35 = .ok (.if_icmp .ne 16, 3) := by decide +kernel
theorem dX1_mayBundle_38 : decode cX1_mayBundle 38 = .ok (.aload_n 0, 1) := by decide +kernel
theorem dX1_mayBundle_39 : decode cX1_mayBundle 39 = .ok (.iload_n 1, 1) := by decide +kernel
theorem dX1_mayBundle_40 : decode cX1_mayBundle 40 = .ok (.invokevirtual 99, 3) := by decide +kernel
theorem dX1_mayBundle_43 : decode cX1_mayBundle 43 = .ok (.iload_n 2, 1) := by decide +kernel
theorem dX1_mayBundle_44 : decode cX1_mayBundle 44 = .ok (.if_icmp .eq 7, 3) := by decide +kernel
theorem dX1_mayBundle_47 : decode cX1_mayBundle 47 = .ok (.iconst 1, 1) := by decide +kernel
theorem dX1_mayBundle_48 : decode cX1_mayBundle 48 = .ok (.goto 4, 3) := by decide +kernel
theorem dX1_mayBundle_51 : decode cX1_mayBundle 51 = .ok (.iconst 0, 1) := by decide +kernel
theorem dX1_mayBundle_52 : decode cX1_mayBundle 52 = .ok (.ireturn, 1) := by decide +kernel
theorem dX1_holeOfLead_0 : decode cX1_holeOfLead 0 = .ok (.aload_n 0, 1) := by decide +kernel
theorem dX1_holeOfLead_1 : decode cX1_holeOfLead 1 = .ok (.getfield 30, 3) := by decide +kernel
theorem dX1_holeOfLead_4 : decode cX1_holeOfLead 4 = .ok (.iload_n 1, 1) := by decide +kernel
theorem dX1_holeOfLead_5 : decode cX1_holeOfLead 5 = .ok (.iaload, 1) := by decide +kernel
theorem dX1_holeOfLead_6 : decode cX1_holeOfLead 6 = .ok (.iconst 2, 1) := by decide +kernel
theorem dX1_holeOfLead_7 : decode cX1_holeOfLead 7 = .ok (.if_icmp .ne 5, 3) := by decide +kernel
theorem dX1_holeOfLead_10 : decode cX1_holeOfLead 10 = .ok (.iconst (-1), 1) := by decide +kernel
theorem dX1_holeOfLead_11 : decode cX1_holeOfLead 11 = .ok (.ireturn, 1) := by decide +kernel
theorem dX1_holeOfLead_12 : decode cX1_holeOfLead 12 = .ok (.aload_n 0, 1) := by decide +kernel
theorem dX1_holeOfLead_13 : decode cX1_holeOfLead 13 = .ok (.getfield 33, 3) := by decide +kernel
theorem dX1_holeOfLead_16 : decode cX1_holeOfLead 16 = .ok (.iload_n 1, 1) := by decide +kernel
theorem dX1_holeOfLead_17 : decode cX1_holeOfLead 17 = .ok (.iaload, 1) := by decide +kernel
theorem dX1_holeOfLead_18 : decode cX1_holeOfLead 18 = .ok (.iconst (-1), 1) := by decide +kernel
theorem dX1_holeOfLead_19 : decode cX1_holeOfLead 19 = .ok (.if_icmp .eq 12, 3) := by decide +kernel
theorem dX1_holeOfLead_22 : decode cX1_holeOfLead 22 = .ok (.aload_n 0, 1) := by decide +kernel
theorem dX1_holeOfLead_23 : decode cX1_holeOfLead 23 = .ok (.getfield 33, 3) := by decide +kernel
theorem dX1_holeOfLead_26 : decode cX1_holeOfLead 26 = .ok (.iload_n 1, 1) := by decide +kernel
theorem dX1_holeOfLead_27 : decode cX1_holeOfLead 27 = .ok (.iaload, 1) := by decide +kernel
theorem dX1_holeOfLead_28 : decode cX1_holeOfLead 28 = .ok (.goto 14, 3) := by decide +kernel
theorem dX1_holeOfLead_31 : decode cX1_holeOfLead 31 = .ok (.aload_n 0, 1) := by decide +kernel
theorem dX1_holeOfLead_32 : decode cX1_holeOfLead 32 = .ok (.getfield 13, 3) := by decide +kernel
theorem dX1_holeOfLead_35 : decode cX1_holeOfLead 35 = .ok (.aload_n 0, 1) := by decide +kernel
theorem dX1_holeOfLead_36 : decode cX1_holeOfLead 36 = .ok (.getfield 27, 3) := by decide +kernel
theorem dX1_holeOfLead_39 : decode cX1_holeOfLead 39 = .ok (.iload_n 1, 1) := by decide +kernel
theorem dX1_holeOfLead_40 : decode cX1_holeOfLead 40 = .ok (.iaload, 1) := by decide +kernel
theorem dX1_holeOfLead_41 : decode cX1_holeOfLead 41 = .ok (.iaload, 1) := by decide +kernel
theorem dX1_holeOfLead_42 : decode cX1_holeOfLead 42 = .ok (.ireturn, 1) := by decide +kernel
set_option maxRecDepth 20000 in
theorem ggX1_isWrong_X1_holeOfLead : GoodIn wsX1_isWrong wsX1_holeOfLead := goodIn_r _ [7, 8, 9, 1, 2, 10, 11, 12, 13, 14, 15, 16, 17, 18, 19, 20, 21, 22, 23, 24] (by decide +kernel) (by decide +kernel)
set_option maxRecDepth 20000 in
theorem gX1_isWrong_X1_holeOfLead : GoodIn wsX1_isWrong (wsV RX1 169 RX1 yX1_holeOfLead wsX1_holeOfLead) := goodIn_app (goodIn_of _ (by decide +kernel)) ggX1_isWrong_X1_holeOfLead
theorem dX1_isWrong_0 : decode cX1_isWrong 0 = .ok (.aload_n 0, 1) := by decide +kernel
theorem dX1_isWrong_1 : decode cX1_isWrong 1 = .ok (.iload_n 1, 1) := by decide +kernel
theorem dX1_isWrong_2 : decode cX1_isWrong 2 = .ok (.invokevirtual 169, 3) := by decide +kernel
theorem dX1_isWrong_5 : decode cX1_isWrong 5 = .ok (.istore_n 2, 1) := by decide +kernel
theorem dX1_isWrong_6 : decode cX1_isWrong 6 = .ok (.iload_n 2, 1) := by decide +kernel
theorem dX1_isWrong_7 : decode cX1_isWrong 7 = .ok (.iconst (-1), 1) := by decide +kernel
theorem dX1_isWrong_8 : decode cX1_isWrong 8 = .ok (.if_icmp .eq 22, 3) := by decide +kernel
theorem dX1_isWrong_11 : decode cX1_isWrong 11 = .ok (.iload_n 2, 1) := by decide +kernel
theorem dX1_isWrong_12 : decode cX1_isWrong 12 = .ok (.aload_n 0, 1) := by decide +kernel
theorem dX1_isWrong_13 : decode cX1_isWrong 13 = .ok (.getfield 13, 3) := by decide +kernel
theorem dX1_isWrong_16 : decode cX1_isWrong 16 = .ok (.aload_n 0, 1) := by decide +kernel
theorem dX1_isWrong_17 : decode cX1_isWrong 17 = .ok (.getfield 27, 3) := by decide +kernel
theorem dX1_isWrong_20 : decode cX1_isWrong 20 = .ok (.iload_n 1, 1) := by decide +kernel
theorem dX1_isWrong_21 : decode cX1_isWrong 21 = .ok (.iaload, 1) := by decide +kernel
theorem dX1_isWrong_22 : decode cX1_isWrong 22 = .ok (.iaload, 1) := by decide +kernel
theorem dX1_isWrong_23 : decode cX1_isWrong 23 = .ok (.if_icmp .eq 7, 3) := by decide +kernel
theorem dX1_isWrong_26 : decode cX1_isWrong 26 = .ok (.iconst 1, 1) := by decide +kernel
theorem dX1_isWrong_27 : decode cX1_isWrong 27 = .ok (.goto 4, 3) := by decide +kernel
theorem dX1_isWrong_30 : decode cX1_isWrong 30 = .ok (.iconst 0, 1) := by decide +kernel
theorem dX1_isWrong_31 : decode cX1_isWrong 31 = .ok (.ireturn, 1) := by decide +kernel
set_option maxRecDepth 20000 in
theorem ggX1_wrongOnes_X1_leads : GoodIn wsX1_wrongOnes wsX1_leads := goodIn_r _ [6, 7, 20, 21, 22, 23, 24, 25, 26, 27, 28, 29, 30, 31, 32, 33, 34] (by decide +kernel) (by decide +kernel)
set_option maxRecDepth 20000 in
theorem gX1_wrongOnes_X1_leads : GoodIn wsX1_wrongOnes (wsV RX1 105 RX1 yX1_leads wsX1_leads) := goodIn_app (goodIn_of _ (by decide +kernel)) ggX1_wrongOnes_X1_leads
set_option maxRecDepth 20000 in
theorem ggX1_wrongOnes_X1_isWrong : GoodIn wsX1_wrongOnes wsX1_isWrong := goodIn_r _ [11, 12, 13, 14, 15, 16, 5, 17, 18, 19, 20, 21, 22, 23, 24, 25, 26, 27, 28, 29, 30, 31, 32, 33, 34] (by decide +kernel) (by decide +kernel)
set_option maxRecDepth 20000 in
theorem gX1_wrongOnes_X1_isWrong : GoodIn wsX1_wrongOnes (wsV RX1 108 RX1 yX1_isWrong wsX1_isWrong) := goodIn_app (goodIn_of _ (by decide +kernel)) ggX1_wrongOnes_X1_isWrong
theorem dX1_wrongOnes_0 : decode cX1_wrongOnes 0 = .ok (.iconst 0, 1) := by decide +kernel
theorem dX1_wrongOnes_1 : decode cX1_wrongOnes 1 = .ok (.istore_n 1, 1) := by decide +kernel
theorem dX1_wrongOnes_2 : decode cX1_wrongOnes 2 = .ok (.iconst 0, 1) := by decide +kernel
theorem dX1_wrongOnes_3 : decode cX1_wrongOnes 3 = .ok (.istore_n 2, 1) := by decide +kernel
theorem dX1_wrongOnes_4 : decode cX1_wrongOnes 4 = .ok (.iload_n 2, 1) := by decide +kernel
theorem dX1_wrongOnes_5 : decode cX1_wrongOnes 5 = .ok (.aload_n 0, 1) := by decide +kernel
theorem dX1_wrongOnes_6 : decode cX1_wrongOnes 6 = .ok (.getfield 42, 3) := by decide +kernel
theorem dX1_wrongOnes_9 : decode cX1_wrongOnes 9 = .ok (.if_icmp .ge 28, 3) := by decide +kernel
theorem dX1_wrongOnes_12 : decode cX1_wrongOnes 12 = .ok (.aload_n 0, 1) := by decide +kernel
theorem dX1_wrongOnes_13 : decode cX1_wrongOnes 13 = .ok (.iload_n 2, 1) := by decide +kernel
theorem dX1_wrongOnes_14 : decode cX1_wrongOnes 14 = .ok (.invokevirtual 105, 3) := by decide +kernel
theorem dX1_wrongOnes_17 : decode cX1_wrongOnes 17 = .ok (.ifCond .eq 14, 3) := by decide +kernel
theorem dX1_wrongOnes_20 : decode cX1_wrongOnes 20 = .ok (.aload_n 0, 1) := by decide +kernel
theorem dX1_wrongOnes_21 : decode cX1_wrongOnes 21 = .ok (.iload_n 2, 1) := by decide +kernel
theorem dX1_wrongOnes_22 : decode cX1_wrongOnes 22 = .ok (.invokevirtual 108, 3) := by decide +kernel
theorem dX1_wrongOnes_25 : decode cX1_wrongOnes 25 = .ok (.ifCond .eq 6, 3) := by decide +kernel
theorem dX1_wrongOnes_28 : decode cX1_wrongOnes 28 = .ok (.iinc 1 1, 3) := by decide +kernel
theorem dX1_wrongOnes_31 : decode cX1_wrongOnes 31 = .ok (.iinc 2 1, 3) := by decide +kernel
theorem dX1_wrongOnes_34 : decode cX1_wrongOnes 34 = .ok (.goto (-30), 3) := by decide +kernel
theorem dX1_wrongOnes_37 : decode cX1_wrongOnes 37 = .ok (.iload_n 1, 1) := by decide +kernel
theorem dX1_wrongOnes_38 : decode cX1_wrongOnes 38 = .ok (.ireturn, 1) := by decide +kernel
set_option maxRecDepth 20000 in
theorem ggX1_noteWhereAllLie_X1_leads : GoodIn wsX1_noteWhereAllLie wsX1_leads := goodIn_r _ [7, 8, 17, 18, 19, 20, 21, 22, 23, 24, 25, 26, 27, 28, 29, 30, 31] (by decide +kernel) (by decide +kernel)
set_option maxRecDepth 20000 in
theorem gX1_noteWhereAllLie_X1_leads : GoodIn wsX1_noteWhereAllLie (wsV RX1 105 RX1 yX1_leads wsX1_leads) := goodIn_app (goodIn_of _ (by decide +kernel)) ggX1_noteWhereAllLie_X1_leads
set_option maxRecDepth 20000 in
theorem ggX1_noteWhereAllLie_X1_holeOfLead : GoodIn wsX1_noteWhereAllLie wsX1_holeOfLead := goodIn_r _ [12, 13, 14, 15, 16, 17, 18, 19, 20, 21, 22, 23, 24, 25, 26, 27, 28, 29, 30, 31] (by decide +kernel) (by decide +kernel)
set_option maxRecDepth 20000 in
theorem gX1_noteWhereAllLie_X1_holeOfLead : GoodIn wsX1_noteWhereAllLie (wsV RX1 169 RX1 yX1_holeOfLead wsX1_holeOfLead) := goodIn_app (goodIn_of _ (by decide +kernel)) ggX1_noteWhereAllLie_X1_holeOfLead
theorem dX1_noteWhereAllLie_0 : decode cX1_noteWhereAllLie 0 = .ok (.iconst 0, 1) := by decide +kernel
theorem dX1_noteWhereAllLie_1 : decode cX1_noteWhereAllLie 1 = .ok (.istore_n 1, 1) := by decide +kernel
theorem dX1_noteWhereAllLie_2 : decode cX1_noteWhereAllLie 2 = .ok (.iload_n 1, 1) := by decide +kernel
theorem dX1_noteWhereAllLie_3 : decode cX1_noteWhereAllLie 3 = .ok (.aload_n 0, 1) := by decide +kernel
theorem dX1_noteWhereAllLie_4 : decode cX1_noteWhereAllLie 4 = .ok (.getfield 42, 3) := by decide +kernel
theorem dX1_noteWhereAllLie_7 : decode cX1_noteWhereAllLie 7 = .ok (.if_icmp .ge 32, 3) := by decide +kernel
theorem dX1_noteWhereAllLie_10 : decode cX1_noteWhereAllLie 10 = .ok (.aload_n 0, 1) := by decide +kernel
theorem dX1_noteWhereAllLie_11 : decode cX1_noteWhereAllLie 11 = .ok (.getfield 51, 3) := by decide +kernel
theorem dX1_noteWhereAllLie_14 : decode cX1_noteWhereAllLie 14 = .ok (.iload_n 1, 1) := by decide +kernel
theorem dX1_noteWhereAllLie_15 : decode cX1_noteWhereAllLie 15 = .ok (.aload_n 0, 1) := by decide +kernel
theorem dX1_noteWhereAllLie_16 : decode cX1_noteWhereAllLie 16 = .ok (.iload_n 1, 1) := by decide +kernel
theorem dX1_noteWhereAllLie_17 : decode cX1_noteWhereAllLie 17 = .ok (.invokevirtual 105, 3) := by decide +kernel
theorem dX1_noteWhereAllLie_20 : decode cX1_noteWhereAllLie 20 = .ok (.ifCond .eq 11, 3) := by decide +kernel
theorem dX1_noteWhereAllLie_23 : decode cX1_noteWhereAllLie 23 = .ok (.aload_n 0, 1) := by decide +kernel
theorem dX1_noteWhereAllLie_24 : decode cX1_noteWhereAllLie 24 = .ok (.iload_n 1, 1) := by decide +kernel
theorem dX1_noteWhereAllLie_25 : decode cX1_noteWhereAllLie 25 = .ok (.invokevirtual 169, 3) := by decide +kernel
theorem dX1_noteWhereAllLie_28 : decode cX1_noteWhereAllLie 28 = .ok (.goto 4, 3) := by decide +kernel
theorem dX1_noteWhereAllLie_31 : decode cX1_noteWhereAllLie 31 = .ok (.iconst (-1), 1) := by decide +kernel
theorem dX1_noteWhereAllLie_32 : decode cX1_noteWhereAllLie 32 = .ok (.iastore, 1) := by decide +kernel
theorem dX1_noteWhereAllLie_33 : decode cX1_noteWhereAllLie 33 = .ok (.iinc 1 1, 3) := by decide +kernel
theorem dX1_noteWhereAllLie_36 : decode cX1_noteWhereAllLie 36 = .ok (.goto (-34), 3) := by decide +kernel
theorem dX1_noteWhereAllLie_39 : decode cX1_noteWhereAllLie 39 = .ok (.return_, 1) := by decide +kernel
set_option maxRecDepth 20000 in
theorem ggX1_bringHome_X1_isWrong : GoodIn wsX1_bringHome wsX1_isWrong := goodIn_r _ [8, 1, 2, 9, 10, 11, 7, 12, 13, 3, 14, 15, 16, 17, 18, 19, 20, 21, 22, 23, 24, 25, 26, 27, 28] (by decide +kernel) (by decide +kernel)
set_option maxRecDepth 20000 in
theorem gX1_bringHome_X1_isWrong : GoodIn wsX1_bringHome (wsV RX1 108 RX1 yX1_isWrong wsX1_isWrong) := goodIn_app (goodIn_of _ (by decide +kernel)) ggX1_bringHome_X1_isWrong
theorem dX1_bringHome_0 : decode cX1_bringHome 0 = .ok (.aload_n 0, 1) := by decide +kernel
theorem dX1_bringHome_1 : decode cX1_bringHome 1 = .ok (.iload_n 1, 1) := by decide +kernel
theorem dX1_bringHome_2 : decode cX1_bringHome 2 = .ok (.invokevirtual 108, 3) := by decide +kernel
theorem dX1_bringHome_5 : decode cX1_bringHome 5 = .ok (.ifCond .eq 18, 3) := by decide +kernel
theorem dX1_bringHome_8 : decode cX1_bringHome 8 = .ok (.aload_n 0, 1) := by decide +kernel
theorem dX1_bringHome_9 : decode cX1_bringHome 9 = .ok (.getfield 13, 3) := by decide +kernel
theorem dX1_bringHome_12 : decode cX1_bringHome 12 = .ok (.aload_n 0, 1) := by decide +kernel
theorem dX1_bringHome_13 : decode cX1_bringHome 13 = .ok (.getfield 27, 3) := by decide +kernel
theorem dX1_bringHome_16 : decode cX1_bringHome 16 = .ok (.iload_n 1, 1) := by decide +kernel
theorem dX1_bringHome_17 : decode cX1_bringHome 17 = .ok (.iaload, 1) := by decide +kernel
theorem dX1_bringHome_18 : decode cX1_bringHome 18 = .ok (.iaload, 1) := by decide +kernel
theorem dX1_bringHome_19 : decode cX1_bringHome 19 = .ok (.iconst (-1), 1) := by decide +kernel
theorem dX1_bringHome_20 : decode cX1_bringHome 20 = .ok (.if_icmp .ne 5, 3) := by decide +kernel
theorem dX1_bringHome_23 : decode cX1_bringHome 23 = .ok (.iconst 0, 1) := by decide +kernel
theorem dX1_bringHome_24 : decode cX1_bringHome 24 = .ok (.ireturn, 1) := by decide +kernel
theorem dX1_bringHome_25 : decode cX1_bringHome 25 = .ok (.aload_n 0, 1) := by decide +kernel
theorem dX1_bringHome_26 : decode cX1_bringHome 26 = .ok (.getfield 33, 3) := by decide +kernel
theorem dX1_bringHome_29 : decode cX1_bringHome 29 = .ok (.iload_n 1, 1) := by decide +kernel
theorem dX1_bringHome_30 : decode cX1_bringHome 30 = .ok (.iconst (-1), 1) := by decide +kernel
theorem dX1_bringHome_31 : decode cX1_bringHome 31 = .ok (.iastore, 1) := by decide +kernel
theorem dX1_bringHome_32 : decode cX1_bringHome 32 = .ok (.iconst 1, 1) := by decide +kernel
theorem dX1_bringHome_33 : decode cX1_bringHome 33 = .ok (.ireturn, 1) := by decide +kernel
set_option maxRecDepth 20000 in
theorem ggX1_placeOf_X1_isHouse : GoodIn wsX1_placeOf wsX1_isHouse := goodIn_r _ [13, 14, 15, 16, 17, 12, 18, 35, 36, 37, 38, 39, 40, 41, 42, 43, 44, 45, 46, 47, 48, 49] (by decide +kernel) (by decide +kernel)
set_option maxRecDepth 20000 in
theorem gX1_placeOf_X1_isHouse : GoodIn wsX1_placeOf (wsV RX1 79 RX1 yX1_isHouse wsX1_isHouse) := goodIn_app (goodIn_of _ (by decide +kernel)) ggX1_placeOf_X1_isHouse
set_option maxRecDepth 20000 in
theorem ggX1_placeOf_X1_holeOfLead : GoodIn wsX1_placeOf wsX1_holeOfLead := goodIn_r _ [22, 2, 23, 24, 1, 35, 36, 37, 38, 39, 40, 41, 42, 43, 44, 45, 46, 47, 48, 49] (by decide +kernel) (by decide +kernel)
set_option maxRecDepth 20000 in
theorem gX1_placeOf_X1_holeOfLead : GoodIn wsX1_placeOf (wsV RX1 169 RX1 yX1_holeOfLead wsX1_holeOfLead) := goodIn_app (goodIn_of _ (by decide +kernel)) ggX1_placeOf_X1_holeOfLead
set_option maxRecDepth 20000 in
theorem ggX1_placeOf_X1_isWrong : GoodIn wsX1_placeOf wsX1_isWrong := goodIn_r _ [28, 24, 1, 19, 20, 21, 12, 22, 2, 23, 35, 36, 37, 38, 39, 40, 41, 42, 43, 44, 45, 46, 47, 48, 49] (by decide +kernel) (by decide +kernel)
set_option maxRecDepth 20000 in
theorem gX1_placeOf_X1_isWrong : GoodIn wsX1_placeOf (wsV RX1 108 RX1 yX1_isWrong wsX1_isWrong) := goodIn_app (goodIn_of _ (by decide +kernel)) ggX1_placeOf_X1_isWrong
set_option maxRecDepth 20000 in
theorem ggX1_placeOf_X1_leastCarrierAt : GoodIn wsX1_placeOf wsX1_leastCarrierAt := goodIn_r _ [32, 33, 34, 24, 14, 35, 36, 37, 38, 39, 40, 41, 42, 43, 44, 45, 46, 47, 48, 49] (by decide +kernel) (by decide +kernel)
set_option maxRecDepth 20000 in
theorem gX1_placeOf_X1_leastCarrierAt : GoodIn wsX1_placeOf (wsV RX1 190 RX1 yX1_leastCarrierAt wsX1_leastCarrierAt) := goodIn_app (goodIn_of _ (by decide +kernel)) ggX1_placeOf_X1_leastCarrierAt
theorem dX1_placeOf_0 : decode cX1_placeOf 0 = .ok (.aload_n 0, 1) := by decide +kernel
theorem dX1_placeOf_1 : decode cX1_placeOf 1 = .ok (.getfield 27, 3) := by decide +kernel
theorem dX1_placeOf_4 : decode cX1_placeOf 4 = .ok (.iload_n 1, 1) := by decide +kernel
theorem dX1_placeOf_5 : decode cX1_placeOf 5 = .ok (.iaload, 1) := by decide +kernel
theorem dX1_placeOf_6 : decode cX1_placeOf 6 = .ok (.istore_n 2, 1) := by decide +kernel
theorem dX1_placeOf_7 : decode cX1_placeOf 7 = .ok (.aload_n 0, 1) := by decide +kernel
theorem dX1_placeOf_8 : decode cX1_placeOf 8 = .ok (.getfield 30, 3) := by decide +kernel
theorem dX1_placeOf_11 : decode cX1_placeOf 11 = .ok (.iload_n 1, 1) := by decide +kernel
theorem dX1_placeOf_12 : decode cX1_placeOf 12 = .ok (.iaload, 1) := by decide +kernel
theorem dX1_placeOf_13 : decode cX1_placeOf 13 = .ok (.iconst 2, 1) := by decide +kernel
theorem dX1_placeOf_14 : decode cX1_placeOf 14 = .ok (.if_icmp .ne 34, 3) := by decide +kernel
theorem dX1_placeOf_17 : decode cX1_placeOf 17 = .ok (.aload_n 0, 1) := by decide +kernel
theorem dX1_placeOf_18 : decode cX1_placeOf 18 = .ok (.iload_n 2, 1) := by decide +kernel
theorem dX1_placeOf_19 : decode cX1_placeOf 19 = .ok (.invokevirtual 79, 3) := by decide +kernel
theorem dX1_placeOf_22 : decode cX1_placeOf 22 = .ok (.ifCond .ne 7, 3) := by decide +kernel
theorem dX1_placeOf_25 : decode cX1_placeOf 25 = .ok (.getstatic 163, 3) := by decide +kernel
theorem dX1_placeOf_28 : decode cX1_placeOf 28 = .ok (.areturn, 1) := by decide +kernel
theorem dX1_placeOf_29 : decode cX1_placeOf 29 = .ok (.aload_n 0, 1) := by decide +kernel
theorem dX1_placeOf_30 : decode cX1_placeOf 30 = .ok (.getfield 16, 3) := by decide +kernel
theorem dX1_placeOf_33 : decode cX1_placeOf 33 = .ok (.iload_n 2, 1) := by decide +kernel
theorem dX1_placeOf_34 : decode cX1_placeOf 34 = .ok (.baload, 1) := by decide +kernel
theorem dX1_placeOf_35 : decode cX1_placeOf 35 = .ok (.ifCond .eq 9, 3) := by decide +kernel
theorem dX1_placeOf_38 : decode cX1_placeOf 38 = .ok (.getstatic 150, 3) := by decide +kernel
theorem dX1_placeOf_41 : decode cX1_placeOf 41 = .ok (.goto 6, 3) := by decide +kernel
theorem dX1_placeOf_44 : decode cX1_placeOf 44 = .ok (.getstatic 138, 3) := by decide +kernel
theorem dX1_placeOf_47 : decode cX1_placeOf 47 = .ok (.areturn, 1) := by decide +kernel
theorem dX1_placeOf_48 : decode cX1_placeOf 48 = .ok (.aload_n 0, 1) := by decide +kernel
theorem dX1_placeOf_49 : decode cX1_placeOf 49 = .ok (.iload_n 1, 1) := by decide +kernel
theorem dX1_placeOf_50 : decode cX1_placeOf 50 = .ok (.invokevirtual 169, 3) := by decide +kernel
theorem dX1_placeOf_53 : decode cX1_placeOf 53 = .ok (.istore_n 3, 1) := by decide +kernel
theorem dX1_placeOf_54 : decode cX1_placeOf 54 = .ok (.iload_n 3, 1) := by decide +kernel
theorem dX1_placeOf_55 : decode cX1_placeOf 55 = .ok (.iconst (-1), 1) := by decide +kernel
theorem dX1_placeOf_56 : decode cX1_placeOf 56 = .ok (.if_icmp .ne 7, 3) := by decide +kernel
theorem dX1_placeOf_59 : decode cX1_placeOf 59 = .ok (.getstatic 163, 3) := by decide +kernel
theorem dX1_placeOf_62 : decode cX1_placeOf 62 = .ok (.areturn, 1) := by decide +kernel
theorem dX1_placeOf_63 : decode cX1_placeOf 63 = .ok (.aload_n 0, 1) := by decide +kernel
theorem dX1_placeOf_64 : decode cX1_placeOf 64 = .ok (.iload_n 1, 1) := by decide +kernel
theorem dX1_placeOf_65 : decode cX1_placeOf 65 = .ok (.invokevirtual 108, 3) := by decide +kernel
theorem dX1_placeOf_68 : decode cX1_placeOf 68 = .ok (.ifCond .eq 22, 3) := by decide +kernel
theorem dX1_placeOf_71 : decode cX1_placeOf 71 = .ok (.aload_n 0, 1) := by decide +kernel
theorem dX1_placeOf_72 : decode cX1_placeOf 72 = .ok (.iload_n 3, 1) := by decide +kernel
theorem dX1_placeOf_73 : decode cX1_placeOf 73 = .ok (.invokevirtual 190, 3) := by decide +kernel
theorem dX1_placeOf_76 : decode cX1_placeOf 76 = .ok (.iconst (-1), 1) := by decide +kernel
theorem dX1_placeOf_77 : decode cX1_placeOf 77 = .ok (.if_icmp .ne 9, 3) := by decide +kernel
theorem dX1_placeOf_80 : decode cX1_placeOf 80 = .ok (.getstatic 163, 3) := by decide +kernel
theorem dX1_placeOf_83 : decode cX1_placeOf 83 = .ok (.goto 6, 3) := by decide +kernel
theorem dX1_placeOf_86 : decode cX1_placeOf 86 = .ok (.getstatic 193, 3) := by decide +kernel
theorem dX1_placeOf_89 : decode cX1_placeOf 89 = .ok (.areturn, 1) := by decide +kernel
theorem dX1_placeOf_90 : decode cX1_placeOf 90 = .ok (.aload_n 0, 1) := by decide +kernel
theorem dX1_placeOf_91 : decode cX1_placeOf 91 = .ok (.getfield 16, 3) := by decide +kernel
theorem dX1_placeOf_94 : decode cX1_placeOf 94 = .ok (.iload_n 2, 1) := by decide +kernel
theorem dX1_placeOf_95 : decode cX1_placeOf 95 = .ok (.baload, 1) := by decide +kernel
theorem dX1_placeOf_96 : decode cX1_placeOf 96 = .ok (.ifCond .eq 9, 3) := by decide +kernel
theorem dX1_placeOf_99 : decode cX1_placeOf 99 = .ok (.getstatic 150, 3) := by decide +kernel
theorem dX1_placeOf_102 : decode cX1_placeOf 102 = .ok (.goto 6, 3) := by decide +kernel
theorem dX1_placeOf_105 : decode cX1_placeOf 105 = .ok (.getstatic 196, 3) := by decide +kernel
theorem dX1_placeOf_108 : decode cX1_placeOf 108 = .ok (.areturn, 1) := by decide +kernel
set_option maxRecDepth 20000 in
theorem ggX1_itemsAt_X1_leads : GoodIn wsX1_itemsAt wsX1_leads := goodIn_r _ [6, 7, 50, 51, 52, 53, 54, 55, 56, 57, 58, 59, 60, 61, 62, 63, 64] (by decide +kernel) (by decide +kernel)
set_option maxRecDepth 20000 in
theorem gX1_itemsAt_X1_leads : GoodIn wsX1_itemsAt (wsV RX1 105 RX1 yX1_leads wsX1_leads) := goodIn_app (goodIn_of _ (by decide +kernel)) ggX1_itemsAt_X1_leads
set_option maxRecDepth 20000 in
theorem ggX1_itemsAt_X1_placeOf : GoodIn wsX1_itemsAt wsX1_placeOf := goodIn_r _ [11, 12, 13, 14, 15, 16, 17, 18, 19, 20, 21, 22, 5, 23, 24, 25, 26, 27, 28, 29, 30, 31, 32, 33, 34, 35, 36, 37, 38, 39, 40, 41, 42, 43, 44, 50, 51, 52, 53, 54, 55, 56, 57, 58, 59, 60, 61, 62, 63, 64] (by decide +kernel) (by decide +kernel)
set_option maxRecDepth 20000 in
theorem gX1_itemsAt_X1_placeOf : GoodIn wsX1_itemsAt (wsV RX1 159 RX1 yX1_placeOf wsX1_placeOf) := goodIn_app (goodIn_of _ (by decide +kernel)) ggX1_itemsAt_X1_placeOf
set_option maxRecDepth 20000 in
theorem ggX1_itemsAt_X1_sizeOfBundle : GoodIn wsX1_itemsAt wsX1_sizeOfBundle := goodIn_r _ [48, 49, 50, 51, 52, 53, 54, 55, 56, 57, 58, 59, 60, 61, 62, 63, 64] (by decide +kernel) (by decide +kernel)
set_option maxRecDepth 20000 in
theorem gX1_itemsAt_X1_sizeOfBundle : GoodIn wsX1_itemsAt (wsV RX1 102 RX1 yX1_sizeOfBundle wsX1_sizeOfBundle) := goodIn_app (goodIn_of _ (by decide +kernel)) ggX1_itemsAt_X1_sizeOfBundle
theorem dX1_itemsAt_0 : decode cX1_itemsAt 0 = .ok (.iconst 0, 1) := by decide +kernel
theorem dX1_itemsAt_1 : decode cX1_itemsAt 1 = .ok (.istore_n 2, 1) := by decide +kernel
theorem dX1_itemsAt_2 : decode cX1_itemsAt 2 = .ok (.iconst 0, 1) := by decide +kernel
theorem dX1_itemsAt_3 : decode cX1_itemsAt 3 = .ok (.istore_n 3, 1) := by decide +kernel
theorem dX1_itemsAt_4 : decode cX1_itemsAt 4 = .ok (.iload_n 3, 1) := by decide +kernel
theorem dX1_itemsAt_5 : decode cX1_itemsAt 5 = .ok (.aload_n 0, 1) := by decide +kernel
theorem dX1_itemsAt_6 : decode cX1_itemsAt 6 = .ok (.getfield 42, 3) := by decide +kernel
theorem dX1_itemsAt_9 : decode cX1_itemsAt 9 = .ok (.if_icmp .ge 34, 3) := by decide +kernel
theorem dX1_itemsAt_12 : decode cX1_itemsAt 12 = .ok (.aload_n 0, 1) := by decide +kernel
theorem dX1_itemsAt_13 : decode cX1_itemsAt 13 = .ok (.iload_n 3, 1) := by decide +kernel
theorem dX1_itemsAt_14 : decode cX1_itemsAt 14 = .ok (.invokevirtual 105, 3) := by decide +kernel
theorem dX1_itemsAt_17 : decode cX1_itemsAt 17 = .ok (.ifCond .eq 20, 3) := by decide +kernel
theorem dX1_itemsAt_20 : decode cX1_itemsAt 20 = .ok (.aload_n 0, 1) := by decide +kernel
theorem dX1_itemsAt_21 : decode cX1_itemsAt 21 = .ok (.iload_n 3, 1) := by decide +kernel
theorem dX1_itemsAt_22 : decode cX1_itemsAt 22 = .ok (.invokevirtual 159, 3) := by decide +kernel
theorem dX1_itemsAt_25 : decode cX1_itemsAt 25 = .ok (.aload_n 1, 1) := by decide +kernel
theorem dX1_itemsAt_26 : decode cX1_itemsAt 26 = .ok (.if_acmp .ne 11, 3) := by decide +kernel
theorem dX1_itemsAt_29 : decode cX1_itemsAt 29 = .ok (.iload_n 2, 1) := by decide +kernel
theorem dX1_itemsAt_30 : decode cX1_itemsAt 30 = .ok (.aload_n 0, 1) := by decide +kernel
theorem dX1_itemsAt_31 : decode cX1_itemsAt 31 = .ok (.iload_n 3, 1) := by decide +kernel
theorem dX1_itemsAt_32 : decode cX1_itemsAt 32 = .ok (.invokevirtual 102, 3) := by decide +kernel
theorem dX1_itemsAt_35 : decode cX1_itemsAt 35 = .ok (.iadd, 1) := by decide +kernel
theorem dX1_itemsAt_36 : decode cX1_itemsAt 36 = .ok (.istore_n 2, 1) := by decide +kernel
theorem dX1_itemsAt_37 : decode cX1_itemsAt 37 = .ok (.iinc 3 1, 3) := by decide +kernel
theorem dX1_itemsAt_40 : decode cX1_itemsAt 40 = .ok (.goto (-36), 3) := by decide +kernel
theorem dX1_itemsAt_43 : decode cX1_itemsAt 43 = .ok (.iload_n 2, 1) := by decide +kernel
theorem dX1_itemsAt_44 : decode cX1_itemsAt 44 = .ok (.ireturn, 1) := by decide +kernel
set_option maxRecDepth 20000 in
theorem ggX1_itemsInFrames_X1_itemsAt : GoodIn wsX1_itemsInFrames wsX1_itemsAt := goodIn_r _ [7, 8, 9, 10, 11, 6, 12, 13, 14, 15, 16, 17, 18, 19, 20, 21, 22, 23, 2, 1, 24, 25, 26, 27, 28, 29, 30, 31, 32, 33, 34, 35, 36, 37, 38, 39, 40, 41, 42, 43, 44, 45, 46, 47, 48, 49, 50, 51, 52, 53, 54, 55, 56, 57, 58, 59, 60, 61, 62, 63, 64, 65, 66, 67, 68] (by decide +kernel) (by decide +kernel)
set_option maxRecDepth 20000 in
theorem gX1_itemsInFrames_X1_itemsAt : GoodIn wsX1_itemsInFrames (wsV RX1 184 RX1 yX1_itemsAt wsX1_itemsAt) := goodIn_app (goodIn_of _ (by decide +kernel)) ggX1_itemsInFrames_X1_itemsAt
theorem dX1_itemsInFrames_0 : decode cX1_itemsInFrames 0 = .ok (.aload_n 0, 1) := by decide +kernel
theorem dX1_itemsInFrames_1 : decode cX1_itemsInFrames 1 = .ok (.getstatic 196, 3) := by decide +kernel
theorem dX1_itemsInFrames_4 : decode cX1_itemsInFrames 4 = .ok (.invokevirtual 184, 3) := by decide +kernel
theorem dX1_itemsInFrames_7 : decode cX1_itemsInFrames 7 = .ok (.aload_n 0, 1) := by decide +kernel
theorem dX1_itemsInFrames_8 : decode cX1_itemsInFrames 8 = .ok (.getstatic 193, 3) := by decide +kernel
theorem dX1_itemsInFrames_11 : decode cX1_itemsInFrames 11 = .ok (.invokevirtual 184, 3) := by decide +kernel
theorem dX1_itemsInFrames_14 : decode cX1_itemsInFrames 14 = .ok (.iadd, 1) := by decide +kernel
theorem dX1_itemsInFrames_15 : decode cX1_itemsInFrames 15 = .ok (.ireturn, 1) := by decide +kernel
set_option maxRecDepth 20000 in
theorem ggX1_lineUpFrame_X1_addRound : GoodIn wsX1_lineUpFrame wsX1_addRound := goodIn_r _ [7, 8, 9, 10, 11, 12, 13, 6, 14, 15, 16, 17, 18, 19, 20, 21, 22, 23, 24, 25, 26, 27, 28, 29, 30, 31, 2, 32, 33, 34, 35, 36, 37, 38, 39, 40, 41, 42, 43, 44, 45, 46, 47, 48, 49, 50, 51, 52, 53, 54, 55, 56, 57, 1, 58, 59, 69, 70, 71, 72, 73, 74, 75, 76, 77, 78, 79, 80, 81, 82, 83] (by decide +kernel) (by decide +kernel)
set_option maxRecDepth 20000 in
theorem gX1_lineUpFrame_X1_addRound : GoodIn wsX1_lineUpFrame (wsV RX1 144 RX1 yX1_addRound wsX1_addRound) := goodIn_app (goodIn_of _ (by decide +kernel)) ggX1_lineUpFrame_X1_addRound
set_option maxRecDepth 20000 in
theorem ggX1_lineUpFrame_X1_addAstray : GoodIn wsX1_lineUpFrame wsX1_addAstray := goodIn_r _ [63, 64, 50, 51, 52, 6, 53, 8, 10, 45, 9, 65, 66, 67, 68, 15, 31, 17, 18, 19, 20, 21, 40, 41, 42, 43, 26, 44, 16, 22, 23, 24, 25, 27, 28, 29, 30, 2, 32, 33, 34, 35, 36, 37, 38, 39, 46, 47, 48, 49, 54, 55, 56, 57, 1, 58, 59, 69, 70, 71, 72, 73, 74, 75, 76, 77, 78, 79, 80, 81, 82, 83] (by decide +kernel) (by decide +kernel)
set_option maxRecDepth 20000 in
theorem gX1_lineUpFrame_X1_addAstray : GoodIn wsX1_lineUpFrame (wsV RX1 199 RX1 yX1_addAstray wsX1_addAstray) := goodIn_app (goodIn_of _ (by decide +kernel)) ggX1_lineUpFrame_X1_addAstray
theorem dX1_lineUpFrame_0 : decode cX1_lineUpFrame 0 = .ok (.aload_n 0, 1) := by decide +kernel
theorem dX1_lineUpFrame_1 : decode cX1_lineUpFrame 1 = .ok (.iconst 0, 1) := by decide +kernel
theorem dX1_lineUpFrame_2 : decode cX1_lineUpFrame 2 = .ok (.putfield 48, 3) := by decide +kernel
theorem dX1_lineUpFrame_5 : decode cX1_lineUpFrame 5 = .ok (.aload_n 0, 1) := by decide +kernel
theorem dX1_lineUpFrame_6 : decode cX1_lineUpFrame 6 = .ok (.iload_n 1, 1) := by decide +kernel
theorem dX1_lineUpFrame_7 : decode cX1_lineUpFrame 7 = .ok (.getstatic 196, 3) := by decide +kernel
theorem dX1_lineUpFrame_10 : decode cX1_lineUpFrame 10 = .ok (.invokevirtual 144, 3) := by decide +kernel
theorem dX1_lineUpFrame_13 : decode cX1_lineUpFrame 13 = .ok (.aload_n 0, 1) := by decide +kernel
theorem dX1_lineUpFrame_14 : decode cX1_lineUpFrame 14 = .ok (.iload_n 1, 1) := by decide +kernel
theorem dX1_lineUpFrame_15 : decode cX1_lineUpFrame 15 = .ok (.invokevirtual 199, 3) := by decide +kernel
theorem dX1_lineUpFrame_18 : decode cX1_lineUpFrame 18 = .ok (.return_, 1) := by decide +kernel
set_option maxRecDepth 20000 in
theorem ggX1_addRound_X1_addOfHouse : GoodIn wsX1_addRound wsX1_addOfHouse := goodIn_r _ [8, 9, 10, 11, 12, 13, 7, 14, 15, 16, 17, 18, 19, 20, 21, 22, 23, 24, 25, 26, 27, 28, 29, 30, 2, 31, 32, 33, 34, 35, 36, 37, 38, 39, 40, 41, 42, 43, 44, 45, 46, 47, 48, 1, 3, 49, 50, 51, 52, 53, 54, 55, 56, 57, 58, 59, 60, 61, 62, 63, 64, 65, 66, 67, 68, 69, 70] (by decide +kernel) (by decide +kernel)
set_option maxRecDepth 20000 in
theorem gX1_addRound_X1_addOfHouse : GoodIn wsX1_addRound (wsV RX1 153 RX1 yX1_addOfHouse wsX1_addOfHouse) := goodIn_app (goodIn_of _ (by decide +kernel)) ggX1_addRound_X1_addOfHouse
theorem dX1_addRound_0 : decode cX1_addRound 0 = .ok (.iconst 0, 1) := by decide +kernel
theorem dX1_addRound_1 : decode cX1_addRound 1 = .ok (.istore_n 3, 1) := by decide +kernel
theorem dX1_addRound_2 : decode cX1_addRound 2 = .ok (.iload_n 3, 1) := by decide +kernel
theorem dX1_addRound_3 : decode cX1_addRound 3 = .ok (.aload_n 0, 1) := by decide +kernel
theorem dX1_addRound_4 : decode cX1_addRound 4 = .ok (.getfield 23, 3) := by decide +kernel
theorem dX1_addRound_7 : decode cX1_addRound 7 = .ok (.if_icmp .ge 35, 3) := by decide +kernel
theorem dX1_addRound_10 : decode cX1_addRound 10 = .ok (.aload_n 0, 1) := by decide +kernel
theorem dX1_addRound_11 : decode cX1_addRound 11 = .ok (.getfield 9, 3) := by decide +kernel
theorem dX1_addRound_14 : decode cX1_addRound 14 = .ok (.aload_n 0, 1) := by decide +kernel
theorem dX1_addRound_15 : decode cX1_addRound 15 = .ok (.getfield 20, 3) := by decide +kernel
theorem dX1_addRound_18 : decode cX1_addRound 18 = .ok (.iload_n 3, 1) := by decide +kernel
theorem dX1_addRound_19 : decode cX1_addRound 19 = .ok (.iaload, 1) := by decide +kernel
theorem dX1_addRound_20 : decode cX1_addRound 20 = .ok (.iaload, 1) := by decide +kernel
theorem dX1_addRound_21 : decode cX1_addRound 21 = .ok (.iload_n 1, 1) := by decide +kernel
theorem dX1_addRound_22 : decode cX1_addRound 22 = .ok (.if_icmp .ne 14, 3) := by decide +kernel
theorem dX1_addRound_25 : decode cX1_addRound 25 = .ok (.aload_n 0, 1) := by decide +kernel
theorem dX1_addRound_26 : decode cX1_addRound 26 = .ok (.aload_n 0, 1) := by decide +kernel
theorem dX1_addRound_27 : decode cX1_addRound 27 = .ok (.getfield 20, 3) := by decide +kernel
theorem dX1_addRound_30 : decode cX1_addRound 30 = .ok (.iload_n 3, 1) := by decide +kernel
theorem dX1_addRound_31 : decode cX1_addRound 31 = .ok (.iaload, 1) := by decide +kernel
theorem dX1_addRound_32 : decode cX1_addRound 32 = .ok (.aload_n 2, 1) := by decide +kernel
theorem dX1_addRound_33 : decode cX1_addRound 33 = .ok (.invokevirtual 153, 3) := by decide +kernel
theorem dX1_addRound_36 : decode cX1_addRound 36 = .ok (.iinc 3 1, 3) := by decide +kernel
theorem dX1_addRound_39 : decode cX1_addRound 39 = .ok (.goto (-37), 3) := by decide +kernel
theorem dX1_addRound_42 : decode cX1_addRound 42 = .ok (.return_, 1) := by decide +kernel
set_option maxRecDepth 20000 in
theorem ggX1_addOfHouse_X1_leads : GoodIn wsX1_addOfHouse wsX1_leads := goodIn_r _ [7, 8, 52, 53, 54, 55, 56, 57, 58, 59, 60, 61, 62, 63, 64, 65, 66] (by decide +kernel) (by decide +kernel)
set_option maxRecDepth 20000 in
theorem gX1_addOfHouse_X1_leads : GoodIn wsX1_addOfHouse (wsV RX1 105 RX1 yX1_leads wsX1_leads) := goodIn_app (goodIn_of _ (by decide +kernel)) ggX1_addOfHouse_X1_leads
set_option maxRecDepth 20000 in
theorem ggX1_addOfHouse_X1_placeOf : GoodIn wsX1_addOfHouse wsX1_placeOf := goodIn_r _ [12, 2, 13, 14, 15, 16, 17, 18, 19, 20, 21, 22, 6, 23, 24, 25, 26, 27, 28, 29, 30, 31, 32, 33, 34, 35, 36, 37, 38, 39, 40, 41, 42, 43, 44, 52, 53, 54, 55, 56, 57, 58, 59, 60, 61, 62, 63, 64, 65, 66] (by decide +kernel) (by decide +kernel)
set_option maxRecDepth 20000 in
theorem gX1_addOfHouse_X1_placeOf : GoodIn wsX1_addOfHouse (wsV RX1 159 RX1 yX1_placeOf wsX1_placeOf) := goodIn_app (goodIn_of _ (by decide +kernel)) ggX1_addOfHouse_X1_placeOf
set_option maxRecDepth 20000 in
theorem ggX1_addOfHouse_X1_addBundle : GoodIn wsX1_addOfHouse wsX1_addBundle := goodIn_r _ [48, 49, 50, 51, 52, 53, 54, 55, 56, 57, 58, 59, 60, 61, 62, 63, 64, 65, 66] (by decide +kernel) (by decide +kernel)
set_option maxRecDepth 20000 in
theorem gX1_addOfHouse_X1_addBundle : GoodIn wsX1_addOfHouse (wsV RX1 166 RX1 yX1_addBundle wsX1_addBundle) := goodIn_app (goodIn_of _ (by decide +kernel)) ggX1_addOfHouse_X1_addBundle
theorem dX1_addOfHouse_0 : decode cX1_addOfHouse 0 = .ok (.iconst 0, 1) := by decide +kernel
theorem dX1_addOfHouse_1 : decode cX1_addOfHouse 1 = .ok (.istore_n 3, 1) := by decide +kernel
theorem dX1_addOfHouse_2 : decode cX1_addOfHouse 2 = .ok (.iload_n 3, 1) := by decide +kernel
theorem dX1_addOfHouse_3 : decode cX1_addOfHouse 3 = .ok (.aload_n 0, 1) := by decide +kernel
theorem dX1_addOfHouse_4 : decode cX1_addOfHouse 4 = .ok (.getfield 42, 3) := by decide +kernel
theorem dX1_addOfHouse_7 : decode cX1_addOfHouse 7 = .ok (.if_icmp .ge 41, 3) := by decide +kernel
theorem dX1_addOfHouse_10 : decode cX1_addOfHouse 10 = .ok (.aload_n 0, 1) := by decide +kernel
theorem dX1_addOfHouse_11 : decode cX1_addOfHouse 11 = .ok (.getfield 27, 3) := by decide +kernel
theorem dX1_addOfHouse_14 : decode cX1_addOfHouse 14 = .ok (.iload_n 3, 1) := by decide +kernel
theorem dX1_addOfHouse_15 : decode cX1_addOfHouse 15 = .ok (.iaload, 1) := by decide +kernel
theorem dX1_addOfHouse_16 : decode cX1_addOfHouse 16 = .ok (.iload_n 1, 1) := by decide +kernel
theorem dX1_addOfHouse_17 : decode cX1_addOfHouse 17 = .ok (.if_icmp .ne 25, 3) := by decide +kernel
theorem dX1_addOfHouse_20 : decode cX1_addOfHouse 20 = .ok (.aload_n 0, 1) := by decide +kernel
theorem dX1_addOfHouse_21 : decode cX1_addOfHouse 21 = .ok (.iload_n 3, 1) := by decide +kernel
theorem dX1_addOfHouse_22 : decode cX1_addOfHouse 22 = .ok (.invokevirtual 105, 3) := by decide +kernel
theorem dX1_addOfHouse_25 : decode cX1_addOfHouse 25 = .ok (.ifCond .eq 17, 3) := by decide +kernel
theorem dX1_addOfHouse_28 : decode cX1_addOfHouse 28 = .ok (.aload_n 0, 1) := by decide +kernel
theorem dX1_addOfHouse_29 : decode cX1_addOfHouse 29 = .ok (.iload_n 3, 1) := by decide +kernel
theorem dX1_addOfHouse_30 : decode cX1_addOfHouse 30 = .ok (.invokevirtual 159, 3) := by decide +kernel
theorem dX1_addOfHouse_33 : decode cX1_addOfHouse 33 = .ok (.aload_n 2, 1) := by decide +kernel
theorem dX1_addOfHouse_34 : decode cX1_addOfHouse 34 = .ok (.if_acmp .ne 8, 3) := by decide +kernel
theorem dX1_addOfHouse_37 : decode cX1_addOfHouse 37 = .ok (.aload_n 0, 1) := by decide +kernel
theorem dX1_addOfHouse_38 : decode cX1_addOfHouse 38 = .ok (.iload_n 3, 1) := by decide +kernel
theorem dX1_addOfHouse_39 : decode cX1_addOfHouse 39 = .ok (.invokevirtual 166, 3) := by decide +kernel
theorem dX1_addOfHouse_42 : decode cX1_addOfHouse 42 = .ok (.iinc 3 1, 3) := by decide +kernel
theorem dX1_addOfHouse_45 : decode cX1_addOfHouse 45 = .ok (.goto (-43), 3) := by decide +kernel
theorem dX1_addOfHouse_48 : decode cX1_addOfHouse 48 = .ok (.return_, 1) := by decide +kernel
set_option maxRecDepth 20000 in
theorem ggX1_addAstray_X1_leastCarrierAt : GoodIn wsX1_addAstray wsX1_leastCarrierAt := goodIn_r _ [6, 7, 8, 9, 10, 57, 58, 59, 60, 61, 62, 63, 64, 65, 66, 67, 68, 69, 70, 71] (by decide +kernel) (by decide +kernel)
set_option maxRecDepth 20000 in
theorem gX1_addAstray_X1_leastCarrierAt : GoodIn wsX1_addAstray (wsV RX1 190 RX1 yX1_leastCarrierAt wsX1_leastCarrierAt) := goodIn_app (goodIn_of _ (by decide +kernel)) ggX1_addAstray_X1_leastCarrierAt
set_option maxRecDepth 20000 in
theorem ggX1_addAstray_X1_addAstrayAt : GoodIn wsX1_addAstray wsX1_addAstrayAt := goodIn_r _ [14, 15, 16, 17, 18, 19, 5, 20, 21, 22, 23, 24, 25, 26, 27, 9, 28, 29, 30, 31, 32, 33, 34, 35, 36, 37, 38, 39, 40, 41, 10, 42, 43, 44, 45, 46, 47, 48, 49, 2, 3, 4, 6, 7, 8, 50, 51, 52, 53, 54, 55, 56, 57, 58, 59, 60, 61, 62, 63, 64, 65, 66, 67, 68, 69, 70, 71] (by decide +kernel) (by decide +kernel)
set_option maxRecDepth 20000 in
theorem gX1_addAstray_X1_addAstrayAt : GoodIn wsX1_addAstray (wsV RX1 202 RX1 yX1_addAstrayAt wsX1_addAstrayAt) := goodIn_app (goodIn_of _ (by decide +kernel)) ggX1_addAstray_X1_addAstrayAt
theorem dX1_addAstray_0 : decode cX1_addAstray 0 = .ok (.iconst 0, 1) := by decide +kernel
theorem dX1_addAstray_1 : decode cX1_addAstray 1 = .ok (.istore_n 2, 1) := by decide +kernel
theorem dX1_addAstray_2 : decode cX1_addAstray 2 = .ok (.iload_n 2, 1) := by decide +kernel
theorem dX1_addAstray_3 : decode cX1_addAstray 3 = .ok (.aload_n 0, 1) := by decide +kernel
theorem dX1_addAstray_4 : decode cX1_addAstray 4 = .ok (.getfield 63, 3) := by decide +kernel
theorem dX1_addAstray_7 : decode cX1_addAstray 7 = .ok (.if_icmp .ge 23, 3) := by decide +kernel
theorem dX1_addAstray_10 : decode cX1_addAstray 10 = .ok (.aload_n 0, 1) := by decide +kernel
theorem dX1_addAstray_11 : decode cX1_addAstray 11 = .ok (.iload_n 2, 1) := by decide +kernel
theorem dX1_addAstray_12 : decode cX1_addAstray 12 = .ok (.invokevirtual 190, 3) := by decide +kernel
theorem dX1_addAstray_15 : decode cX1_addAstray 15 = .ok (.iload_n 1, 1) := by decide +kernel
theorem dX1_addAstray_16 : decode cX1_addAstray 16 = .ok (.if_icmp .ne 8, 3) := by decide +kernel
theorem dX1_addAstray_19 : decode cX1_addAstray 19 = .ok (.aload_n 0, 1) := by decide +kernel
theorem dX1_addAstray_20 : decode cX1_addAstray 20 = .ok (.iload_n 2, 1) := by decide +kernel
theorem dX1_addAstray_21 : decode cX1_addAstray 21 = .ok (.invokevirtual 202, 3) := by decide +kernel
theorem dX1_addAstray_24 : decode cX1_addAstray 24 = .ok (.iinc 2 1, 3) := by decide +kernel
theorem dX1_addAstray_27 : decode cX1_addAstray 27 = .ok (.goto (-25), 3) := by decide +kernel
theorem dX1_addAstray_30 : decode cX1_addAstray 30 = .ok (.return_, 1) := by decide +kernel
set_option maxRecDepth 20000 in
theorem ggX1_addAstrayAt_X1_leads : GoodIn wsX1_addAstrayAt wsX1_leads := goodIn_r _ [7, 8, 52, 53, 54, 55, 56, 57, 58, 59, 60, 61, 62, 63, 64, 65, 66] (by decide +kernel) (by decide +kernel)
set_option maxRecDepth 20000 in
theorem gX1_addAstrayAt_X1_leads : GoodIn wsX1_addAstrayAt (wsV RX1 105 RX1 yX1_leads wsX1_leads) := goodIn_app (goodIn_of _ (by decide +kernel)) ggX1_addAstrayAt_X1_leads
set_option maxRecDepth 20000 in
theorem ggX1_addAstrayAt_X1_holeOfLead : GoodIn wsX1_addAstrayAt wsX1_holeOfLead := goodIn_r _ [12, 13, 14, 15, 16, 52, 53, 54, 55, 56, 57, 58, 59, 60, 61, 62, 63, 64, 65, 66] (by decide +kernel) (by decide +kernel)
set_option maxRecDepth 20000 in
theorem gX1_addAstrayAt_X1_holeOfLead : GoodIn wsX1_addAstrayAt (wsV RX1 169 RX1 yX1_holeOfLead wsX1_holeOfLead) := goodIn_app (goodIn_of _ (by decide +kernel)) ggX1_addAstrayAt_X1_holeOfLead
set_option maxRecDepth 20000 in
theorem ggX1_addAstrayAt_X1_placeOf : GoodIn wsX1_addAstrayAt wsX1_placeOf := goodIn_r _ [20, 16, 13, 21, 22, 23, 24, 2, 25, 26, 27, 28, 6, 29, 30, 31, 32, 33, 34, 9, 10, 11, 12, 14, 15, 35, 36, 37, 38, 39, 40, 41, 42, 43, 44, 52, 53, 54, 55, 56, 57, 58, 59, 60, 61, 62, 63, 64, 65, 66] (by decide +kernel) (by decide +kernel)
set_option maxRecDepth 20000 in
theorem gX1_addAstrayAt_X1_placeOf : GoodIn wsX1_addAstrayAt (wsV RX1 159 RX1 yX1_placeOf wsX1_placeOf) := goodIn_app (goodIn_of _ (by decide +kernel)) ggX1_addAstrayAt_X1_placeOf
set_option maxRecDepth 20000 in
theorem ggX1_addAstrayAt_X1_addBundle : GoodIn wsX1_addAstrayAt wsX1_addBundle := goodIn_r _ [48, 49, 50, 51, 52, 53, 54, 55, 56, 57, 58, 59, 60, 61, 62, 63, 64, 65, 66] (by decide +kernel) (by decide +kernel)
set_option maxRecDepth 20000 in
theorem gX1_addAstrayAt_X1_addBundle : GoodIn wsX1_addAstrayAt (wsV RX1 166 RX1 yX1_addBundle wsX1_addBundle) := goodIn_app (goodIn_of _ (by decide +kernel)) ggX1_addAstrayAt_X1_addBundle
theorem dX1_addAstrayAt_0 : decode cX1_addAstrayAt 0 = .ok (.iconst 0, 1) := by decide +kernel
theorem dX1_addAstrayAt_1 : decode cX1_addAstrayAt 1 = .ok (.istore_n 2, 1) := by decide +kernel
theorem dX1_addAstrayAt_2 : decode cX1_addAstrayAt 2 = .ok (.iload_n 2, 1) := by decide +kernel
theorem dX1_addAstrayAt_3 : decode cX1_addAstrayAt 3 = .ok (.aload_n 0, 1) := by decide +kernel
theorem dX1_addAstrayAt_4 : decode cX1_addAstrayAt 4 = .ok (.getfield 42, 3) := by decide +kernel
theorem dX1_addAstrayAt_7 : decode cX1_addAstrayAt 7 = .ok (.if_icmp .ge 42, 3) := by decide +kernel
theorem dX1_addAstrayAt_10 : decode cX1_addAstrayAt 10 = .ok (.aload_n 0, 1) := by decide +kernel
theorem dX1_addAstrayAt_11 : decode cX1_addAstrayAt 11 = .ok (.iload_n 2, 1) := by decide +kernel
theorem dX1_addAstrayAt_12 : decode cX1_addAstrayAt 12 = .ok (.invokevirtual 105, 3) := by decide +kernel
theorem dX1_addAstrayAt_15 : decode cX1_addAstrayAt 15 = .ok (.ifCond .eq 28, 3) := by decide +kernel
theorem dX1_addAstrayAt_18 : decode cX1_addAstrayAt 18 = .ok (.aload_n 0, 1) := by decide +kernel
theorem dX1_addAstrayAt_19 : decode cX1_addAstrayAt 19 = .ok (.iload_n 2, 1) := by decide +kernel
theorem dX1_addAstrayAt_20 : decode cX1_addAstrayAt 20 = .ok (.invokevirtual 169, 3) := by decide +kernel
theorem dX1_addAstrayAt_23 : decode cX1_addAstrayAt 23 = .ok (.iload_n 1, 1) := by decide +kernel
theorem dX1_addAstrayAt_24 : decode cX1_addAstrayAt 24 = .ok (.if_icmp .ne 19, 3) := by decide +kernel
theorem dX1_addAstrayAt_27 : decode cX1_addAstrayAt 27 = .ok (.aload_n 0, 1) := by decide +kernel
theorem dX1_addAstrayAt_28 : decode cX1_addAstrayAt 28 = .ok (.iload_n 2, 1) := by decide +kernel
theorem dX1_addAstrayAt_29 : decode cX1_addAstrayAt 29 = .ok (.invokevirtual 159, 3) := by decide +kernel
theorem dX1_addAstrayAt_32 : decode cX1_addAstrayAt 32 = .ok (.getstatic 193, 3) := by decide +kernel
theorem dX1_addAstrayAt_35 : decode cX1_addAstrayAt 35 = .ok (.if_acmp .ne 8, 3) := by decide +kernel
theorem dX1_addAstrayAt_38 : decode cX1_addAstrayAt 38 = .ok (.aload_n 0, 1) := by decide +kernel
theorem dX1_addAstrayAt_39 : decode cX1_addAstrayAt 39 = .ok (.iload_n 2, 1) := by decide +kernel
theorem dX1_addAstrayAt_40 : decode cX1_addAstrayAt 40 = .ok (.invokevirtual 166, 3) := by decide +kernel
theorem dX1_addAstrayAt_43 : decode cX1_addAstrayAt 43 = .ok (.iinc 2 1, 3) := by decide +kernel
theorem dX1_addAstrayAt_46 : decode cX1_addAstrayAt 46 = .ok (.goto (-44), 3) := by decide +kernel
theorem dX1_addAstrayAt_49 : decode cX1_addAstrayAt 49 = .ok (.return_, 1) := by decide +kernel
theorem dX1_addBundle_0 : decode cX1_addBundle 0 = .ok (.iload_n 1, 1) := by decide +kernel
theorem dX1_addBundle_1 : decode cX1_addBundle 1 = .ok (.istore_n 2, 1) := by decide +kernel
theorem dX1_addBundle_2 : decode cX1_addBundle 2 = .ok (.iload_n 2, 1) := by decide +kernel
theorem dX1_addBundle_3 : decode cX1_addBundle 3 = .ok (.iconst (-1), 1) := by decide +kernel
theorem dX1_addBundle_4 : decode cX1_addBundle 4 = .ok (.if_icmp .eq 43, 3) := by decide +kernel
theorem dX1_addBundle_7 : decode cX1_addBundle 7 = .ok (.aload_n 0, 1) := by decide +kernel
theorem dX1_addBundle_8 : decode cX1_addBundle 8 = .ok (.getfield 48, 3) := by decide +kernel
theorem dX1_addBundle_11 : decode cX1_addBundle 11 = .ok (.sipush 250, 3) := by decide +kernel
theorem dX1_addBundle_14 : decode cX1_addBundle 14 = .ok (.if_icmp .ge 33, 3) := by decide +kernel
theorem dX1_addBundle_17 : decode cX1_addBundle 17 = .ok (.aload_n 0, 1) := by decide +kernel
theorem dX1_addBundle_18 : decode cX1_addBundle 18 = .ok (.getfield 45, 3) := by decide +kernel
theorem dX1_addBundle_21 : decode cX1_addBundle 21 = .ok (.aload_n 0, 1) := by decide +kernel
theorem dX1_addBundle_22 : decode cX1_addBundle 22 = .ok (.getfield 48, 3) := by decide +kernel
theorem dX1_addBundle_25 : decode cX1_addBundle 25 = .ok (.iload_n 2, 1) := by decide +kernel
theorem dX1_addBundle_26 : decode cX1_addBundle 26 = .ok (.iastore, 1) := by decide +kernel
theorem dX1_addBundle_27 : decode cX1_addBundle 27 = .ok (.aload_n 0, 1) := by decide +kernel
theorem dX1_addBundle_28 : decode cX1_addBundle 28 = .ok (.dup, 1) := by decide +kernel
theorem dX1_addBundle_29 : decode cX1_addBundle 29 = .ok (.getfield 48, 3) := by decide +kernel
theorem dX1_addBundle_32 : decode cX1_addBundle 32 = .ok (.iconst 1, 1) := by decide +kernel
theorem dX1_addBundle_33 : decode cX1_addBundle 33 = .ok (.iadd, 1) := by decide +kernel
theorem dX1_addBundle_34 : decode cX1_addBundle 34 = .ok (.putfield 48, 3) := by decide +kernel
theorem dX1_addBundle_37 : decode cX1_addBundle 37 = .ok (.aload_n 0, 1) := by decide +kernel
theorem dX1_addBundle_38 : decode cX1_addBundle 38 = .ok (.getfield 39, 3) := by decide +kernel
theorem dX1_addBundle_41 : decode cX1_addBundle 41 = .ok (.iload_n 2, 1) := by decide +kernel
theorem dX1_addBundle_42 : decode cX1_addBundle 42 = .ok (.iaload, 1) := by decide +kernel
theorem dX1_addBundle_43 : decode cX1_addBundle 43 = .ok (.istore_n 2, 1) := by decide +kernel
theorem dX1_addBundle_44 : decode cX1_addBundle 44 = .ok (.goto (-42), 3) := by decide +kernel
theorem dX1_addBundle_47 : decode cX1_addBundle 47 = .ok (.return_, 1) := by decide +kernel
theorem dX1_inRow_0 : decode cX1_inRow 0 = .ok (.iload_n 1, 1) := by decide +kernel
theorem dX1_inRow_1 : decode cX1_inRow 1 = .ok (.ifCond .lt 20, 3) := by decide +kernel
theorem dX1_inRow_4 : decode cX1_inRow 4 = .ok (.iload_n 1, 1) := by decide +kernel
theorem dX1_inRow_5 : decode cX1_inRow 5 = .ok (.aload_n 0, 1) := by decide +kernel
theorem dX1_inRow_6 : decode cX1_inRow 6 = .ok (.getfield 48, 3) := by decide +kernel
theorem dX1_inRow_9 : decode cX1_inRow 9 = .ok (.if_icmp .ge 12, 3) := by decide +kernel
theorem dX1_inRow_12 : decode cX1_inRow 12 = .ok (.aload_n 0, 1) := by decide +kernel
theorem dX1_inRow_13 : decode cX1_inRow 13 = .ok (.getfield 45, 3) := by decide +kernel
theorem dX1_inRow_16 : decode cX1_inRow 16 = .ok (.iload_n 1, 1) := by decide +kernel
theorem dX1_inRow_17 : decode cX1_inRow 17 = .ok (.iaload, 1) := by decide +kernel
theorem dX1_inRow_18 : decode cX1_inRow 18 = .ok (.goto 4, 3) := by decide +kernel
theorem dX1_inRow_21 : decode cX1_inRow 21 = .ok (.iconst (-1), 1) := by decide +kernel
theorem dX1_inRow_22 : decode cX1_inRow 22 = .ok (.ireturn, 1) := by decide +kernel
set_option maxRecDepth 20000 in
theorem ggX1_secondsOf_X1_addOfHouse : GoodIn wsX1_secondsOf wsX1_addOfHouse := goodIn_r _ [11, 12, 13, 14, 15, 16, 10, 17, 18, 19, 20, 21, 22, 23, 24, 25, 26, 6, 27, 5, 28, 29, 30, 31, 3, 32, 33, 34, 35, 36, 37, 38, 39, 40, 41, 42, 43, 44, 45, 46, 47, 48, 49, 2, 4, 50, 51, 52, 53, 1, 54, 55, 70, 71, 72, 73, 74, 75, 76, 77, 78, 79, 80, 81, 82, 83, 84] (by decide +kernel) (by decide +kernel)
set_option maxRecDepth 20000 in
theorem gX1_secondsOf_X1_addOfHouse : GoodIn wsX1_secondsOf (wsV RX1 153 RX1 yX1_addOfHouse wsX1_addOfHouse) := goodIn_app (goodIn_of _ (by decide +kernel)) ggX1_secondsOf_X1_addOfHouse
set_option maxRecDepth 20000 in
theorem ggX1_secondsOf_X1_addAstray : GoodIn wsX1_secondsOf wsX1_addAstray := goodIn_r _ [59, 60, 46, 47, 48, 10, 49, 2, 4, 41, 3, 61, 62, 63, 64, 12, 27, 14, 15, 16, 17, 18, 36, 37, 38, 39, 23, 40, 13, 19, 20, 21, 22, 24, 25, 26, 6, 5, 28, 29, 30, 31, 32, 33, 34, 35, 42, 43, 44, 45, 50, 51, 52, 53, 1, 54, 55, 70, 71, 72, 73, 74, 75, 76, 77, 78, 79, 80, 81, 82, 83, 84] (by decide +kernel) (by decide +kernel)
set_option maxRecDepth 20000 in
theorem gX1_secondsOf_X1_addAstray : GoodIn wsX1_secondsOf (wsV RX1 199 RX1 yX1_addAstray wsX1_addAstray) := goodIn_app (goodIn_of _ (by decide +kernel)) ggX1_secondsOf_X1_addAstray
set_option maxRecDepth 20000 in
theorem ggX1_secondsOf_X1_secondsOfRow : GoodIn wsX1_secondsOf wsX1_secondsOfRow := goodIn_r _ [68, 1, 69, 23, 54, 70, 71, 72, 73, 74, 75, 76, 77, 78, 79, 80, 81, 82, 83, 84] (by decide +kernel) (by decide +kernel)
set_option maxRecDepth 20000 in
theorem gX1_secondsOf_X1_secondsOfRow : GoodIn wsX1_secondsOf (wsV RX1 205 RX1 yX1_secondsOfRow wsX1_secondsOfRow) := goodIn_app (goodIn_of _ (by decide +kernel)) ggX1_secondsOf_X1_secondsOfRow
theorem dX1_secondsOf_0 : decode cX1_secondsOf 0 = .ok (.iconst 0, 1) := by decide +kernel
theorem dX1_secondsOf_1 : decode cX1_secondsOf 1 = .ok (.istore_n 2, 1) := by decide +kernel
theorem dX1_secondsOf_2 : decode cX1_secondsOf 2 = .ok (.aload_n 0, 1) := by decide +kernel
theorem dX1_secondsOf_3 : decode cX1_secondsOf 3 = .ok (.iconst 0, 1) := by decide +kernel
theorem dX1_secondsOf_4 : decode cX1_secondsOf 4 = .ok (.putfield 48, 3) := by decide +kernel
theorem dX1_secondsOf_7 : decode cX1_secondsOf 7 = .ok (.iconst 0, 1) := by decide +kernel
theorem dX1_secondsOf_8 : decode cX1_secondsOf 8 = .ok (.istore_n 3, 1) := by decide +kernel
theorem dX1_secondsOf_9 : decode cX1_secondsOf 9 = .ok (.iload_n 3, 1) := by decide +kernel
theorem dX1_secondsOf_10 : decode cX1_secondsOf 10 = .ok (.aload_n 0, 1) := by decide +kernel
theorem dX1_secondsOf_11 : decode cX1_secondsOf 11 = .ok (.getfield 23, 3) := by decide +kernel
theorem dX1_secondsOf_14 : decode cX1_secondsOf 14 = .ok (.if_icmp .ge 68, 3) := by decide +kernel
theorem dX1_secondsOf_17 : decode cX1_secondsOf 17 = .ok (.aload_n 0, 1) := by decide +kernel
theorem dX1_secondsOf_18 : decode cX1_secondsOf 18 = .ok (.getfield 9, 3) := by decide +kernel
theorem dX1_secondsOf_21 : decode cX1_secondsOf 21 = .ok (.aload_n 0, 1) := by decide +kernel
theorem dX1_secondsOf_22 : decode cX1_secondsOf 22 = .ok (.getfield 20, 3) := by decide +kernel
theorem dX1_secondsOf_25 : decode cX1_secondsOf 25 = .ok (.iload_n 3, 1) := by decide +kernel
theorem dX1_secondsOf_26 : decode cX1_secondsOf 26 = .ok (.iaload, 1) := by decide +kernel
theorem dX1_secondsOf_27 : decode cX1_secondsOf 27 = .ok (.iaload, 1) := by decide +kernel
theorem dX1_secondsOf_28 : decode cX1_secondsOf 28 = .ok (.iload_n 1, 1) := by decide +kernel
theorem dX1_secondsOf_29 : decode cX1_secondsOf 29 = .ok (.if_icmp .ne 47, 3) := by decide +kernel
theorem dX1_secondsOf_32 : decode cX1_secondsOf 32 = .ok (.aload_n 0, 1) := by decide +kernel
theorem dX1_secondsOf_33 : decode cX1_secondsOf 33 = .ok (.getfield 48, 3) := by decide +kernel
theorem dX1_secondsOf_36 : decode cX1_secondsOf 36 = .ok (.istore 4, 2) := by decide +kernel
theorem dX1_secondsOf_38 : decode cX1_secondsOf 38 = .ok (.aload_n 0, 1) := by decide +kernel
theorem dX1_secondsOf_39 : decode cX1_secondsOf 39 = .ok (.aload_n 0, 1) := by decide +kernel
theorem dX1_secondsOf_40 : decode cX1_secondsOf 40 = .ok (.getfield 20, 3) := by decide +kernel
theorem dX1_secondsOf_43 : decode cX1_secondsOf 43 = .ok (.iload_n 3, 1) := by decide +kernel
theorem dX1_secondsOf_44 : decode cX1_secondsOf 44 = .ok (.iaload, 1) := by decide +kernel
theorem dX1_secondsOf_45 : decode cX1_secondsOf 45 = .ok (.getstatic 196, 3) := by decide +kernel
theorem dX1_secondsOf_48 : decode cX1_secondsOf 48 = .ok (.invokevirtual 153, 3) := by decide +kernel
theorem dX1_secondsOf_51 : decode cX1_secondsOf 51 = .ok (.aload_n 0, 1) := by decide +kernel
theorem dX1_secondsOf_52 : decode cX1_secondsOf 52 = .ok (.aload_n 0, 1) := by decide +kernel
theorem dX1_secondsOf_53 : decode cX1_secondsOf 53 = .ok (.getfield 20, 3) := by decide +kernel
theorem dX1_secondsOf_56 : decode cX1_secondsOf 56 = .ok (.iload_n 3, 1) := by decide +kernel
theorem dX1_secondsOf_57 : decode cX1_secondsOf 57 = .ok (.iaload, 1) := by decide +kernel
theorem dX1_secondsOf_58 : decode cX1_secondsOf 58 = .ok (.getstatic 138, 3) := by decide +kernel
theorem dX1_secondsOf_61 : decode cX1_secondsOf 61 = .ok (.invokevirtual 153, 3) := by decide +kernel
theorem dX1_secondsOf_64 : decode cX1_secondsOf 64 = .ok (.aload_n 0, 1) := by decide +kernel
theorem dX1_secondsOf_65 : decode cX1_secondsOf 65 = .ok (.getfield 48, 3) := by decide +kernel
theorem dX1_secondsOf_68 : decode cX1_secondsOf 68 = .ok (.iload 4, 2) := by decide +kernel
theorem dX1_secondsOf_70 : decode cX1_secondsOf 70 = .ok (.if_icmp .le 6, 3) := by decide +kernel
theorem dX1_secondsOf_73 : decode cX1_secondsOf 73 = .ok (.iinc 2 5, 3) := by decide +kernel
theorem dX1_secondsOf_76 : decode cX1_secondsOf 76 = .ok (.iinc 3 1, 3) := by decide +kernel
theorem dX1_secondsOf_79 : decode cX1_secondsOf 79 = .ok (.goto (-70), 3) := by decide +kernel
theorem dX1_secondsOf_82 : decode cX1_secondsOf 82 = .ok (.aload_n 0, 1) := by decide +kernel
theorem dX1_secondsOf_83 : decode cX1_secondsOf 83 = .ok (.iload_n 1, 1) := by decide +kernel
theorem dX1_secondsOf_84 : decode cX1_secondsOf 84 = .ok (.invokevirtual 199, 3) := by decide +kernel
theorem dX1_secondsOf_87 : decode cX1_secondsOf 87 = .ok (.iload_n 2, 1) := by decide +kernel
theorem dX1_secondsOf_88 : decode cX1_secondsOf 88 = .ok (.aload_n 0, 1) := by decide +kernel
theorem dX1_secondsOf_89 : decode cX1_secondsOf 89 = .ok (.invokevirtual 205, 3) := by decide +kernel
theorem dX1_secondsOf_92 : decode cX1_secondsOf 92 = .ok (.iadd, 1) := by decide +kernel
theorem dX1_secondsOf_93 : decode cX1_secondsOf 93 = .ok (.ireturn, 1) := by decide +kernel
theorem dX1_secondsOfRow_0 : decode cX1_secondsOfRow 0 = .ok (.iconst 0, 1) := by decide +kernel
theorem dX1_secondsOfRow_1 : decode cX1_secondsOfRow 1 = .ok (.istore_n 1, 1) := by decide +kernel
theorem dX1_secondsOfRow_2 : decode cX1_secondsOfRow 2 = .ok (.iconst 0, 1) := by decide +kernel
theorem dX1_secondsOfRow_3 : decode cX1_secondsOfRow 3 = .ok (.istore_n 2, 1) := by decide +kernel
theorem dX1_secondsOfRow_4 : decode cX1_secondsOfRow 4 = .ok (.iload_n 2, 1) := by decide +kernel
theorem dX1_secondsOfRow_5 : decode cX1_secondsOfRow 5 = .ok (.aload_n 0, 1) := by decide +kernel
theorem dX1_secondsOfRow_6 : decode cX1_secondsOfRow 6 = .ok (.getfield 48, 3) := by decide +kernel
theorem dX1_secondsOfRow_9 : decode cX1_secondsOfRow 9 = .ok (.if_icmp .ge 27, 3) := by decide +kernel
theorem dX1_secondsOfRow_12 : decode cX1_secondsOfRow 12 = .ok (.iload_n 1, 1) := by decide +kernel
theorem dX1_secondsOfRow_13 : decode cX1_secondsOfRow 13 = .ok (.getstatic 208, 3) := by decide +kernel
theorem dX1_secondsOfRow_16 : decode cX1_secondsOfRow 16 = .ok (.aload_n 0, 1) := by decide +kernel
theorem dX1_secondsOfRow_17 : decode cX1_secondsOfRow 17 = .ok (.getfield 30, 3) := by decide +kernel
theorem dX1_secondsOfRow_20 : decode cX1_secondsOfRow 20 = .ok (.aload_n 0, 1) := by decide +kernel
theorem dX1_secondsOfRow_21 : decode cX1_secondsOfRow 21 = .ok (.getfield 45, 3) := by decide +kernel
theorem dX1_secondsOfRow_24 : decode cX1_secondsOfRow 24 = .ok (.iload_n 2, 1) := by decide +kernel
theorem dX1_secondsOfRow_25 : decode cX1_secondsOfRow 25 = .ok (.iaload, 1) := by decide +kernel
theorem dX1_secondsOfRow_26 : decode cX1_secondsOfRow 26 = .ok (.iaload, 1) := by decide +kernel
theorem dX1_secondsOfRow_27 : decode cX1_secondsOfRow 27 = .ok (.iaload, 1) := by decide +kernel
theorem dX1_secondsOfRow_28 : decode cX1_secondsOfRow 28 = .ok (.iadd, 1) := by decide +kernel
theorem dX1_secondsOfRow_29 : decode cX1_secondsOfRow 29 = .ok (.istore_n 1, 1) := by decide +kernel
theorem dX1_secondsOfRow_30 : decode cX1_secondsOfRow 30 = .ok (.iinc 2 1, 3) := by decide +kernel
theorem dX1_secondsOfRow_33 : decode cX1_secondsOfRow 33 = .ok (.goto (-29), 3) := by decide +kernel
theorem dX1_secondsOfRow_36 : decode cX1_secondsOfRow 36 = .ok (.iload_n 1, 1) := by decide +kernel
