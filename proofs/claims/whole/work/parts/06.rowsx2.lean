theorem dX1_secondsOfRow_37 : decode cX1_secondsOfRow 37 = .ok (.ireturn, 1) := by decide +kernel
theorem dX2_init_0 : decode cX2_init 0 = .ok (.aload_n 0, 1) := by decide +kernel
theorem dX2_init_1 : decode cX2_init 1 = .ok (.invokespecial 1, 3) := by decide +kernel
theorem dX2_init_4 : decode cX2_init 4 = .ok (.aload_n 0, 1) := by decide +kernel
theorem dX2_init_5 : decode cX2_init 5 = .ok (.sipush 200, 3) := by decide +kernel
theorem dX2_init_8 : decode cX2_init 8 = .ok (.newarray .int, 2) := by decide +kernel
theorem dX2_init_10 : decode cX2_init 10 = .ok (.putfield 7, 3) := by decide +kernel
theorem dX2_init_13 : decode cX2_init 13 = .ok (.aload_n 0, 1) := by decide +kernel
theorem dX2_init_14 : decode cX2_init 14 = .ok (.sipush 200, 3) := by decide +kernel
theorem dX2_init_17 : decode cX2_init 17 = .ok (.newarray .int, 2) := by decide +kernel
theorem dX2_init_19 : decode cX2_init 19 = .ok (.putfield 13, 3) := by decide +kernel
theorem dX2_init_22 : decode cX2_init 22 = .ok (.aload_n 0, 1) := by decide +kernel
theorem dX2_init_23 : decode cX2_init 23 = .ok (.sipush 200, 3) := by decide +kernel
theorem dX2_init_26 : decode cX2_init 26 = .ok (.newarray .boolean, 2) := by decide +kernel
theorem dX2_init_28 : decode cX2_init 28 = .ok (.putfield 16, 3) := by decide +kernel
theorem dX2_init_31 : decode cX2_init 31 = .ok (.aload_n 0, 1) := by decide +kernel
theorem dX2_init_32 : decode cX2_init 32 = .ok (.sipush 240, 3) := by decide +kernel
theorem dX2_init_35 : decode cX2_init 35 = .ok (.newarray .int, 2) := by decide +kernel
theorem dX2_init_37 : decode cX2_init 37 = .ok (.putfield 20, 3) := by decide +kernel
theorem dX2_init_40 : decode cX2_init 40 = .ok (.aload_n 0, 1) := by decide +kernel
theorem dX2_init_41 : decode cX2_init 41 = .ok (.iconst 4, 1) := by decide +kernel
theorem dX2_init_42 : decode cX2_init 42 = .ok (.newarray .int, 2) := by decide +kernel
theorem dX2_init_44 : decode cX2_init 44 = .ok (.putfield 23, 3) := by decide +kernel
theorem dX2_init_47 : decode cX2_init 47 = .ok (.aload_n 0, 1) := by decide +kernel
theorem dX2_init_48 : decode cX2_init 48 = .ok (.sipush 250, 3) := by decide +kernel
theorem dX2_init_51 : decode cX2_init 51 = .ok (.newarray .int, 2) := by decide +kernel
theorem dX2_init_53 : decode cX2_init 53 = .ok (.putfield 26, 3) := by decide +kernel
theorem dX2_init_56 : decode cX2_init 56 = .ok (.aload_n 0, 1) := by decide +kernel
theorem dX2_init_57 : decode cX2_init 57 = .ok (.sipush 250, 3) := by decide +kernel
theorem dX2_init_60 : decode cX2_init 60 = .ok (.newarray .int, 2) := by decide +kernel
theorem dX2_init_62 : decode cX2_init 62 = .ok (.putfield 29, 3) := by decide +kernel
theorem dX2_init_65 : decode cX2_init 65 = .ok (.aload_n 0, 1) := by decide +kernel
theorem dX2_init_66 : decode cX2_init 66 = .ok (.sipush 250, 3) := by decide +kernel
theorem dX2_init_69 : decode cX2_init 69 = .ok (.newarray .int, 2) := by decide +kernel
theorem dX2_init_71 : decode cX2_init 71 = .ok (.putfield 32, 3) := by decide +kernel
theorem dX2_init_74 : decode cX2_init 74 = .ok (.aload_n 0, 1) := by decide +kernel
theorem dX2_init_75 : decode cX2_init 75 = .ok (.sipush 250, 3) := by decide +kernel
theorem dX2_init_78 : decode cX2_init 78 = .ok (.newarray .int, 2) := by decide +kernel
theorem dX2_init_80 : decode cX2_init 80 = .ok (.putfield 35, 3) := by decide +kernel
theorem dX2_init_83 : decode cX2_init 83 = .ok (.aload_n 0, 1) := by decide +kernel
theorem dX2_init_84 : decode cX2_init 84 = .ok (.sipush 250, 3) := by decide +kernel
theorem dX2_init_87 : decode cX2_init 87 = .ok (.newarray .int, 2) := by decide +kernel
theorem dX2_init_89 : decode cX2_init 89 = .ok (.putfield 38, 3) := by decide +kernel
theorem dX2_init_92 : decode cX2_init 92 = .ok (.aload_n 0, 1) := by decide +kernel
theorem dX2_init_93 : decode cX2_init 93 = .ok (.sipush 250, 3) := by decide +kernel
theorem dX2_init_96 : decode cX2_init 96 = .ok (.newarray .int, 2) := by decide +kernel
theorem dX2_init_98 : decode cX2_init 98 = .ok (.putfield 41, 3) := by decide +kernel
theorem dX2_init_101 : decode cX2_init 101 = .ok (.aload_n 0, 1) := by decide +kernel
theorem dX2_init_102 : decode cX2_init 102 = .ok (.iload_n 1, 1) := by decide +kernel
theorem dX2_init_103 : decode cX2_init 103 = .ok (.iconst 1, 1) := by decide +kernel
theorem dX2_init_104 : decode cX2_init 104 = .ok (.if_icmp .ge 7, 3) := by decide +kernel
theorem dX2_init_107 : decode cX2_init 107 = .ok (.iconst 1, 1) := by decide +kernel
theorem dX2_init_108 : decode cX2_init 108 = .ok (.goto 15, 3) := by decide +kernel
theorem dX2_init_111 : decode cX2_init 111 = .ok (.iload_n 1, 1) := by decide +kernel
theorem dX2_init_112 : decode cX2_init 112 = .ok (.bipush 40, 2) := by decide +kernel
theorem dX2_init_114 : decode cX2_init 114 = .ok (.if_icmp .le 8, 3) := by decide +kernel
theorem dX2_init_117 : decode cX2_init 117 = .ok (.bipush 40, 2) := by decide +kernel
theorem dX2_init_119 : decode cX2_init 119 = .ok (.goto 4, 3) := by decide +kernel
theorem dX2_init_122 : decode cX2_init 122 = .ok (.iload_n 1, 1) := by decide +kernel
theorem dX2_init_123 : decode cX2_init 123 = .ok (.putfield 44, 3) := by decide +kernel
theorem dX2_init_126 : decode cX2_init 126 = .ok (.iconst 0, 1) := by decide +kernel
theorem dX2_init_127 : decode cX2_init 127 = .ok (.istore_n 2, 1) := by decide +kernel
theorem dX2_init_128 : decode cX2_init 128 = .ok (.iload_n 2, 1) := by decide +kernel
theorem dX2_init_129 : decode cX2_init 129 = .ok (.sipush 200, 3) := by decide +kernel
theorem dX2_init_132 : decode cX2_init 132 = .ok (.if_icmp .ge 23, 3) := by decide +kernel
theorem dX2_init_135 : decode cX2_init 135 = .ok (.aload_n 0, 1) := by decide +kernel
theorem dX2_init_136 : decode cX2_init 136 = .ok (.getfield 7, 3) := by decide +kernel
theorem dX2_init_139 : decode cX2_init 139 = .ok (.iload_n 2, 1) := by decide +kernel
theorem dX2_init_140 : decode cX2_init 140 = .ok (.iconst (-1), 1) := by decide +kernel
theorem dX2_init_141 : decode cX2_init 141 = .ok (.iastore, 1) := by decide +kernel
theorem dX2_init_142 : decode cX2_init 142 = .ok (.aload_n 0, 1) := by decide +kernel
theorem dX2_init_143 : decode cX2_init 143 = .ok (.getfield 13, 3) := by decide +kernel
theorem dX2_init_146 : decode cX2_init 146 = .ok (.iload_n 2, 1) := by decide +kernel
theorem dX2_init_147 : decode cX2_init 147 = .ok (.iconst (-1), 1) := by decide +kernel
theorem dX2_init_148 : decode cX2_init 148 = .ok (.iastore, 1) := by decide +kernel
theorem dX2_init_149 : decode cX2_init 149 = .ok (.iinc 2 1, 3) := by decide +kernel
theorem dX2_init_152 : decode cX2_init 152 = .ok (.goto (-24), 3) := by decide +kernel
theorem dX2_init_155 : decode cX2_init 155 = .ok (.return_, 1) := by decide +kernel
theorem dX2_thrown_0 : decode cX2_thrown 0 = .ok (.aload_n 0, 1) := by decide +kernel
theorem dX2_thrown_1 : decode cX2_thrown 1 = .ok (.getfield 48, 3) := by decide +kernel
theorem dX2_thrown_4 : decode cX2_thrown 4 = .ok (.ireturn, 1) := by decide +kernel
theorem dX2_in_0 : decode cX2_in 0 = .ok (.iload_n 0, 1) := by decide +kernel
theorem dX2_in_1 : decode cX2_in 1 = .ok (.iload_n 1, 1) := by decide +kernel
theorem dX2_in_2 : decode cX2_in 2 = .ok (.if_icmp .lt 12, 3) := by decide +kernel
theorem dX2_in_5 : decode cX2_in 5 = .ok (.iload_n 0, 1) := by decide +kernel
theorem dX2_in_6 : decode cX2_in 6 = .ok (.iload_n 2, 1) := by decide +kernel
theorem dX2_in_7 : decode cX2_in 7 = .ok (.if_icmp .gt 7, 3) := by decide +kernel
theorem dX2_in_10 : decode cX2_in 10 = .ok (.iconst 1, 1) := by decide +kernel
theorem dX2_in_11 : decode cX2_in 11 = .ok (.goto 4, 3) := by decide +kernel
theorem dX2_in_14 : decode cX2_in 14 = .ok (.iconst 0, 1) := by decide +kernel
theorem dX2_in_15 : decode cX2_in 15 = .ok (.ireturn, 1) := by decide +kernel
set_option maxRecDepth 20000 in
theorem ggX2_isHouse_X2_in : GoodIn wsX2_isHouse wsX2_in := goodIn_r _ [5] (by decide +kernel) (by decide +kernel)
set_option maxRecDepth 20000 in
theorem gX2_isHouse_X2_in : GoodIn wsX2_isHouse (va_wsS RX2 51 yX2_in wsX2_in) := goodIn_app (goodIn_of _ (by decide +kernel)) ggX2_isHouse_X2_in
theorem dX2_isHouse_0 : decode cX2_isHouse 0 = .ok (.iload_n 1, 1) := by decide +kernel
theorem dX2_isHouse_1 : decode cX2_isHouse 1 = .ok (.iconst 0, 1) := by decide +kernel
theorem dX2_isHouse_2 : decode cX2_isHouse 2 = .ok (.sipush 199, 3) := by decide +kernel
theorem dX2_isHouse_5 : decode cX2_isHouse 5 = .ok (.invokestatic 51, 3) := by decide +kernel
theorem dX2_isHouse_8 : decode cX2_isHouse 8 = .ok (.ifCond .eq 16, 3) := by decide +kernel
theorem dX2_isHouse_11 : decode cX2_isHouse 11 = .ok (.aload_n 0, 1) := by decide +kernel
theorem dX2_isHouse_12 : decode cX2_isHouse 12 = .ok (.getfield 7, 3) := by decide +kernel
theorem dX2_isHouse_15 : decode cX2_isHouse 15 = .ok (.iload_n 1, 1) := by decide +kernel
theorem dX2_isHouse_16 : decode cX2_isHouse 16 = .ok (.iaload, 1) := by decide +kernel
theorem dX2_isHouse_17 : decode cX2_isHouse 17 = .ok (.ifCond .lt 7, 3) := by decide +kernel
theorem dX2_isHouse_20 : decode cX2_isHouse 20 = .ok (.iconst 1, 1) := by decide +kernel
theorem dX2_isHouse_21 : decode cX2_isHouse 21 = .ok (.goto 4, 3) := by decide +kernel
theorem dX2_isHouse_24 : decode cX2_isHouse 24 = .ok (.iconst 0, 1) := by decide +kernel
theorem dX2_isHouse_25 : decode cX2_isHouse 25 = .ok (.ireturn, 1) := by decide +kernel
set_option maxRecDepth 20000 in
theorem ggX2_isItem_X2_in : GoodIn wsX2_isItem wsX2_in := goodIn_r _ [5] (by decide +kernel) (by decide +kernel)
set_option maxRecDepth 20000 in
theorem gX2_isItem_X2_in : GoodIn wsX2_isItem (va_wsS RX2 51 yX2_in wsX2_in) := goodIn_app (goodIn_of _ (by decide +kernel)) ggX2_isItem_X2_in
theorem dX2_isItem_0 : decode cX2_isItem 0 = .ok (.iload_n 1, 1) := by decide +kernel
theorem dX2_isItem_1 : decode cX2_isItem 1 = .ok (.iconst 0, 1) := by decide +kernel
theorem dX2_isItem_2 : decode cX2_isItem 2 = .ok (.aload_n 0, 1) := by decide +kernel
theorem dX2_isItem_3 : decode cX2_isItem 3 = .ok (.getfield 55, 3) := by decide +kernel
theorem dX2_isItem_6 : decode cX2_isItem 6 = .ok (.iconst 1, 1) := by decide +kernel
theorem dX2_isItem_7 : decode cX2_isItem 7 = .ok (.isub, 1) := by decide +kernel
theorem dX2_isItem_8 : decode cX2_isItem 8 = .ok (.invokestatic 51, 3) := by decide +kernel
theorem dX2_isItem_11 : decode cX2_isItem 11 = .ok (.ireturn, 1) := by decide +kernel
set_option maxRecDepth 20000 in
theorem ggX2_house_X2_in : GoodIn wsX2_house wsX2_in := goodIn_r _ [9] (by decide +kernel) (by decide +kernel)
set_option maxRecDepth 20000 in
theorem gX2_house_X2_in : GoodIn wsX2_house (va_wsS RX2 51 yX2_in wsX2_in) := goodIn_app (goodIn_of _ (by decide +kernel)) ggX2_house_X2_in
theorem dX2_house_0 : decode cX2_house 0 = .ok (.aload_n 0, 1) := by decide +kernel
theorem dX2_house_1 : decode cX2_house 1 = .ok (.iconst 0, 1) := by decide +kernel
theorem dX2_house_2 : decode cX2_house 2 = .ok (.putfield 48, 3) := by decide +kernel
theorem dX2_house_5 : decode cX2_house 5 = .ok (.iload_n 1, 1) := by decide +kernel
theorem dX2_house_6 : decode cX2_house 6 = .ok (.iconst 0, 1) := by decide +kernel
theorem dX2_house_7 : decode cX2_house 7 = .ok (.iconst 3, 1) := by decide +kernel
theorem dX2_house_8 : decode cX2_house 8 = .ok (.invokestatic 51, 3) := by decide +kernel
theorem dX2_house_11 : decode cX2_house 11 = .ok (.ifCond .ne 5, 3) := by decide +kernel
theorem dX2_house_14 : decode cX2_house 14 = .ok (.iconst (-1), 1) := by decide +kernel
theorem dX2_house_15 : decode cX2_house 15 = .ok (.ireturn, 1) := by decide +kernel
theorem dX2_house_16 : decode cX2_house 16 = .ok (.iload_n 2, 1) := by decide +kernel
theorem dX2_house_17 : decode cX2_house 17 = .ok (.iconst 0, 1) := by decide +kernel
theorem dX2_house_18 : decode cX2_house 18 = .ok (.sipush 199, 3) := by decide +kernel
theorem dX2_house_21 : decode cX2_house 21 = .ok (.invokestatic 51, 3) := by decide +kernel
theorem dX2_house_24 : decode cX2_house 24 = .ok (.ifCond .ne 6, 3) := by decide +kernel
theorem dX2_house_27 : decode cX2_house 27 = .ok (.bipush (-2), 2) := by decide +kernel
theorem dX2_house_29 : decode cX2_house 29 = .ok (.ireturn, 1) := by decide +kernel
theorem dX2_house_30 : decode cX2_house 30 = .ok (.aload_n 0, 1) := by decide +kernel
theorem dX2_house_31 : decode cX2_house 31 = .ok (.getfield 7, 3) := by decide +kernel
theorem dX2_house_34 : decode cX2_house 34 = .ok (.iload_n 2, 1) := by decide +kernel
theorem dX2_house_35 : decode cX2_house 35 = .ok (.iaload, 1) := by decide +kernel
theorem dX2_house_36 : decode cX2_house 36 = .ok (.ifCond .lt 6, 3) := by decide +kernel
theorem dX2_house_39 : decode cX2_house 39 = .ok (.bipush (-3), 2) := by decide +kernel
theorem dX2_house_41 : decode cX2_house 41 = .ok (.ireturn, 1) := by decide +kernel
theorem dX2_house_42 : decode cX2_house 42 = .ok (.aload_n 0, 1) := by decide +kernel
theorem dX2_house_43 : decode cX2_house 43 = .ok (.getfield 58, 3) := by decide +kernel
theorem dX2_house_46 : decode cX2_house 46 = .ok (.bipush 60, 2) := by decide +kernel
theorem dX2_house_48 : decode cX2_house 48 = .ok (.if_icmp .ne 6, 3) := by decide +kernel
theorem dX2_house_51 : decode cX2_house 51 = .ok (.bipush (-4), 2) := by decide +kernel
theorem dX2_house_53 : decode cX2_house 53 = .ok (.ireturn, 1) := by decide +kernel
theorem dX2_house_54 : decode cX2_house 54 = .ok (.aload_n 0, 1) := by decide +kernel
theorem dX2_house_55 : decode cX2_house 55 = .ok (.dup, 1) := by decide +kernel
theorem dX2_house_56 : decode cX2_house 56 = .ok (.getfield 58, 3) := by decide +kernel
theorem dX2_house_59 : decode cX2_house 59 = .ok (.iconst 1, 1) := by decide +kernel
theorem dX2_house_60 : decode cX2_house 60 = .ok (.iadd, 1) := by decide +kernel
theorem dX2_house_61 : decode cX2_house 61 = .ok (.putfield 58, 3) := by decide +kernel
theorem dX2_house_64 : decode cX2_house 64 = .ok (.aload_n 0, 1) := by decide +kernel
theorem dX2_house_65 : decode cX2_house 65 = .ok (.getfield 7, 3) := by decide +kernel
theorem dX2_house_68 : decode cX2_house 68 = .ok (.iload_n 2, 1) := by decide +kernel
theorem dX2_house_69 : decode cX2_house 69 = .ok (.iload_n 1, 1) := by decide +kernel
theorem dX2_house_70 : decode cX2_house 70 = .ok (.iastore, 1) := by decide +kernel
theorem dX2_house_71 : decode cX2_house 71 = .ok (.aload_n 0, 1) := by decide +kernel
theorem dX2_house_72 : decode cX2_house 72 = .ok (.getfield 20, 3) := by decide +kernel
theorem dX2_house_75 : decode cX2_house 75 = .ok (.bipush 60, 2) := by decide +kernel
theorem dX2_house_77 : decode cX2_house 77 = .ok (.iload_n 1, 1) := by decide +kernel
theorem dX2_house_78 : decode cX2_house 78 = .ok (.imul, 1) := by decide +kernel
theorem dX2_house_79 : decode cX2_house 79 = .ok (.aload_n 0, 1) := by decide +kernel
theorem dX2_house_80 : decode cX2_house 80 = .ok (.getfield 23, 3) := by decide +kernel
theorem dX2_house_83 : decode cX2_house 83 = .ok (.iload_n 1, 1) := by decide +kernel
theorem dX2_house_84 : decode cX2_house 84 = .ok (.iaload, 1) := by decide +kernel
theorem dX2_house_85 : decode cX2_house 85 = .ok (.iadd, 1) := by decide +kernel
theorem dX2_house_86 : decode cX2_house 86 = .ok (.iload_n 2, 1) := by decide +kernel
theorem dX2_house_87 : decode cX2_house 87 = .ok (.iastore, 1) := by decide +kernel
theorem dX2_house_88 : decode cX2_house 88 = .ok (.aload_n 0, 1) := by decide +kernel
theorem dX2_house_89 : decode cX2_house 89 = .ok (.getfield 23, 3) := by decide +kernel
theorem dX2_house_92 : decode cX2_house 92 = .ok (.iload_n 1, 1) := by decide +kernel
theorem dX2_house_93 : decode cX2_house 93 = .ok (.dup2, 1) := by decide +kernel
theorem dX2_house_94 : decode cX2_house 94 = .ok (.iaload, 1) := by decide +kernel
theorem dX2_house_95 : decode cX2_house 95 = .ok (.iconst 1, 1) := by decide +kernel
theorem dX2_house_96 : decode cX2_house 96 = .ok (.iadd, 1) := by decide +kernel
theorem dX2_house_97 : decode cX2_house 97 = .ok (.iastore, 1) := by decide +kernel
theorem dX2_house_98 : decode cX2_house 98 = .ok (.aload_n 0, 1) := by decide +kernel
theorem dX2_house_99 : decode cX2_house 99 = .ok (.getfield 23, 3) := by decide +kernel
theorem dX2_house_102 : decode cX2_house 102 = .ok (.iload_n 1, 1) := by decide +kernel
theorem dX2_house_103 : decode cX2_house 103 = .ok (.iaload, 1) := by decide +kernel
theorem dX2_house_104 : decode cX2_house 104 = .ok (.ireturn, 1) := by decide +kernel
set_option maxRecDepth 20000 in
theorem ggX2_point_X2_isHouse : GoodIn wsX2_point wsX2_isHouse := goodIn_r _ [8, 9, 10, 11, 7, 12, 13, 14, 15, 16, 17, 18, 19, 20, 21, 22, 23, 24, 25, 26, 27, 28, 29, 30, 31] (by decide +kernel) (by decide +kernel)
set_option maxRecDepth 20000 in
theorem gX2_point_X2_isHouse : GoodIn wsX2_point (wsV RX2 61 RX2 yX2_isHouse wsX2_isHouse) := goodIn_app (goodIn_of _ (by decide +kernel)) ggX2_point_X2_isHouse
set_option maxRecDepth 20000 in
theorem ggX2_point_X2_in : GoodIn wsX2_point wsX2_in := goodIn_r _ [12] (by decide +kernel) (by decide +kernel)
set_option maxRecDepth 20000 in
theorem gX2_point_X2_in : GoodIn wsX2_point (va_wsS RX2 51 yX2_in wsX2_in) := goodIn_app (goodIn_of _ (by decide +kernel)) ggX2_point_X2_in
theorem dX2_point_0 : decode cX2_point 0 = .ok (.aload_n 0, 1) := by decide +kernel
theorem dX2_point_1 : decode cX2_point 1 = .ok (.iconst 0, 1) := by decide +kernel
theorem dX2_point_2 : decode cX2_point 2 = .ok (.putfield 48, 3) := by decide +kernel
theorem dX2_point_5 : decode cX2_point 5 = .ok (.aload_n 0, 1) := by decide +kernel
theorem dX2_point_6 : decode cX2_point 6 = .ok (.iload_n 1, 1) := by decide +kernel
theorem dX2_point_7 : decode cX2_point 7 = .ok (.invokevirtual 61, 3) := by decide +kernel
theorem dX2_point_10 : decode cX2_point 10 = .ok (.ifCond .ne 5, 3) := by decide +kernel
theorem dX2_point_13 : decode cX2_point 13 = .ok (.iconst (-1), 1) := by decide +kernel
theorem dX2_point_14 : decode cX2_point 14 = .ok (.ireturn, 1) := by decide +kernel
theorem dX2_point_15 : decode cX2_point 15 = .ok (.iload_n 2, 1) := by decide +kernel
theorem dX2_point_16 : decode cX2_point 16 = .ok (.iconst 0, 1) := by decide +kernel
theorem dX2_point_17 : decode cX2_point 17 = .ok (.aload_n 0, 1) := by decide +kernel
theorem dX2_point_18 : decode cX2_point 18 = .ok (.getfield 44, 3) := by decide +kernel
theorem dX2_point_21 : decode cX2_point 21 = .ok (.iconst 1, 1) := by decide +kernel
theorem dX2_point_22 : decode cX2_point 22 = .ok (.isub, 1) := by decide +kernel
theorem dX2_point_23 : decode cX2_point 23 = .ok (.invokestatic 51, 3) := by decide +kernel
theorem dX2_point_26 : decode cX2_point 26 = .ok (.ifCond .ne 6, 3) := by decide +kernel
theorem dX2_point_29 : decode cX2_point 29 = .ok (.bipush (-2), 2) := by decide +kernel
theorem dX2_point_31 : decode cX2_point 31 = .ok (.ireturn, 1) := by decide +kernel
theorem dX2_point_32 : decode cX2_point 32 = .ok (.aload_n 0, 1) := by decide +kernel
theorem dX2_point_33 : decode cX2_point 33 = .ok (.getfield 13, 3) := by decide +kernel
theorem dX2_point_36 : decode cX2_point 36 = .ok (.iload_n 1, 1) := by decide +kernel
theorem dX2_point_37 : decode cX2_point 37 = .ok (.iload_n 2, 1) := by decide +kernel
theorem dX2_point_38 : decode cX2_point 38 = .ok (.iastore, 1) := by decide +kernel
theorem dX2_point_39 : decode cX2_point 39 = .ok (.iconst 0, 1) := by decide +kernel
theorem dX2_point_40 : decode cX2_point 40 = .ok (.istore_n 3, 1) := by decide +kernel
theorem dX2_point_41 : decode cX2_point 41 = .ok (.iconst 0, 1) := by decide +kernel
theorem dX2_point_42 : decode cX2_point 42 = .ok (.istore 4, 2) := by decide +kernel
theorem dX2_point_44 : decode cX2_point 44 = .ok (.iload 4, 2) := by decide +kernel
theorem dX2_point_46 : decode cX2_point 46 = .ok (.sipush 200, 3) := by decide +kernel
theorem dX2_point_49 : decode cX2_point 49 = .ok (.if_icmp .ge 28, 3) := by decide +kernel
theorem dX2_point_52 : decode cX2_point 52 = .ok (.aload_n 0, 1) := by decide +kernel
theorem dX2_point_53 : decode cX2_point 53 = .ok (.getfield 13, 3) := by decide +kernel
theorem dX2_point_56 : decode cX2_point 56 = .ok (.iload 4, 2) := by decide +kernel
theorem dX2_point_58 : decode cX2_point 58 = .ok (.iaload, 1) := by decide +kernel
theorem dX2_point_59 : decode cX2_point 59 = .ok (.iload_n 2, 1) := by decide +kernel
theorem dX2_point_60 : decode cX2_point 60 = .ok (.if_icmp .ne 9, 3) := by decide +kernel
theorem dX2_point_63 : decode cX2_point 63 = .ok (.iload_n 3, 1) := by decide +kernel
theorem dX2_point_64 : decode cX2_point 64 = .ok (.iconst 1, 1) := by decide +kernel
theorem dX2_point_65 : decode cX2_point 65 = .ok (.iadd, 1) := by decide +kernel
theorem dX2_point_66 : decode cX2_point 66 = .ok (.goto 4, 3) := by decide +kernel
theorem dX2_point_69 : decode cX2_point 69 = .ok (.iload_n 3, 1) := by decide +kernel
theorem dX2_point_70 : decode cX2_point 70 = .ok (.istore_n 3, 1) := by decide +kernel
theorem dX2_point_71 : decode cX2_point 71 = .ok (.iinc 4 1, 3) := by decide +kernel
theorem dX2_point_74 : decode cX2_point 74 = .ok (.goto (-30), 3) := by decide +kernel
theorem dX2_point_77 : decode cX2_point 77 = .ok (.iload_n 3, 1) := by decide +kernel
theorem dX2_point_78 : decode cX2_point 78 = .ok (.ireturn, 1) := by decide +kernel
set_option maxRecDepth 20000 in
theorem ggX2_item_X2_in : GoodIn wsX2_item wsX2_in := goodIn_r _ [11] (by decide +kernel) (by decide +kernel)
set_option maxRecDepth 20000 in
theorem gX2_item_X2_in : GoodIn wsX2_item (va_wsS RX2 51 yX2_in wsX2_in) := goodIn_app (goodIn_of _ (by decide +kernel)) ggX2_item_X2_in
theorem dX2_item_0 : decode cX2_item 0 = .ok (.aload_n 0, 1) := by decide +kernel
theorem dX2_item_1 : decode cX2_item 1 = .ok (.iconst 0, 1) := by decide +kernel
theorem dX2_item_2 : decode cX2_item 2 = .ok (.putfield 48, 3) := by decide +kernel
theorem dX2_item_5 : decode cX2_item 5 = .ok (.iload_n 1, 1) := by decide +kernel
theorem dX2_item_6 : decode cX2_item 6 = .ok (.iconst 0, 1) := by decide +kernel
theorem dX2_item_7 : decode cX2_item 7 = .ok (.sipush 199, 3) := by decide +kernel
theorem dX2_item_10 : decode cX2_item 10 = .ok (.invokestatic 51, 3) := by decide +kernel
theorem dX2_item_13 : decode cX2_item 13 = .ok (.ifCond .eq 12, 3) := by decide +kernel
theorem dX2_item_16 : decode cX2_item 16 = .ok (.iload_n 2, 1) := by decide +kernel
theorem dX2_item_17 : decode cX2_item 17 = .ok (.iconst 0, 1) := by decide +kernel
theorem dX2_item_18 : decode cX2_item 18 = .ok (.iconst 2, 1) := by decide +kernel
theorem dX2_item_19 : decode cX2_item 19 = .ok (.invokestatic 51, 3) := by decide +kernel
theorem dX2_item_22 : decode cX2_item 22 = .ok (.ifCond .ne 6, 3) := by decide +kernel
theorem dX2_item_25 : decode cX2_item 25 = .ok (.bipush (-2), 2) := by decide +kernel
theorem dX2_item_27 : decode cX2_item 27 = .ok (.ireturn, 1) := by decide +kernel
theorem dX2_item_28 : decode cX2_item 28 = .ok (.aload_n 0, 1) := by decide +kernel
theorem dX2_item_29 : decode cX2_item 29 = .ok (.getfield 55, 3) := by decide +kernel
theorem dX2_item_32 : decode cX2_item 32 = .ok (.sipush 250, 3) := by decide +kernel
theorem dX2_item_35 : decode cX2_item 35 = .ok (.if_icmp .ne 6, 3) := by decide +kernel
theorem dX2_item_38 : decode cX2_item 38 = .ok (.bipush (-4), 2) := by decide +kernel
theorem dX2_item_40 : decode cX2_item 40 = .ok (.ireturn, 1) := by decide +kernel
theorem dX2_item_41 : decode cX2_item 41 = .ok (.aload_n 0, 1) := by decide +kernel
theorem dX2_item_42 : decode cX2_item 42 = .ok (.getfield 26, 3) := by decide +kernel
theorem dX2_item_45 : decode cX2_item 45 = .ok (.aload_n 0, 1) := by decide +kernel
theorem dX2_item_46 : decode cX2_item 46 = .ok (.getfield 55, 3) := by decide +kernel
theorem dX2_item_49 : decode cX2_item 49 = .ok (.iload_n 1, 1) := by decide +kernel
theorem dX2_item_50 : decode cX2_item 50 = .ok (.iastore, 1) := by decide +kernel
theorem dX2_item_51 : decode cX2_item 51 = .ok (.aload_n 0, 1) := by decide +kernel
theorem dX2_item_52 : decode cX2_item 52 = .ok (.getfield 29, 3) := by decide +kernel
theorem dX2_item_55 : decode cX2_item 55 = .ok (.aload_n 0, 1) := by decide +kernel
theorem dX2_item_56 : decode cX2_item 56 = .ok (.getfield 55, 3) := by decide +kernel
theorem dX2_item_59 : decode cX2_item 59 = .ok (.iload_n 2, 1) := by decide +kernel
theorem dX2_item_60 : decode cX2_item 60 = .ok (.iastore, 1) := by decide +kernel
theorem dX2_item_61 : decode cX2_item 61 = .ok (.aload_n 0, 1) := by decide +kernel
theorem dX2_item_62 : decode cX2_item 62 = .ok (.getfield 32, 3) := by decide +kernel
theorem dX2_item_65 : decode cX2_item 65 = .ok (.aload_n 0, 1) := by decide +kernel
theorem dX2_item_66 : decode cX2_item 66 = .ok (.getfield 55, 3) := by decide +kernel
theorem dX2_item_69 : decode cX2_item 69 = .ok (.iconst (-1), 1) := by decide +kernel
theorem dX2_item_70 : decode cX2_item 70 = .ok (.iastore, 1) := by decide +kernel
theorem dX2_item_71 : decode cX2_item 71 = .ok (.aload_n 0, 1) := by decide +kernel
theorem dX2_item_72 : decode cX2_item 72 = .ok (.getfield 35, 3) := by decide +kernel
theorem dX2_item_75 : decode cX2_item 75 = .ok (.aload_n 0, 1) := by decide +kernel
theorem dX2_item_76 : decode cX2_item 76 = .ok (.getfield 55, 3) := by decide +kernel
theorem dX2_item_79 : decode cX2_item 79 = .ok (.iconst (-1), 1) := by decide +kernel
theorem dX2_item_80 : decode cX2_item 80 = .ok (.iastore, 1) := by decide +kernel
theorem dX2_item_81 : decode cX2_item 81 = .ok (.aload_n 0, 1) := by decide +kernel
theorem dX2_item_82 : decode cX2_item 82 = .ok (.getfield 38, 3) := by decide +kernel
theorem dX2_item_85 : decode cX2_item 85 = .ok (.aload_n 0, 1) := by decide +kernel
theorem dX2_item_86 : decode cX2_item 86 = .ok (.getfield 55, 3) := by decide +kernel
theorem dX2_item_89 : decode cX2_item 89 = .ok (.iconst (-1), 1) := by decide +kernel
theorem dX2_item_90 : decode cX2_item 90 = .ok (.iastore, 1) := by decide +kernel
theorem dX2_item_91 : decode cX2_item 91 = .ok (.aload_n 0, 1) := by decide +kernel
theorem dX2_item_92 : decode cX2_item 92 = .ok (.dup, 1) := by decide +kernel
theorem dX2_item_93 : decode cX2_item 93 = .ok (.getfield 55, 3) := by decide +kernel
theorem dX2_item_96 : decode cX2_item 96 = .ok (.iconst 1, 1) := by decide +kernel
theorem dX2_item_97 : decode cX2_item 97 = .ok (.iadd, 1) := by decide +kernel
theorem dX2_item_98 : decode cX2_item 98 = .ok (.putfield 55, 3) := by decide +kernel
theorem dX2_item_101 : decode cX2_item 101 = .ok (.aload_n 0, 1) := by decide +kernel
theorem dX2_item_102 : decode cX2_item 102 = .ok (.getfield 55, 3) := by decide +kernel
theorem dX2_item_105 : decode cX2_item 105 = .ok (.iconst 1, 1) := by decide +kernel
theorem dX2_item_106 : decode cX2_item 106 = .ok (.isub, 1) := by decide +kernel
theorem dX2_item_107 : decode cX2_item 107 = .ok (.ireturn, 1) := by decide +kernel
theorem dX2_leader_0 : decode cX2_leader 0 = .ok (.iload_n 1, 1) := by decide +kernel
theorem dX2_leader_1 : decode cX2_leader 1 = .ok (.istore_n 2, 1) := by decide +kernel
theorem dX2_leader_2 : decode cX2_leader 2 = .ok (.aload_n 0, 1) := by decide +kernel
theorem dX2_leader_3 : decode cX2_leader 3 = .ok (.getfield 38, 3) := by decide +kernel
theorem dX2_leader_6 : decode cX2_leader 6 = .ok (.iload_n 2, 1) := by decide +kernel
theorem dX2_leader_7 : decode cX2_leader 7 = .ok (.iaload, 1) := by decide +kernel
theorem dX2_leader_8 : decode cX2_leader 8 = .ok (.ifCond .lt 13, 3) := by decide +kernel
theorem dX2_leader_11 : decode cX2_leader 11 = .ok (.aload_n 0, 1) := by decide +kernel
theorem dX2_leader_12 : decode cX2_leader 12 = .ok (.getfield 38, 3) := by decide +kernel
theorem dX2_leader_15 : decode cX2_leader 15 = .ok (.iload_n 2, 1) := by decide +kernel
theorem dX2_leader_16 : decode cX2_leader 16 = .ok (.iaload, 1) := by decide +kernel
theorem dX2_leader_17 : decode cX2_leader 17 = .ok (.istore_n 2, 1) := by decide +kernel
theorem dX2_leader_18 : decode cX2_leader 18 = .ok (.goto (-16), 3) := by decide +kernel
theorem dX2_leader_21 : decode cX2_leader 21 = .ok (.iload_n 2, 1) := by decide +kernel
theorem dX2_leader_22 : decode cX2_leader 22 = .ok (.ireturn, 1) := by decide +kernel
set_option maxRecDepth 20000 in
theorem ggX2_bundle_X2_isItem : GoodIn wsX2_bundle wsX2_isItem := goodIn_r _ [10, 11, 12, 13, 9, 14, 19, 20, 21, 22, 23, 24, 25, 26, 27, 28, 29, 30, 31, 32, 33, 34, 35, 36, 37] (by decide +kernel) (by decide +kernel)
set_option maxRecDepth 20000 in
theorem gX2_bundle_X2_isItem : GoodIn wsX2_bundle (wsV RX2 65 RX2 yX2_isItem wsX2_isItem) := goodIn_app (goodIn_of _ (by decide +kernel)) ggX2_bundle_X2_isItem
set_option maxRecDepth 20000 in
theorem ggX2_bundle_X2_leader : GoodIn wsX2_bundle wsX2_leader := goodIn_r _ [18, 3, 19, 20, 21, 22, 23, 24, 25, 26, 27, 28, 29, 30, 31, 32, 33, 34, 35, 36, 37] (by decide +kernel) (by decide +kernel)
set_option maxRecDepth 20000 in
theorem gX2_bundle_X2_leader : GoodIn wsX2_bundle (wsV RX2 68 RX2 yX2_leader wsX2_leader) := goodIn_app (goodIn_of _ (by decide +kernel)) ggX2_bundle_X2_leader
theorem dX2_bundle_0 : decode cX2_bundle 0 = .ok (.aload_n 0, 1) := by decide +kernel
theorem dX2_bundle_1 : decode cX2_bundle 1 = .ok (.iconst 0, 1) := by decide +kernel
theorem dX2_bundle_2 : decode cX2_bundle 2 = .ok (.putfield 48, 3) := by decide +kernel
theorem dX2_bundle_5 : decode cX2_bundle 5 = .ok (.aload_n 0, 1) := by decide +kernel
theorem dX2_bundle_6 : decode cX2_bundle 6 = .ok (.iload_n 1, 1) := by decide +kernel
theorem dX2_bundle_7 : decode cX2_bundle 7 = .ok (.invokevirtual 65, 3) := by decide +kernel
theorem dX2_bundle_10 : decode cX2_bundle 10 = .ok (.ifCond .eq 11, 3) := by decide +kernel
theorem dX2_bundle_13 : decode cX2_bundle 13 = .ok (.aload_n 0, 1) := by decide +kernel
theorem dX2_bundle_14 : decode cX2_bundle 14 = .ok (.iload_n 2, 1) := by decide +kernel
theorem dX2_bundle_15 : decode cX2_bundle 15 = .ok (.invokevirtual 65, 3) := by decide +kernel
theorem dX2_bundle_18 : decode cX2_bundle 18 = .ok (.ifCond .ne 5, 3) := by decide +kernel
theorem dX2_bundle_21 : decode cX2_bundle 21 = .ok (.iconst (-1), 1) := by decide +kernel
theorem dX2_bundle_22 : decode cX2_bundle 22 = .ok (.ireturn, 1) := by decide +kernel
theorem dX2_bundle_23 : decode cX2_bundle 23 = .ok (.aload_n 0, 1) := by decide +kernel
theorem dX2_bundle_24 : decode cX2_bundle 24 = .ok (.getfield 29, 3) := by decide +kernel
theorem dX2_bundle_27 : decode cX2_bundle 27 = .ok (.iload_n 1, 1) := by decide +kernel
theorem dX2_bundle_28 : decode cX2_bundle 28 = .ok (.iaload, 1) := by decide +kernel
theorem dX2_bundle_29 : decode cX2_bundle 29 = .ok (.iconst 2, 1) := by decide +kernel
theorem dX2_bundle_30 : decode cX2_bundle 30 = .ok (.if_icmp .eq 44, 3) := by decide +kernel
theorem dX2_bundle_33 : decode cX2_bundle 33 = .ok (.aload_n 0, 1) := by decide +kernel
theorem dX2_bundle_34 : decode cX2_bundle 34 = .ok (.getfield 29, 3) := by decide +kernel
theorem dX2_bundle_37 : decode cX2_bundle 37 = .ok (.iload_n 2, 1) := by decide +kernel
theorem dX2_bundle_38 : decode cX2_bundle 38 = .ok (.iaload, 1) := by decide +kernel
theorem dX2_bundle_39 : decode cX2_bundle 39 = .ok (.iconst 2, 1) := by decide +kernel
theorem dX2_bundle_40 : decode cX2_bundle 40 = .ok (.if_icmp .eq 34, 3) := by decide +kernel
theorem dX2_bundle_43 : decode cX2_bundle 43 = .ok (.aload_n 0, 1) := by decide +kernel
theorem dX2_bundle_44 : decode cX2_bundle 44 = .ok (.getfield 38, 3) := by decide +kernel
theorem dX2_bundle_47 : decode cX2_bundle 47 = .ok (.iload_n 2, 1) := by decide +kernel
theorem dX2_bundle_48 : decode cX2_bundle 48 = .ok (.iaload, 1) := by decide +kernel
theorem dX2_bundle_49 : decode cX2_bundle 49 = .ok (.ifCond .ge 25, 3) := by decide +kernel
theorem dX2_bundle_52 : decode cX2_bundle 52 = .ok (.aload_n 0, 1) := by decide +kernel
theorem dX2_bundle_53 : decode cX2_bundle 53 = .ok (.getfield 35, 3) := by decide +kernel
theorem dX2_bundle_56 : decode cX2_bundle 56 = .ok (.iload_n 1, 1) := by decide +kernel
theorem dX2_bundle_57 : decode cX2_bundle 57 = .ok (.iaload, 1) := by decide +kernel
theorem dX2_bundle_58 : decode cX2_bundle 58 = .ok (.ifCond .ge 16, 3) := by decide +kernel
theorem dX2_bundle_61 : decode cX2_bundle 61 = .ok (.aload_n 0, 1) := by decide +kernel
theorem dX2_bundle_62 : decode cX2_bundle 62 = .ok (.iload_n 1, 1) := by decide +kernel
theorem dX2_bundle_63 : decode cX2_bundle 63 = .ok (.invokevirtual 68, 3) := by decide +kernel
theorem dX2_bundle_66 : decode cX2_bundle 66 = .ok (.aload_n 0, 1) := by decide +kernel
theorem dX2_bundle_67 : decode cX2_bundle 67 = .ok (.iload_n 2, 1) := by decide +kernel
theorem dX2_bundle_68 : decode cX2_bundle 68 = .ok (.invokevirtual 68, 3) := by decide +kernel
theorem dX2_bundle_71 : decode cX2_bundle 71 = .ok (.if_icmp .ne 6, 3) := by decide +kernel
theorem dX2_bundle_74 : decode cX2_bundle 74 = .ok (.bipush (-3), 2) := by decide +kernel
theorem dX2_bundle_76 : decode cX2_bundle 76 = .ok (.ireturn, 1) := by decide +kernel
theorem dX2_bundle_77 : decode cX2_bundle 77 = .ok (.aload_n 0, 1) := by decide +kernel
theorem dX2_bundle_78 : decode cX2_bundle 78 = .ok (.getfield 35, 3) := by decide +kernel
theorem dX2_bundle_81 : decode cX2_bundle 81 = .ok (.iload_n 1, 1) := by decide +kernel
theorem dX2_bundle_82 : decode cX2_bundle 82 = .ok (.iload_n 2, 1) := by decide +kernel
theorem dX2_bundle_83 : decode cX2_bundle 83 = .ok (.iastore, 1) := by decide +kernel
theorem dX2_bundle_84 : decode cX2_bundle 84 = .ok (.aload_n 0, 1) := by decide +kernel
theorem dX2_bundle_85 : decode cX2_bundle 85 = .ok (.getfield 38, 3) := by decide +kernel
theorem dX2_bundle_88 : decode cX2_bundle 88 = .ok (.iload_n 2, 1) := by decide +kernel
theorem dX2_bundle_89 : decode cX2_bundle 89 = .ok (.iload_n 1, 1) := by decide +kernel
theorem dX2_bundle_90 : decode cX2_bundle 90 = .ok (.iastore, 1) := by decide +kernel
theorem dX2_bundle_91 : decode cX2_bundle 91 = .ok (.aload_n 0, 1) := by decide +kernel
theorem dX2_bundle_92 : decode cX2_bundle 92 = .ok (.getfield 32, 3) := by decide +kernel
theorem dX2_bundle_95 : decode cX2_bundle 95 = .ok (.iload_n 2, 1) := by decide +kernel
theorem dX2_bundle_96 : decode cX2_bundle 96 = .ok (.iconst (-1), 1) := by decide +kernel
theorem dX2_bundle_97 : decode cX2_bundle 97 = .ok (.iastore, 1) := by decide +kernel
theorem dX2_bundle_98 : decode cX2_bundle 98 = .ok (.iconst 0, 1) := by decide +kernel
theorem dX2_bundle_99 : decode cX2_bundle 99 = .ok (.istore_n 3, 1) := by decide +kernel
theorem dX2_bundle_100 : decode cX2_bundle 100 = .ok (.aload_n 0, 1) := by decide +kernel
theorem dX2_bundle_101 : decode cX2_bundle 101 = .ok (.iload_n 1, 1) := by decide +kernel
theorem dX2_bundle_102 : decode cX2_bundle 102 = .ok (.invokevirtual 68, 3) := by decide +kernel
theorem dX2_bundle_105 : decode cX2_bundle 105 = .ok (.istore 4, 2) := by decide +kernel
theorem dX2_bundle_107 : decode cX2_bundle 107 = .ok (.iload 4, 2) := by decide +kernel
theorem dX2_bundle_109 : decode cX2_bundle 109 = .ok (.ifCond .lt 18, 3) := by decide +kernel
theorem dX2_bundle_112 : decode cX2_bundle 112 = .ok (.iinc 3 1, 3) := by decide +kernel
theorem dX2_bundle_115 : decode cX2_bundle 115 = .ok (.aload_n 0, 1) := by decide +kernel
theorem dX2_bundle_116 : decode cX2_bundle 116 = .ok (.getfield 35, 3) := by decide +kernel
theorem dX2_bundle_119 : decode cX2_bundle 119 = .ok (.iload 4, 2) := by decide +kernel
theorem dX2_bundle_121 : decode cX2_bundle 121 = .ok (.iaload, 1) := by decide +kernel
theorem dX2_bundle_122 : decode cX2_bundle 122 = .ok (.istore 4, 2) := by decide +kernel
theorem dX2_bundle_124 : decode cX2_bundle 124 = .ok (.goto (-17), 3) := by decide +kernel
theorem dX2_bundle_127 : decode cX2_bundle 127 = .ok (.iload_n 3, 1) := by decide +kernel
theorem dX2_bundle_128 : decode cX2_bundle 128 = .ok (.ireturn, 1) := by decide +kernel
set_option maxRecDepth 20000 in
theorem ggX2_holeOfLeader_X2_isHouse : GoodIn wsX2_holeOfLeader wsX2_isHouse := goodIn_r _ [9, 10, 11, 12, 8, 13, 14, 15, 16, 17, 18, 19, 20, 21, 22, 23, 24, 25, 26, 27, 28, 29, 30, 31, 32] (by decide +kernel) (by decide +kernel)
set_option maxRecDepth 20000 in
theorem gX2_holeOfLeader_X2_isHouse : GoodIn wsX2_holeOfLeader (wsV RX2 61 RX2 yX2_isHouse wsX2_isHouse) := goodIn_app (goodIn_of _ (by decide +kernel)) ggX2_holeOfLeader_X2_isHouse
theorem dX2_holeOfLeader_0 : decode cX2_holeOfLeader 0 = .ok (.aload_n 0, 1) := by decide +kernel
theorem dX2_holeOfLeader_1 : decode cX2_holeOfLeader 1 = .ok (.getfield 29, 3) := by decide +kernel
theorem dX2_holeOfLeader_4 : decode cX2_holeOfLeader 4 = .ok (.iload_n 1, 1) := by decide +kernel
theorem dX2_holeOfLeader_5 : decode cX2_holeOfLeader 5 = .ok (.iaload, 1) := by decide +kernel
theorem dX2_holeOfLeader_6 : decode cX2_holeOfLeader 6 = .ok (.iconst 2, 1) := by decide +kernel
theorem dX2_holeOfLeader_7 : decode cX2_holeOfLeader 7 = .ok (.if_icmp .ne 5, 3) := by decide +kernel
theorem dX2_holeOfLeader_10 : decode cX2_holeOfLeader 10 = .ok (.iconst (-1), 1) := by decide +kernel
theorem dX2_holeOfLeader_11 : decode cX2_holeOfLeader 11 = .ok (.ireturn, 1) := by decide +kernel
theorem dX2_holeOfLeader_12 : decode cX2_holeOfLeader 12 = .ok (.aload_n 0, 1) := by decide +kernel
theorem dX2_holeOfLeader_13 : decode cX2_holeOfLeader 13 = .ok (.getfield 32, 3) := by decide +kernel
theorem dX2_holeOfLeader_16 : decode cX2_holeOfLeader 16 = .ok (.iload_n 1, 1) := by decide +kernel
theorem dX2_holeOfLeader_17 : decode cX2_holeOfLeader 17 = .ok (.iaload, 1) := by decide +kernel
theorem dX2_holeOfLeader_18 : decode cX2_holeOfLeader 18 = .ok (.ifCond .lt 12, 3) := by decide +kernel
theorem dX2_holeOfLeader_21 : decode cX2_holeOfLeader 21 = .ok (.aload_n 0, 1) := by decide +kernel
theorem dX2_holeOfLeader_22 : decode cX2_holeOfLeader 22 = .ok (.getfield 32, 3) := by decide +kernel
theorem dX2_holeOfLeader_25 : decode cX2_holeOfLeader 25 = .ok (.iload_n 1, 1) := by decide +kernel
theorem dX2_holeOfLeader_26 : decode cX2_holeOfLeader 26 = .ok (.iaload, 1) := by decide +kernel
theorem dX2_holeOfLeader_27 : decode cX2_holeOfLeader 27 = .ok (.goto 31, 3) := by decide +kernel
theorem dX2_holeOfLeader_30 : decode cX2_holeOfLeader 30 = .ok (.aload_n 0, 1) := by decide +kernel
theorem dX2_holeOfLeader_31 : decode cX2_holeOfLeader 31 = .ok (.aload_n 0, 1) := by decide +kernel
theorem dX2_holeOfLeader_32 : decode cX2_holeOfLeader 32 = .ok (.getfield 26, 3) := by decide +kernel
theorem dX2_holeOfLeader_35 : decode cX2_holeOfLeader 35 = .ok (.iload_n 1, 1) := by decide +kernel
theorem dX2_holeOfLeader_36 : decode cX2_holeOfLeader 36 = .ok (.iaload, 1) := by decide +kernel
theorem dX2_holeOfLeader_37 : decode cX2_holeOfLeader 37 = .ok (.invokevirtual 61, 3) := by decide +kernel
theorem dX2_holeOfLeader_40 : decode cX2_holeOfLeader 40 = .ok (.ifCond .eq 17, 3) := by decide +kernel
theorem dX2_holeOfLeader_43 : decode cX2_holeOfLeader 43 = .ok (.aload_n 0, 1) := by decide +kernel
theorem dX2_holeOfLeader_44 : decode cX2_holeOfLeader 44 = .ok (.getfield 13, 3) := by decide +kernel
theorem dX2_holeOfLeader_47 : decode cX2_holeOfLeader 47 = .ok (.aload_n 0, 1) := by decide +kernel
theorem dX2_holeOfLeader_48 : decode cX2_holeOfLeader 48 = .ok (.getfield 26, 3) := by decide +kernel
theorem dX2_holeOfLeader_51 : decode cX2_holeOfLeader 51 = .ok (.iload_n 1, 1) := by decide +kernel
theorem dX2_holeOfLeader_52 : decode cX2_holeOfLeader 52 = .ok (.iaload, 1) := by decide +kernel
theorem dX2_holeOfLeader_53 : decode cX2_holeOfLeader 53 = .ok (.iaload, 1) := by decide +kernel
theorem dX2_holeOfLeader_54 : decode cX2_holeOfLeader 54 = .ok (.goto 4, 3) := by decide +kernel
theorem dX2_holeOfLeader_57 : decode cX2_holeOfLeader 57 = .ok (.iconst (-1), 1) := by decide +kernel
theorem dX2_holeOfLeader_58 : decode cX2_holeOfLeader 58 = .ok (.ireturn, 1) := by decide +kernel
set_option maxRecDepth 20000 in
theorem ggX2_isWrong_X2_holeOfLeader : GoodIn wsX2_isWrong wsX2_holeOfLeader := goodIn_r _ [7, 8, 9, 1, 2, 10, 11, 12, 6, 13, 14, 15, 16, 17, 18, 19, 20, 21, 22, 23, 24, 25, 26, 27, 28, 29, 30, 31, 32, 33, 34, 35, 36] (by decide +kernel) (by decide +kernel)
set_option maxRecDepth 20000 in
theorem gX2_isWrong_X2_holeOfLeader : GoodIn wsX2_isWrong (wsV RX2 72 RX2 yX2_holeOfLeader wsX2_holeOfLeader) := goodIn_app (goodIn_of _ (by decide +kernel)) ggX2_isWrong_X2_holeOfLeader
set_option maxRecDepth 20000 in
theorem ggX2_isWrong_X2_isHouse : GoodIn wsX2_isWrong wsX2_isHouse := goodIn_r _ [13, 14, 15, 16, 6, 17, 18, 19, 20, 21, 22, 23, 24, 25, 26, 27, 28, 29, 30, 31, 32, 33, 34, 35, 36] (by decide +kernel) (by decide +kernel)
set_option maxRecDepth 20000 in
theorem gX2_isWrong_X2_isHouse : GoodIn wsX2_isWrong (wsV RX2 61 RX2 yX2_isHouse wsX2_isHouse) := goodIn_app (goodIn_of _ (by decide +kernel)) ggX2_isWrong_X2_isHouse
theorem dX2_isWrong_0 : decode cX2_isWrong 0 = .ok (.aload_n 0, 1) := by decide +kernel
theorem dX2_isWrong_1 : decode cX2_isWrong 1 = .ok (.iload_n 1, 1) := by decide +kernel
theorem dX2_isWrong_2 : decode cX2_isWrong 2 = .ok (.invokevirtual 72, 3) := by decide +kernel
theorem dX2_isWrong_5 : decode cX2_isWrong 5 = .ok (.istore_n 2, 1) := by decide +kernel
theorem dX2_isWrong_6 : decode cX2_isWrong 6 = .ok (.iload_n 2, 1) := by decide +kernel
theorem dX2_isWrong_7 : decode cX2_isWrong 7 = .ok (.ifCond .lt 35, 3) := by decide +kernel
theorem dX2_isWrong_10 : decode cX2_isWrong 10 = .ok (.aload_n 0, 1) := by decide +kernel
theorem dX2_isWrong_11 : decode cX2_isWrong 11 = .ok (.aload_n 0, 1) := by decide +kernel
theorem dX2_isWrong_12 : decode cX2_isWrong 12 = .ok (.getfield 26, 3) := by decide +kernel
theorem dX2_isWrong_15 : decode cX2_isWrong 15 = .ok (.iload_n 1, 1) := by decide +kernel
theorem dX2_isWrong_16 : decode cX2_isWrong 16 = .ok (.iaload, 1) := by decide +kernel
theorem dX2_isWrong_17 : decode cX2_isWrong 17 = .ok (.invokevirtual 61, 3) := by decide +kernel
theorem dX2_isWrong_20 : decode cX2_isWrong 20 = .ok (.ifCond .eq 18, 3) := by decide +kernel
theorem dX2_isWrong_23 : decode cX2_isWrong 23 = .ok (.aload_n 0, 1) := by decide +kernel
theorem dX2_isWrong_24 : decode cX2_isWrong 24 = .ok (.getfield 13, 3) := by decide +kernel
theorem dX2_isWrong_27 : decode cX2_isWrong 27 = .ok (.aload_n 0, 1) := by decide +kernel
theorem dX2_isWrong_28 : decode cX2_isWrong 28 = .ok (.getfield 26, 3) := by decide +kernel
theorem dX2_isWrong_31 : decode cX2_isWrong 31 = .ok (.iload_n 1, 1) := by decide +kernel
theorem dX2_isWrong_32 : decode cX2_isWrong 32 = .ok (.iaload, 1) := by decide +kernel
theorem dX2_isWrong_33 : decode cX2_isWrong 33 = .ok (.iaload, 1) := by decide +kernel
theorem dX2_isWrong_34 : decode cX2_isWrong 34 = .ok (.iload_n 2, 1) := by decide +kernel
theorem dX2_isWrong_35 : decode cX2_isWrong 35 = .ok (.if_icmp .eq 7, 3) := by decide +kernel
theorem dX2_isWrong_38 : decode cX2_isWrong 38 = .ok (.iconst 1, 1) := by decide +kernel
theorem dX2_isWrong_39 : decode cX2_isWrong 39 = .ok (.goto 4, 3) := by decide +kernel
theorem dX2_isWrong_42 : decode cX2_isWrong 42 = .ok (.iconst 0, 1) := by decide +kernel
theorem dX2_isWrong_43 : decode cX2_isWrong 43 = .ok (.ireturn, 1) := by decide +kernel
set_option maxRecDepth 20000 in
theorem ggX2_put_X2_isItem : GoodIn wsX2_put wsX2_isItem := goodIn_r _ [10, 11, 12, 13, 9, 14, 30, 31, 32, 33, 34, 35, 36, 37, 38, 39, 40, 41, 42, 43, 44, 45, 46, 47, 48] (by decide +kernel) (by decide +kernel)
set_option maxRecDepth 20000 in
theorem gX2_put_X2_isItem : GoodIn wsX2_put (wsV RX2 65 RX2 yX2_isItem wsX2_isItem) := goodIn_app (goodIn_of _ (by decide +kernel)) ggX2_put_X2_isItem
set_option maxRecDepth 20000 in
theorem ggX2_put_X2_in : GoodIn wsX2_put wsX2_in := goodIn_r _ [14] (by decide +kernel) (by decide +kernel)
set_option maxRecDepth 20000 in
theorem gX2_put_X2_in : GoodIn wsX2_put (va_wsS RX2 51 yX2_in wsX2_in) := goodIn_app (goodIn_of _ (by decide +kernel)) ggX2_put_X2_in
set_option maxRecDepth 20000 in
theorem ggX2_put_X2_isWrong : GoodIn wsX2_put wsX2_isWrong := goodIn_r _ [18, 19, 20, 21, 22, 23, 9, 24, 3, 5, 25, 26, 27, 28, 29, 12, 13, 14, 30, 31, 32, 33, 34, 35, 36, 37, 38, 39, 40, 41, 42, 43, 44, 45, 46, 47, 48] (by decide +kernel) (by decide +kernel)
set_option maxRecDepth 20000 in
theorem gX2_put_X2_isWrong : GoodIn wsX2_put (wsV RX2 75 RX2 yX2_isWrong wsX2_isWrong) := goodIn_app (goodIn_of _ (by decide +kernel)) ggX2_put_X2_isWrong
theorem dX2_put_0 : decode cX2_put 0 = .ok (.aload_n 0, 1) := by decide +kernel
theorem dX2_put_1 : decode cX2_put 1 = .ok (.iconst 0, 1) := by decide +kernel
theorem dX2_put_2 : decode cX2_put 2 = .ok (.putfield 48, 3) := by decide +kernel
theorem dX2_put_5 : decode cX2_put 5 = .ok (.aload_n 0, 1) := by decide +kernel
theorem dX2_put_6 : decode cX2_put 6 = .ok (.iload_n 1, 1) := by decide +kernel
theorem dX2_put_7 : decode cX2_put 7 = .ok (.invokevirtual 65, 3) := by decide +kernel
theorem dX2_put_10 : decode cX2_put 10 = .ok (.ifCond .ne 5, 3) := by decide +kernel
theorem dX2_put_13 : decode cX2_put 13 = .ok (.iconst (-1), 1) := by decide +kernel
theorem dX2_put_14 : decode cX2_put 14 = .ok (.ireturn, 1) := by decide +kernel
theorem dX2_put_15 : decode cX2_put 15 = .ok (.iload_n 2, 1) := by decide +kernel
theorem dX2_put_16 : decode cX2_put 16 = .ok (.iconst 0, 1) := by decide +kernel
theorem dX2_put_17 : decode cX2_put 17 = .ok (.aload_n 0, 1) := by decide +kernel
theorem dX2_put_18 : decode cX2_put 18 = .ok (.getfield 44, 3) := by decide +kernel
theorem dX2_put_21 : decode cX2_put 21 = .ok (.iconst 1, 1) := by decide +kernel
theorem dX2_put_22 : decode cX2_put 22 = .ok (.isub, 1) := by decide +kernel
theorem dX2_put_23 : decode cX2_put 23 = .ok (.invokestatic 51, 3) := by decide +kernel
theorem dX2_put_26 : decode cX2_put 26 = .ok (.ifCond .ne 6, 3) := by decide +kernel
theorem dX2_put_29 : decode cX2_put 29 = .ok (.bipush (-2), 2) := by decide +kernel
theorem dX2_put_31 : decode cX2_put 31 = .ok (.ireturn, 1) := by decide +kernel
theorem dX2_put_32 : decode cX2_put 32 = .ok (.aload_n 0, 1) := by decide +kernel
theorem dX2_put_33 : decode cX2_put 33 = .ok (.getfield 29, 3) := by decide +kernel
theorem dX2_put_36 : decode cX2_put 36 = .ok (.iload_n 1, 1) := by decide +kernel
theorem dX2_put_37 : decode cX2_put 37 = .ok (.iaload, 1) := by decide +kernel
theorem dX2_put_38 : decode cX2_put 38 = .ok (.iconst 2, 1) := by decide +kernel
theorem dX2_put_39 : decode cX2_put 39 = .ok (.if_icmp .eq 12, 3) := by decide +kernel
theorem dX2_put_42 : decode cX2_put 42 = .ok (.aload_n 0, 1) := by decide +kernel
theorem dX2_put_43 : decode cX2_put 43 = .ok (.getfield 38, 3) := by decide +kernel
theorem dX2_put_46 : decode cX2_put 46 = .ok (.iload_n 1, 1) := by decide +kernel
theorem dX2_put_47 : decode cX2_put 47 = .ok (.iaload, 1) := by decide +kernel
theorem dX2_put_48 : decode cX2_put 48 = .ok (.ifCond .lt 6, 3) := by decide +kernel
theorem dX2_put_51 : decode cX2_put 51 = .ok (.bipush (-3), 2) := by decide +kernel
theorem dX2_put_53 : decode cX2_put 53 = .ok (.ireturn, 1) := by decide +kernel
theorem dX2_put_54 : decode cX2_put 54 = .ok (.aload_n 0, 1) := by decide +kernel
theorem dX2_put_55 : decode cX2_put 55 = .ok (.getfield 32, 3) := by decide +kernel
theorem dX2_put_58 : decode cX2_put 58 = .ok (.iload_n 1, 1) := by decide +kernel
theorem dX2_put_59 : decode cX2_put 59 = .ok (.iload_n 2, 1) := by decide +kernel
theorem dX2_put_60 : decode cX2_put 60 = .ok (.iastore, 1) := by decide +kernel
theorem dX2_put_61 : decode cX2_put 61 = .ok (.aload_n 0, 1) := by decide +kernel
theorem dX2_put_62 : decode cX2_put 62 = .ok (.iload_n 1, 1) := by decide +kernel
theorem dX2_put_63 : decode cX2_put 63 = .ok (.invokevirtual 75, 3) := by decide +kernel
theorem dX2_put_66 : decode cX2_put 66 = .ok (.ifCond .eq 7, 3) := by decide +kernel
theorem dX2_put_69 : decode cX2_put 69 = .ok (.iconst 1, 1) := by decide +kernel
theorem dX2_put_70 : decode cX2_put 70 = .ok (.goto 4, 3) := by decide +kernel
theorem dX2_put_73 : decode cX2_put 73 = .ok (.iconst 0, 1) := by decide +kernel
theorem dX2_put_74 : decode cX2_put 74 = .ok (.ireturn, 1) := by decide +kernel
set_option maxRecDepth 20000 in
theorem ggX2_hold_X2_isHouse : GoodIn wsX2_hold wsX2_isHouse := goodIn_r _ [7, 8, 9, 10, 6, 11, 12, 13, 14, 15, 16, 17, 18, 19, 20, 21, 22, 23, 24, 25, 26, 27, 28, 29, 30] (by decide +kernel) (by decide +kernel)
set_option maxRecDepth 20000 in
theorem gX2_hold_X2_isHouse : GoodIn wsX2_hold (wsV RX2 61 RX2 yX2_isHouse wsX2_isHouse) := goodIn_app (goodIn_of _ (by decide +kernel)) ggX2_hold_X2_isHouse
theorem dX2_hold_0 : decode cX2_hold 0 = .ok (.aload_n 0, 1) := by decide +kernel
theorem dX2_hold_1 : decode cX2_hold 1 = .ok (.iconst 0, 1) := by decide +kernel
theorem dX2_hold_2 : decode cX2_hold 2 = .ok (.putfield 48, 3) := by decide +kernel
theorem dX2_hold_5 : decode cX2_hold 5 = .ok (.aload_n 0, 1) := by decide +kernel
theorem dX2_hold_6 : decode cX2_hold 6 = .ok (.iload_n 1, 1) := by decide +kernel
theorem dX2_hold_7 : decode cX2_hold 7 = .ok (.invokevirtual 61, 3) := by decide +kernel
theorem dX2_hold_10 : decode cX2_hold 10 = .ok (.ifCond .eq 17, 3) := by decide +kernel
theorem dX2_hold_13 : decode cX2_hold 13 = .ok (.aload_n 0, 1) := by decide +kernel
theorem dX2_hold_14 : decode cX2_hold 14 = .ok (.getfield 16, 3) := by decide +kernel
theorem dX2_hold_17 : decode cX2_hold 17 = .ok (.iload_n 1, 1) := by decide +kernel
theorem dX2_hold_18 : decode cX2_hold 18 = .ok (.baload, 1) := by decide +kernel
theorem dX2_hold_19 : decode cX2_hold 19 = .ok (.iload_n 2, 1) := by decide +kernel
theorem dX2_hold_20 : decode cX2_hold 20 = .ok (.if_icmp .eq 7, 3) := by decide +kernel
theorem dX2_hold_23 : decode cX2_hold 23 = .ok (.iconst 1, 1) := by decide +kernel
theorem dX2_hold_24 : decode cX2_hold 24 = .ok (.goto 4, 3) := by decide +kernel
theorem dX2_hold_27 : decode cX2_hold 27 = .ok (.iconst 0, 1) := by decide +kernel
theorem dX2_hold_28 : decode cX2_hold 28 = .ok (.istore_n 3, 1) := by decide +kernel
theorem dX2_hold_29 : decode cX2_hold 29 = .ok (.iload_n 3, 1) := by decide +kernel
theorem dX2_hold_30 : decode cX2_hold 30 = .ok (.ifCond .eq 10, 3) := by decide +kernel
theorem dX2_hold_33 : decode cX2_hold 33 = .ok (.aload_n 0, 1) := by decide +kernel
theorem dX2_hold_34 : decode cX2_hold 34 = .ok (.getfield 16, 3) := by decide +kernel
theorem dX2_hold_37 : decode cX2_hold 37 = .ok (.iload_n 1, 1) := by decide +kernel
theorem dX2_hold_38 : decode cX2_hold 38 = .ok (.iload_n 2, 1) := by decide +kernel
theorem dX2_hold_39 : decode cX2_hold 39 = .ok (.bastore, 1) := by decide +kernel
theorem dX2_hold_40 : decode cX2_hold 40 = .ok (.iload_n 3, 1) := by decide +kernel
theorem dX2_hold_41 : decode cX2_hold 41 = .ok (.ireturn, 1) := by decide +kernel
set_option maxRecDepth 20000 in
theorem ggX2_sample_X2_in : GoodIn wsX2_sample wsX2_in := goodIn_r _ [13] (by decide +kernel) (by decide +kernel)
set_option maxRecDepth 20000 in
theorem gX2_sample_X2_in : GoodIn wsX2_sample (va_wsS RX2 51 yX2_in wsX2_in) := goodIn_app (goodIn_of _ (by decide +kernel)) ggX2_sample_X2_in
set_option maxRecDepth 20000 in
theorem ggX2_sample_X2_holeOfLeader : GoodIn wsX2_sample wsX2_holeOfLeader := goodIn_r _ [17, 18, 9, 7, 8, 19, 20, 21, 12, 22, 23, 10, 11, 13, 28, 29, 30, 31, 32, 33, 34, 35, 36, 37, 38, 39, 40, 41, 42, 43, 44, 45, 46] (by decide +kernel) (by decide +kernel)
set_option maxRecDepth 20000 in
theorem gX2_sample_X2_holeOfLeader : GoodIn wsX2_sample (wsV RX2 72 RX2 yX2_holeOfLeader wsX2_holeOfLeader) := goodIn_app (goodIn_of _ (by decide +kernel)) ggX2_sample_X2_holeOfLeader
set_option maxRecDepth 20000 in
theorem ggX2_sample_X2_isWrong : GoodIn wsX2_sample wsX2_isWrong := goodIn_r _ [27, 7, 8, 14, 15, 16, 12, 17, 18, 9, 19, 20, 21, 22, 23, 10, 11, 13, 28, 29, 30, 31, 32, 33, 34, 35, 36, 37, 38, 39, 40, 41, 42, 43, 44, 45, 46] (by decide +kernel) (by decide +kernel)
set_option maxRecDepth 20000 in
theorem gX2_sample_X2_isWrong : GoodIn wsX2_sample (wsV RX2 75 RX2 yX2_isWrong wsX2_isWrong) := goodIn_app (goodIn_of _ (by decide +kernel)) ggX2_sample_X2_isWrong
set_option maxRecDepth 20000 in
theorem ggX2_sample_X2_isHouse : GoodIn wsX2_sample wsX2_isHouse := goodIn_r _ [22, 23, 10, 11, 12, 13, 28, 29, 30, 31, 32, 33, 34, 35, 36, 37, 38, 39, 40, 41, 42, 43, 44, 45, 46] (by decide +kernel) (by decide +kernel)
set_option maxRecDepth 20000 in
theorem gX2_sample_X2_isHouse : GoodIn wsX2_sample (wsV RX2 61 RX2 yX2_isHouse wsX2_isHouse) := goodIn_app (goodIn_of _ (by decide +kernel)) ggX2_sample_X2_isHouse
theorem dX2_sample_0 : decode cX2_sample 0 = .ok (.aload_n 0, 1) := by decide +kernel
theorem dX2_sample_1 : decode cX2_sample 1 = .ok (.iconst 0, 1) := by decide +kernel
theorem dX2_sample_2 : decode cX2_sample 2 = .ok (.putfield 48, 3) := by decide +kernel
theorem dX2_sample_5 : decode cX2_sample 5 = .ok (.iload_n 3, 1) := by decide +kernel
theorem dX2_sample_6 : decode cX2_sample 6 = .ok (.iconst 1, 1) := by decide +kernel
theorem dX2_sample_7 : decode cX2_sample 7 = .ok (.sipush 1000, 3) := by decide +kernel
theorem dX2_sample_10 : decode cX2_sample 10 = .ok (.invokestatic 51, 3) := by decide +kernel
theorem dX2_sample_13 : decode cX2_sample 13 = .ok (.ifCond .eq 12, 3) := by decide +kernel
theorem dX2_sample_16 : decode cX2_sample 16 = .ok (.iload_n 2, 1) := by decide +kernel
theorem dX2_sample_17 : decode cX2_sample 17 = .ok (.iconst 0, 1) := by decide +kernel
theorem dX2_sample_18 : decode cX2_sample 18 = .ok (.iload_n 3, 1) := by decide +kernel
theorem dX2_sample_19 : decode cX2_sample 19 = .ok (.invokestatic 51, 3) := by decide +kernel
theorem dX2_sample_22 : decode cX2_sample 22 = .ok (.ifCond .ne 6, 3) := by decide +kernel
theorem dX2_sample_25 : decode cX2_sample 25 = .ok (.bipush (-2), 2) := by decide +kernel
theorem dX2_sample_27 : decode cX2_sample 27 = .ok (.ireturn, 1) := by decide +kernel
theorem dX2_sample_28 : decode cX2_sample 28 = .ok (.iconst 0, 1) := by decide +kernel
theorem dX2_sample_29 : decode cX2_sample 29 = .ok (.istore 4, 2) := by decide +kernel
theorem dX2_sample_31 : decode cX2_sample 31 = .ok (.iload 4, 2) := by decide +kernel
theorem dX2_sample_33 : decode cX2_sample 33 = .ok (.aload_n 0, 1) := by decide +kernel
theorem dX2_sample_34 : decode cX2_sample 34 = .ok (.getfield 55, 3) := by decide +kernel
theorem dX2_sample_37 : decode cX2_sample 37 = .ok (.if_icmp .ge 36, 3) := by decide +kernel
theorem dX2_sample_40 : decode cX2_sample 40 = .ok (.aload_n 0, 1) := by decide +kernel
theorem dX2_sample_41 : decode cX2_sample 41 = .ok (.getfield 41, 3) := by decide +kernel
theorem dX2_sample_44 : decode cX2_sample 44 = .ok (.iload 4, 2) := by decide +kernel
theorem dX2_sample_46 : decode cX2_sample 46 = .ok (.aload_n 0, 1) := by decide +kernel
theorem dX2_sample_47 : decode cX2_sample 47 = .ok (.getfield 38, 3) := by decide +kernel
theorem dX2_sample_50 : decode cX2_sample 50 = .ok (.iload 4, 2) := by decide +kernel
theorem dX2_sample_52 : decode cX2_sample 52 = .ok (.iaload, 1) := by decide +kernel
theorem dX2_sample_53 : decode cX2_sample 53 = .ok (.ifCond .ge 12, 3) := by decide +kernel
theorem dX2_sample_56 : decode cX2_sample 56 = .ok (.aload_n 0, 1) := by decide +kernel
theorem dX2_sample_57 : decode cX2_sample 57 = .ok (.iload 4, 2) := by decide +kernel
theorem dX2_sample_59 : decode cX2_sample 59 = .ok (.invokevirtual 72, 3) := by decide +kernel
theorem dX2_sample_62 : decode cX2_sample 62 = .ok (.goto 4, 3) := by decide +kernel
theorem dX2_sample_65 : decode cX2_sample 65 = .ok (.iconst (-1), 1) := by decide +kernel
theorem dX2_sample_66 : decode cX2_sample 66 = .ok (.iastore, 1) := by decide +kernel
theorem dX2_sample_67 : decode cX2_sample 67 = .ok (.iinc 4 1, 3) := by decide +kernel
theorem dX2_sample_70 : decode cX2_sample 70 = .ok (.goto (-39), 3) := by decide +kernel
theorem dX2_sample_73 : decode cX2_sample 73 = .ok (.iload_n 1, 1) := by decide +kernel
theorem dX2_sample_74 : decode cX2_sample 74 = .ok (.istore 4, 2) := by decide +kernel
theorem dX2_sample_76 : decode cX2_sample 76 = .ok (.iconst 0, 1) := by decide +kernel
theorem dX2_sample_77 : decode cX2_sample 77 = .ok (.istore 5, 2) := by decide +kernel
theorem dX2_sample_79 : decode cX2_sample 79 = .ok (.iconst 0, 1) := by decide +kernel
theorem dX2_sample_80 : decode cX2_sample 80 = .ok (.istore 6, 2) := by decide +kernel
theorem dX2_sample_82 : decode cX2_sample 82 = .ok (.iload 6, 2) := by decide +kernel
theorem dX2_sample_84 : decode cX2_sample 84 = .ok (.aload_n 0, 1) := by decide +kernel
theorem dX2_sample_85 : decode cX2_sample 85 = .ok (.getfield 44, 3) := by decide +kernel
theorem dX2_sample_88 : decode cX2_sample 88 = .ok (.if_icmp .ge 125, 3) := by decide +kernel
theorem dX2_sample_91 : decode cX2_sample 91 = .ok (.iconst 0, 1) := by decide +kernel
theorem dX2_sample_92 : decode cX2_sample 92 = .ok (.istore 7, 2) := by decide +kernel
theorem dX2_sample_94 : decode cX2_sample 94 = .ok (.iload 7, 2) := by decide +kernel
theorem dX2_sample_96 : decode cX2_sample 96 = .ok (.aload_n 0, 1) := by decide +kernel
theorem dX2_sample_97 : decode cX2_sample 97 = .ok (.getfield 55, 3) := by decide +kernel
theorem dX2_sample_100 : decode cX2_sample 100 = .ok (.if_icmp .ge 107, 3) := by decide +kernel
theorem dX2_sample_103 : decode cX2_sample 103 = .ok (.aload_n 0, 1) := by decide +kernel
theorem dX2_sample_104 : decode cX2_sample 104 = .ok (.getfield 41, 3) := by decide +kernel
theorem dX2_sample_107 : decode cX2_sample 107 = .ok (.iload 7, 2) := by decide +kernel
theorem dX2_sample_109 : decode cX2_sample 109 = .ok (.iaload, 1) := by decide +kernel
theorem dX2_sample_110 : decode cX2_sample 110 = .ok (.iload 6, 2) := by decide +kernel
theorem dX2_sample_112 : decode cX2_sample 112 = .ok (.if_icmp .eq 6, 3) := by decide +kernel
theorem dX2_sample_115 : decode cX2_sample 115 = .ok (.goto 86, 3) := by decide +kernel
theorem dX2_sample_118 : decode cX2_sample 118 = .ok (.iload 4, 2) := by decide +kernel
theorem dX2_sample_120 : decode cX2_sample 120 = .ok (.ldc 78, 2) := by decide +kernel
theorem dX2_sample_122 : decode cX2_sample 122 = .ok (.imul, 1) := by decide +kernel
theorem dX2_sample_123 : decode cX2_sample 123 = .ok (.sipush 12345, 3) := by decide +kernel
theorem dX2_sample_126 : decode cX2_sample 126 = .ok (.iadd, 1) := by decide +kernel
theorem dX2_sample_127 : decode cX2_sample 127 = .ok (.istore 4, 2) := by decide +kernel
theorem dX2_sample_129 : decode cX2_sample 129 = .ok (.iload 4, 2) := by decide +kernel
theorem dX2_sample_131 : decode cX2_sample 131 = .ok (.bipush 16, 2) := by decide +kernel
theorem dX2_sample_133 : decode cX2_sample 133 = .ok (.iushr, 1) := by decide +kernel
theorem dX2_sample_134 : decode cX2_sample 134 = .ok (.iload_n 3, 1) := by decide +kernel
theorem dX2_sample_135 : decode cX2_sample 135 = .ok (.irem, 1) := by decide +kernel
theorem dX2_sample_136 : decode cX2_sample 136 = .ok (.iload_n 2, 1) := by decide +kernel
theorem dX2_sample_137 : decode cX2_sample 137 = .ok (.if_icmp .ge 7, 3) := by decide +kernel
theorem dX2_sample_140 : decode cX2_sample 140 = .ok (.iconst 1, 1) := by decide +kernel
theorem dX2_sample_141 : decode cX2_sample 141 = .ok (.goto 4, 3) := by decide +kernel
theorem dX2_sample_144 : decode cX2_sample 144 = .ok (.iconst 0, 1) := by decide +kernel
theorem dX2_sample_145 : decode cX2_sample 145 = .ok (.istore 8, 2) := by decide +kernel
theorem dX2_sample_147 : decode cX2_sample 147 = .ok (.iload 8, 2) := by decide +kernel
theorem dX2_sample_149 : decode cX2_sample 149 = .ok (.ifCond .eq 52, 3) := by decide +kernel
theorem dX2_sample_152 : decode cX2_sample 152 = .ok (.aload_n 0, 1) := by decide +kernel
theorem dX2_sample_153 : decode cX2_sample 153 = .ok (.iload 7, 2) := by decide +kernel
theorem dX2_sample_155 : decode cX2_sample 155 = .ok (.invokevirtual 75, 3) := by decide +kernel
theorem dX2_sample_158 : decode cX2_sample 158 = .ok (.ifCond .eq 43, 3) := by decide +kernel
theorem dX2_sample_161 : decode cX2_sample 161 = .ok (.aload_n 0, 1) := by decide +kernel
theorem dX2_sample_162 : decode cX2_sample 162 = .ok (.aload_n 0, 1) := by decide +kernel
theorem dX2_sample_163 : decode cX2_sample 163 = .ok (.getfield 26, 3) := by decide +kernel
theorem dX2_sample_166 : decode cX2_sample 166 = .ok (.iload 7, 2) := by decide +kernel
theorem dX2_sample_168 : decode cX2_sample 168 = .ok (.iaload, 1) := by decide +kernel
theorem dX2_sample_169 : decode cX2_sample 169 = .ok (.invokevirtual 61, 3) := by decide +kernel
theorem dX2_sample_172 : decode cX2_sample 172 = .ok (.ifCond .eq 29, 3) := by decide +kernel
theorem dX2_sample_175 : decode cX2_sample 175 = .ok (.aload_n 0, 1) := by decide +kernel
theorem dX2_sample_176 : decode cX2_sample 176 = .ok (.getfield 13, 3) := by decide +kernel
theorem dX2_sample_179 : decode cX2_sample 179 = .ok (.aload_n 0, 1) := by decide +kernel
theorem dX2_sample_180 : decode cX2_sample 180 = .ok (.getfield 26, 3) := by decide +kernel
theorem dX2_sample_183 : decode cX2_sample 183 = .ok (.iload 7, 2) := by decide +kernel
theorem dX2_sample_185 : decode cX2_sample 185 = .ok (.iaload, 1) := by decide +kernel
theorem dX2_sample_186 : decode cX2_sample 186 = .ok (.iaload, 1) := by decide +kernel
theorem dX2_sample_187 : decode cX2_sample 187 = .ok (.ifCond .lt 14, 3) := by decide +kernel
theorem dX2_sample_190 : decode cX2_sample 190 = .ok (.aload_n 0, 1) := by decide +kernel
theorem dX2_sample_191 : decode cX2_sample 191 = .ok (.getfield 32, 3) := by decide +kernel
theorem dX2_sample_194 : decode cX2_sample 194 = .ok (.iload 7, 2) := by decide +kernel
theorem dX2_sample_196 : decode cX2_sample 196 = .ok (.iconst (-1), 1) := by decide +kernel
theorem dX2_sample_197 : decode cX2_sample 197 = .ok (.iastore, 1) := by decide +kernel
theorem dX2_sample_198 : decode cX2_sample 198 = .ok (.iinc 5 1, 3) := by decide +kernel
theorem dX2_sample_201 : decode cX2_sample 201 = .ok (.iinc 7 1, 3) := by decide +kernel
theorem dX2_sample_204 : decode cX2_sample 204 = .ok (.goto (-110), 3) := by decide +kernel
theorem dX2_sample_207 : decode cX2_sample 207 = .ok (.iinc 6 1, 3) := by decide +kernel
theorem dX2_sample_210 : decode cX2_sample 210 = .ok (.goto (-128), 3) := by decide +kernel
theorem dX2_sample_213 : decode cX2_sample 213 = .ok (.iload 5, 2) := by decide +kernel
theorem dX2_sample_215 : decode cX2_sample 215 = .ok (.ireturn, 1) := by decide +kernel
theorem dX2_carrierAt_0 : decode cX2_carrierAt 0 = .ok (.iconst (-1), 1) := by decide +kernel
theorem dX2_carrierAt_1 : decode cX2_carrierAt 1 = .ok (.istore_n 2, 1) := by decide +kernel
theorem dX2_carrierAt_2 : decode cX2_carrierAt 2 = .ok (.iconst 0, 1) := by decide +kernel
theorem dX2_carrierAt_3 : decode cX2_carrierAt 3 = .ok (.istore_n 3, 1) := by decide +kernel
theorem dX2_carrierAt_4 : decode cX2_carrierAt 4 = .ok (.iload_n 3, 1) := by decide +kernel
theorem dX2_carrierAt_5 : decode cX2_carrierAt 5 = .ok (.sipush 200, 3) := by decide +kernel
theorem dX2_carrierAt_8 : decode cX2_carrierAt 8 = .ok (.if_icmp .ge 48, 3) := by decide +kernel
theorem dX2_carrierAt_11 : decode cX2_carrierAt 11 = .ok (.aload_n 0, 1) := by decide +kernel
theorem dX2_carrierAt_12 : decode cX2_carrierAt 12 = .ok (.getfield 13, 3) := by decide +kernel
theorem dX2_carrierAt_15 : decode cX2_carrierAt 15 = .ok (.iload_n 3, 1) := by decide +kernel
theorem dX2_carrierAt_16 : decode cX2_carrierAt 16 = .ok (.iaload, 1) := by decide +kernel
theorem dX2_carrierAt_17 : decode cX2_carrierAt 17 = .ok (.iload_n 1, 1) := by decide +kernel
theorem dX2_carrierAt_18 : decode cX2_carrierAt 18 = .ok (.if_icmp .ne 30, 3) := by decide +kernel
theorem dX2_carrierAt_21 : decode cX2_carrierAt 21 = .ok (.iload_n 1, 1) := by decide +kernel
theorem dX2_carrierAt_22 : decode cX2_carrierAt 22 = .ok (.ifCond .lt 26, 3) := by decide +kernel
theorem dX2_carrierAt_25 : decode cX2_carrierAt 25 = .ok (.iload_n 2, 1) := by decide +kernel
theorem dX2_carrierAt_26 : decode cX2_carrierAt 26 = .ok (.ifCond .lt 13, 3) := by decide +kernel
theorem dX2_carrierAt_29 : decode cX2_carrierAt 29 = .ok (.aload_n 0, 1) := by decide +kernel
theorem dX2_carrierAt_30 : decode cX2_carrierAt 30 = .ok (.getfield 7, 3) := by decide +kernel
theorem dX2_carrierAt_33 : decode cX2_carrierAt 33 = .ok (.iload_n 3, 1) := by decide +kernel
theorem dX2_carrierAt_34 : decode cX2_carrierAt 34 = .ok (.iaload, 1) := by decide +kernel
theorem dX2_carrierAt_35 : decode cX2_carrierAt 35 = .ok (.iload_n 2, 1) := by decide +kernel
theorem dX2_carrierAt_36 : decode cX2_carrierAt 36 = .ok (.if_icmp .ge 12, 3) := by decide +kernel
theorem dX2_carrierAt_39 : decode cX2_carrierAt 39 = .ok (.aload_n 0, 1) := by decide +kernel
theorem dX2_carrierAt_40 : decode cX2_carrierAt 40 = .ok (.getfield 7, 3) := by decide +kernel
theorem dX2_carrierAt_43 : decode cX2_carrierAt 43 = .ok (.iload_n 3, 1) := by decide +kernel
theorem dX2_carrierAt_44 : decode cX2_carrierAt 44 = .ok (.iaload, 1) := by decide +kernel
theorem dX2_carrierAt_45 : decode cX2_carrierAt 45 = .ok (.goto 4, 3) := by decide +kernel
theorem dX2_carrierAt_48 : decode cX2_carrierAt 48 = .ok (.iload_n 2, 1) := by decide +kernel
theorem dX2_carrierAt_49 : decode cX2_carrierAt 49 = .ok (.istore_n 2, 1) := by decide +kernel
theorem dX2_carrierAt_50 : decode cX2_carrierAt 50 = .ok (.iinc 3 1, 3) := by decide +kernel
theorem dX2_carrierAt_53 : decode cX2_carrierAt 53 = .ok (.goto (-49), 3) := by decide +kernel
theorem dX2_carrierAt_56 : decode cX2_carrierAt 56 = .ok (.iload_n 2, 1) := by decide +kernel
theorem dX2_carrierAt_57 : decode cX2_carrierAt 57 = .ok (.ireturn, 1) := by decide +kernel
set_option maxRecDepth 20000 in
theorem ggX2_goes_X2_holeOfLeader : GoodIn wsX2_goes wsX2_holeOfLeader := goodIn_r _ [8, 1, 9, 2, 10, 11, 12, 13, 7, 14, 15, 16, 17, 18, 27, 28, 29, 30, 31, 32, 33, 34, 35, 36, 37, 38, 39, 40, 41, 42, 43, 44, 45] (by decide +kernel) (by decide +kernel)
set_option maxRecDepth 20000 in
theorem gX2_goes_X2_holeOfLeader : GoodIn wsX2_goes (wsV RX2 72 RX2 yX2_holeOfLeader wsX2_holeOfLeader) := goodIn_app (goodIn_of _ (by decide +kernel)) ggX2_goes_X2_holeOfLeader
set_option maxRecDepth 20000 in
theorem ggX2_goes_X2_isHouse : GoodIn wsX2_goes wsX2_isHouse := goodIn_r _ [14, 15, 16, 17, 7, 18, 27, 28, 29, 30, 31, 32, 33, 34, 35, 36, 37, 38, 39, 40, 41, 42, 43, 44, 45] (by decide +kernel) (by decide +kernel)
set_option maxRecDepth 20000 in
theorem gX2_goes_X2_isHouse : GoodIn wsX2_goes (wsV RX2 61 RX2 yX2_isHouse wsX2_isHouse) := goodIn_app (goodIn_of _ (by decide +kernel)) ggX2_goes_X2_isHouse
set_option maxRecDepth 20000 in
theorem ggX2_goes_X2_isWrong : GoodIn wsX2_goes wsX2_isWrong := goodIn_r _ [22, 2, 10, 4, 5, 6, 7, 8, 1, 9, 11, 12, 13, 14, 15, 16, 17, 18, 27, 28, 29, 30, 31, 32, 33, 34, 35, 36, 37, 38, 39, 40, 41, 42, 43, 44, 45] (by decide +kernel) (by decide +kernel)
set_option maxRecDepth 20000 in
theorem gX2_goes_X2_isWrong : GoodIn wsX2_goes (wsV RX2 75 RX2 yX2_isWrong wsX2_isWrong) := goodIn_app (goodIn_of _ (by decide +kernel)) ggX2_goes_X2_isWrong
set_option maxRecDepth 20000 in
theorem ggX2_goes_X2_carrierAt : GoodIn wsX2_goes wsX2_carrierAt := goodIn_r _ [26, 10, 15, 27, 28, 29, 30, 31, 32, 33, 34, 35, 36, 37, 38, 39, 40, 41, 42, 43, 44, 45] (by decide +kernel) (by decide +kernel)
set_option maxRecDepth 20000 in
theorem gX2_goes_X2_carrierAt : GoodIn wsX2_goes (wsV RX2 79 RX2 yX2_carrierAt wsX2_carrierAt) := goodIn_app (goodIn_of _ (by decide +kernel)) ggX2_goes_X2_carrierAt
theorem dX2_goes_0 : decode cX2_goes 0 = .ok (.aload_n 0, 1) := by decide +kernel
theorem dX2_goes_1 : decode cX2_goes 1 = .ok (.iload_n 1, 1) := by decide +kernel
theorem dX2_goes_2 : decode cX2_goes 2 = .ok (.invokevirtual 72, 3) := by decide +kernel
theorem dX2_goes_5 : decode cX2_goes 5 = .ok (.istore_n 2, 1) := by decide +kernel
theorem dX2_goes_6 : decode cX2_goes 6 = .ok (.aload_n 0, 1) := by decide +kernel
theorem dX2_goes_7 : decode cX2_goes 7 = .ok (.getfield 29, 3) := by decide +kernel
theorem dX2_goes_10 : decode cX2_goes 10 = .ok (.iload_n 1, 1) := by decide +kernel
theorem dX2_goes_11 : decode cX2_goes 11 = .ok (.iaload, 1) := by decide +kernel
theorem dX2_goes_12 : decode cX2_goes 12 = .ok (.iconst 2, 1) := by decide +kernel
theorem dX2_goes_13 : decode cX2_goes 13 = .ok (.if_icmp .ne 19, 3) := by decide +kernel
theorem dX2_goes_16 : decode cX2_goes 16 = .ok (.aload_n 0, 1) := by decide +kernel
theorem dX2_goes_17 : decode cX2_goes 17 = .ok (.aload_n 0, 1) := by decide +kernel
theorem dX2_goes_18 : decode cX2_goes 18 = .ok (.getfield 26, 3) := by decide +kernel
theorem dX2_goes_21 : decode cX2_goes 21 = .ok (.iload_n 1, 1) := by decide +kernel
theorem dX2_goes_22 : decode cX2_goes 22 = .ok (.iaload, 1) := by decide +kernel
theorem dX2_goes_23 : decode cX2_goes 23 = .ok (.invokevirtual 61, 3) := by decide +kernel
theorem dX2_goes_26 : decode cX2_goes 26 = .ok (.ifCond .ne 28, 3) := by decide +kernel
theorem dX2_goes_29 : decode cX2_goes 29 = .ok (.goto 23, 3) := by decide +kernel
theorem dX2_goes_32 : decode cX2_goes 32 = .ok (.iload_n 2, 1) := by decide +kernel
theorem dX2_goes_33 : decode cX2_goes 33 = .ok (.ifCond .lt 19, 3) := by decide +kernel
theorem dX2_goes_36 : decode cX2_goes 36 = .ok (.aload_n 0, 1) := by decide +kernel
theorem dX2_goes_37 : decode cX2_goes 37 = .ok (.iload_n 1, 1) := by decide +kernel
theorem dX2_goes_38 : decode cX2_goes 38 = .ok (.invokevirtual 75, 3) := by decide +kernel
theorem dX2_goes_41 : decode cX2_goes 41 = .ok (.ifCond .eq 13, 3) := by decide +kernel
theorem dX2_goes_44 : decode cX2_goes 44 = .ok (.aload_n 0, 1) := by decide +kernel
theorem dX2_goes_45 : decode cX2_goes 45 = .ok (.iload_n 2, 1) := by decide +kernel
theorem dX2_goes_46 : decode cX2_goes 46 = .ok (.invokevirtual 79, 3) := by decide +kernel
theorem dX2_goes_49 : decode cX2_goes 49 = .ok (.ifCond .ge 5, 3) := by decide +kernel
theorem dX2_goes_52 : decode cX2_goes 52 = .ok (.iconst 0, 1) := by decide +kernel
theorem dX2_goes_53 : decode cX2_goes 53 = .ok (.ireturn, 1) := by decide +kernel
theorem dX2_goes_54 : decode cX2_goes 54 = .ok (.aload_n 0, 1) := by decide +kernel
theorem dX2_goes_55 : decode cX2_goes 55 = .ok (.iload_n 1, 1) := by decide +kernel
theorem dX2_goes_56 : decode cX2_goes 56 = .ok (.invokevirtual 75, 3) := by decide +kernel
theorem dX2_goes_59 : decode cX2_goes 59 = .ok (.ifCond .eq 5, 3) := by decide +kernel
theorem dX2_goes_62 : decode cX2_goes 62 = .ok (.iconst 2, 1) := by decide +kernel
theorem dX2_goes_63 : decode cX2_goes 63 = .ok (.ireturn, 1) := by decide +kernel
theorem dX2_goes_64 : decode cX2_goes 64 = .ok (.aload_n 0, 1) := by decide +kernel
theorem dX2_goes_65 : decode cX2_goes 65 = .ok (.getfield 16, 3) := by decide +kernel
theorem dX2_goes_68 : decode cX2_goes 68 = .ok (.aload_n 0, 1) := by decide +kernel
theorem dX2_goes_69 : decode cX2_goes 69 = .ok (.getfield 26, 3) := by decide +kernel
theorem dX2_goes_72 : decode cX2_goes 72 = .ok (.iload_n 1, 1) := by decide +kernel
theorem dX2_goes_73 : decode cX2_goes 73 = .ok (.iaload, 1) := by decide +kernel
theorem dX2_goes_74 : decode cX2_goes 74 = .ok (.baload, 1) := by decide +kernel
theorem dX2_goes_75 : decode cX2_goes 75 = .ok (.ifCond .eq 7, 3) := by decide +kernel
theorem dX2_goes_78 : decode cX2_goes 78 = .ok (.iconst 3, 1) := by decide +kernel
theorem dX2_goes_79 : decode cX2_goes 79 = .ok (.goto 18, 3) := by decide +kernel
theorem dX2_goes_82 : decode cX2_goes 82 = .ok (.aload_n 0, 1) := by decide +kernel
theorem dX2_goes_83 : decode cX2_goes 83 = .ok (.getfield 29, 3) := by decide +kernel
theorem dX2_goes_86 : decode cX2_goes 86 = .ok (.iload_n 1, 1) := by decide +kernel
theorem dX2_goes_87 : decode cX2_goes 87 = .ok (.iaload, 1) := by decide +kernel
theorem dX2_goes_88 : decode cX2_goes 88 = .ok (.iconst 2, 1) := by decide +kernel
theorem dX2_goes_89 : decode cX2_goes 89 = .ok (.if_icmp .ne 7, 3) := by decide +kernel
theorem dX2_goes_92 : decode cX2_goes 92 = .ok (.iconst 4, 1) := by decide +kernel
theorem dX2_goes_93 : decode cX2_goes 93 = .ok (.goto 4, 3) := by decide +kernel
theorem dX2_goes_96 : decode cX2_goes 96 = .ok (.iconst 1, 1) := by decide +kernel
theorem dX2_goes_97 : decode cX2_goes 97 = .ok (.ireturn, 1) := by decide +kernel
theorem dX2_pass_0 : decode cX2_pass 0 = .ok (.iload_n 1, 1) := by decide +kernel
theorem dX2_pass_1 : decode cX2_pass 1 = .ok (.istore_n 2, 1) := by decide +kernel
theorem dX2_pass_2 : decode cX2_pass 2 = .ok (.iload_n 2, 1) := by decide +kernel
theorem dX2_pass_3 : decode cX2_pass 3 = .ok (.ifCond .lt 84, 3) := by decide +kernel
theorem dX2_pass_6 : decode cX2_pass 6 = .ok (.aload_n 0, 1) := by decide +kernel
theorem dX2_pass_7 : decode cX2_pass 7 = .ok (.aload_n 0, 1) := by decide +kernel
theorem dX2_pass_8 : decode cX2_pass 8 = .ok (.getfield 82, 3) := by decide +kernel
theorem dX2_pass_11 : decode cX2_pass 11 = .ok (.aload_n 0, 1) := by decide +kernel
theorem dX2_pass_12 : decode cX2_pass 12 = .ok (.getfield 85, 3) := by decide +kernel
theorem dX2_pass_15 : decode cX2_pass 15 = .ok (.if_icmp .ne 7, 3) := by decide +kernel
theorem dX2_pass_18 : decode cX2_pass 18 = .ok (.iload_n 2, 1) := by decide +kernel
theorem dX2_pass_19 : decode cX2_pass 19 = .ok (.goto 7, 3) := by decide +kernel
theorem dX2_pass_22 : decode cX2_pass 22 = .ok (.aload_n 0, 1) := by decide +kernel
theorem dX2_pass_23 : decode cX2_pass 23 = .ok (.getfield 88, 3) := by decide +kernel
theorem dX2_pass_26 : decode cX2_pass 26 = .ok (.putfield 88, 3) := by decide +kernel
theorem dX2_pass_29 : decode cX2_pass 29 = .ok (.aload_n 0, 1) := by decide +kernel
theorem dX2_pass_30 : decode cX2_pass 30 = .ok (.dup, 1) := by decide +kernel
theorem dX2_pass_31 : decode cX2_pass 31 = .ok (.getfield 82, 3) := by decide +kernel
theorem dX2_pass_34 : decode cX2_pass 34 = .ok (.iconst 1, 1) := by decide +kernel
theorem dX2_pass_35 : decode cX2_pass 35 = .ok (.iadd, 1) := by decide +kernel
theorem dX2_pass_36 : decode cX2_pass 36 = .ok (.putfield 82, 3) := by decide +kernel
theorem dX2_pass_39 : decode cX2_pass 39 = .ok (.aload_n 0, 1) := by decide +kernel
theorem dX2_pass_40 : decode cX2_pass 40 = .ok (.dup, 1) := by decide +kernel
theorem dX2_pass_41 : decode cX2_pass 41 = .ok (.getfield 91, 3) := by decide +kernel
theorem dX2_pass_44 : decode cX2_pass 44 = .ok (.aload_n 0, 1) := by decide +kernel
theorem dX2_pass_45 : decode cX2_pass 45 = .ok (.getfield 29, 3) := by decide +kernel
theorem dX2_pass_48 : decode cX2_pass 48 = .ok (.iload_n 2, 1) := by decide +kernel
theorem dX2_pass_49 : decode cX2_pass 49 = .ok (.iaload, 1) := by decide +kernel
theorem dX2_pass_50 : decode cX2_pass 50 = .ok (.ifCond .ne 7, 3) := by decide +kernel
theorem dX2_pass_53 : decode cX2_pass 53 = .ok (.iconst 2, 1) := by decide +kernel
theorem dX2_pass_54 : decode cX2_pass 54 = .ok (.goto 19, 3) := by decide +kernel
theorem dX2_pass_57 : decode cX2_pass 57 = .ok (.aload_n 0, 1) := by decide +kernel
theorem dX2_pass_58 : decode cX2_pass 58 = .ok (.getfield 29, 3) := by decide +kernel
theorem dX2_pass_61 : decode cX2_pass 61 = .ok (.iload_n 2, 1) := by decide +kernel
theorem dX2_pass_62 : decode cX2_pass 62 = .ok (.iaload, 1) := by decide +kernel
theorem dX2_pass_63 : decode cX2_pass 63 = .ok (.iconst 1, 1) := by decide +kernel
theorem dX2_pass_64 : decode cX2_pass 64 = .ok (.if_icmp .ne 7, 3) := by decide +kernel
theorem dX2_pass_67 : decode cX2_pass 67 = .ok (.iconst 3, 1) := by decide +kernel
theorem dX2_pass_68 : decode cX2_pass 68 = .ok (.goto 5, 3) := by decide +kernel
theorem dX2_pass_71 : decode cX2_pass 71 = .ok (.bipush 7, 2) := by decide +kernel
theorem dX2_pass_73 : decode cX2_pass 73 = .ok (.iadd, 1) := by decide +kernel
theorem dX2_pass_74 : decode cX2_pass 74 = .ok (.putfield 91, 3) := by decide +kernel
theorem dX2_pass_77 : decode cX2_pass 77 = .ok (.aload_n 0, 1) := by decide +kernel
theorem dX2_pass_78 : decode cX2_pass 78 = .ok (.getfield 35, 3) := by decide +kernel
theorem dX2_pass_81 : decode cX2_pass 81 = .ok (.iload_n 2, 1) := by decide +kernel
theorem dX2_pass_82 : decode cX2_pass 82 = .ok (.iaload, 1) := by decide +kernel
theorem dX2_pass_83 : decode cX2_pass 83 = .ok (.istore_n 2, 1) := by decide +kernel
theorem dX2_pass_84 : decode cX2_pass 84 = .ok (.goto (-82), 3) := by decide +kernel
theorem dX2_pass_87 : decode cX2_pass 87 = .ok (.return_, 1) := by decide +kernel
theorem dX2_begin_0 : decode cX2_begin 0 = .ok (.aload_n 0, 1) := by decide +kernel
theorem dX2_begin_1 : decode cX2_begin 1 = .ok (.iconst 0, 1) := by decide +kernel
theorem dX2_begin_2 : decode cX2_begin 2 = .ok (.putfield 82, 3) := by decide +kernel
theorem dX2_begin_5 : decode cX2_begin 5 = .ok (.aload_n 0, 1) := by decide +kernel
theorem dX2_begin_6 : decode cX2_begin 6 = .ok (.iconst 0, 1) := by decide +kernel
theorem dX2_begin_7 : decode cX2_begin 7 = .ok (.putfield 91, 3) := by decide +kernel
theorem dX2_begin_10 : decode cX2_begin 10 = .ok (.aload_n 0, 1) := by decide +kernel
theorem dX2_begin_11 : decode cX2_begin 11 = .ok (.iload_n 1, 1) := by decide +kernel
theorem dX2_begin_12 : decode cX2_begin 12 = .ok (.putfield 85, 3) := by decide +kernel
theorem dX2_begin_15 : decode cX2_begin 15 = .ok (.aload_n 0, 1) := by decide +kernel
theorem dX2_begin_16 : decode cX2_begin 16 = .ok (.iconst (-1), 1) := by decide +kernel
theorem dX2_begin_17 : decode cX2_begin 17 = .ok (.putfield 88, 3) := by decide +kernel
theorem dX2_begin_20 : decode cX2_begin 20 = .ok (.return_, 1) := by decide +kernel
set_option maxRecDepth 20000 in
theorem ggX2_passHouse_X2_goes : GoodIn wsX2_passHouse wsX2_goes := goodIn_r _ [8, 9, 3, 10, 11, 12, 13, 7, 14, 15, 16, 17, 18, 19, 20, 21, 22, 23, 24, 25, 26, 27, 28, 29, 30, 31, 32, 42, 43, 44, 45, 46, 47, 48, 49, 50, 51, 52, 53, 54, 55, 56, 57, 58, 59, 60] (by decide +kernel) (by decide +kernel)
set_option maxRecDepth 20000 in
theorem gX2_passHouse_X2_goes : GoodIn wsX2_passHouse (wsV RX2 94 RX2 yX2_goes wsX2_goes) := goodIn_app (goodIn_of _ (by decide +kernel)) ggX2_passHouse_X2_goes
set_option maxRecDepth 20000 in
theorem ggX2_passHouse_X2_pass : GoodIn wsX2_passHouse wsX2_pass := goodIn_r _ [36, 37, 38, 39, 40, 9, 41, 42, 43, 44, 45, 46, 47, 48, 49, 50, 51, 52, 53, 54, 55, 56, 57, 58, 59, 60] (by decide +kernel) (by decide +kernel)
set_option maxRecDepth 20000 in
theorem gX2_passHouse_X2_pass : GoodIn wsX2_passHouse (wsV RX2 97 RX2 yX2_pass wsX2_pass) := goodIn_app (goodIn_of _ (by decide +kernel)) ggX2_passHouse_X2_pass
theorem dX2_passHouse_0 : decode cX2_passHouse 0 = .ok (.iconst 0, 1) := by decide +kernel
theorem dX2_passHouse_1 : decode cX2_passHouse 1 = .ok (.istore_n 3, 1) := by decide +kernel
theorem dX2_passHouse_2 : decode cX2_passHouse 2 = .ok (.iload_n 3, 1) := by decide +kernel
theorem dX2_passHouse_3 : decode cX2_passHouse 3 = .ok (.aload_n 0, 1) := by decide +kernel
theorem dX2_passHouse_4 : decode cX2_passHouse 4 = .ok (.getfield 55, 3) := by decide +kernel
theorem dX2_passHouse_7 : decode cX2_passHouse 7 = .ok (.if_icmp .ge 42, 3) := by decide +kernel
theorem dX2_passHouse_10 : decode cX2_passHouse 10 = .ok (.aload_n 0, 1) := by decide +kernel
theorem dX2_passHouse_11 : decode cX2_passHouse 11 = .ok (.getfield 38, 3) := by decide +kernel
theorem dX2_passHouse_14 : decode cX2_passHouse 14 = .ok (.iload_n 3, 1) := by decide +kernel
theorem dX2_passHouse_15 : decode cX2_passHouse 15 = .ok (.iaload, 1) := by decide +kernel
theorem dX2_passHouse_16 : decode cX2_passHouse 16 = .ok (.ifCond .ge 27, 3) := by decide +kernel
theorem dX2_passHouse_19 : decode cX2_passHouse 19 = .ok (.aload_n 0, 1) := by decide +kernel
theorem dX2_passHouse_20 : decode cX2_passHouse 20 = .ok (.getfield 26, 3) := by decide +kernel
theorem dX2_passHouse_23 : decode cX2_passHouse 23 = .ok (.iload_n 3, 1) := by decide +kernel
theorem dX2_passHouse_24 : decode cX2_passHouse 24 = .ok (.iaload, 1) := by decide +kernel
theorem dX2_passHouse_25 : decode cX2_passHouse 25 = .ok (.iload_n 1, 1) := by decide +kernel
theorem dX2_passHouse_26 : decode cX2_passHouse 26 = .ok (.if_icmp .ne 17, 3) := by decide +kernel
theorem dX2_passHouse_29 : decode cX2_passHouse 29 = .ok (.aload_n 0, 1) := by decide +kernel
theorem dX2_passHouse_30 : decode cX2_passHouse 30 = .ok (.iload_n 3, 1) := by decide +kernel
theorem dX2_passHouse_31 : decode cX2_passHouse 31 = .ok (.invokevirtual 94, 3) := by decide +kernel
theorem dX2_passHouse_34 : decode cX2_passHouse 34 = .ok (.iload_n 2, 1) := by decide +kernel
theorem dX2_passHouse_35 : decode cX2_passHouse 35 = .ok (.if_icmp .ne 8, 3) := by decide +kernel
theorem dX2_passHouse_38 : decode cX2_passHouse 38 = .ok (.aload_n 0, 1) := by decide +kernel
theorem dX2_passHouse_39 : decode cX2_passHouse 39 = .ok (.iload_n 3, 1) := by decide +kernel
theorem dX2_passHouse_40 : decode cX2_passHouse 40 = .ok (.invokevirtual 97, 3) := by decide +kernel
theorem dX2_passHouse_43 : decode cX2_passHouse 43 = .ok (.iinc 3 1, 3) := by decide +kernel
theorem dX2_passHouse_46 : decode cX2_passHouse 46 = .ok (.goto (-44), 3) := by decide +kernel
theorem dX2_passHouse_49 : decode cX2_passHouse 49 = .ok (.return_, 1) := by decide +kernel
set_option maxRecDepth 20000 in
theorem ggX2_passFrame_X2_begin : GoodIn wsX2_passFrame wsX2_begin := goodIn_r _ [10, 11, 12, 13, 14, 53, 54, 55, 56, 57, 58, 59, 60, 61, 62, 63, 64, 65, 66, 67, 68, 69, 70, 71] (by decide +kernel) (by decide +kernel)
set_option maxRecDepth 20000 in
theorem gX2_passFrame_X2_begin : GoodIn wsX2_passFrame (wsV RX2 101 RX2 yX2_begin wsX2_begin) := goodIn_app (goodIn_of _ (by decide +kernel)) ggX2_passFrame_X2_begin
set_option maxRecDepth 20000 in
theorem ggX2_passFrame_X2_passHouse : GoodIn wsX2_passFrame wsX2_passHouse := goodIn_r _ [18, 4, 5, 19, 20, 21, 22, 9, 23, 24, 25, 26, 27, 28, 29, 30, 31, 32, 33, 34, 35, 36, 37, 38, 39, 40, 41, 42, 43, 44, 45, 46, 47, 48, 49, 50, 51, 11, 13, 14, 12, 52, 53, 54, 55, 56, 57, 58, 59, 60, 61, 62, 63, 64, 65, 66, 67, 68, 69, 70, 71] (by decide +kernel) (by decide +kernel)
set_option maxRecDepth 20000 in
theorem gX2_passFrame_X2_passHouse : GoodIn wsX2_passFrame (wsV RX2 104 RX2 yX2_passHouse wsX2_passHouse) := goodIn_app (goodIn_of _ (by decide +kernel)) ggX2_passFrame_X2_passHouse
set_option maxRecDepth 20000 in
theorem ggX2_passFrame_X2_holeOfLeader : GoodIn wsX2_passFrame wsX2_holeOfLeader := goodIn_r _ [29, 24, 30, 19, 31, 32, 33, 34, 9, 35, 36, 37, 38, 39, 53, 54, 55, 56, 57, 58, 59, 60, 61, 62, 63, 64, 65, 66, 67, 68, 69, 70, 71] (by decide +kernel) (by decide +kernel)
set_option maxRecDepth 20000 in
theorem gX2_passFrame_X2_holeOfLeader : GoodIn wsX2_passFrame (wsV RX2 72 RX2 yX2_holeOfLeader wsX2_holeOfLeader) := goodIn_app (goodIn_of _ (by decide +kernel)) ggX2_passFrame_X2_holeOfLeader
set_option maxRecDepth 20000 in
theorem ggX2_passFrame_X2_goes : GoodIn wsX2_passFrame wsX2_goes := goodIn_r _ [23, 24, 19, 25, 26, 27, 28, 9, 29, 30, 31, 32, 33, 34, 35, 36, 37, 38, 39, 40, 41, 42, 43, 44, 45, 46, 47, 53, 54, 55, 56, 57, 58, 59, 60, 61, 62, 63, 64, 65, 66, 67, 68, 69, 70, 71] (by decide +kernel) (by decide +kernel)
set_option maxRecDepth 20000 in
theorem gX2_passFrame_X2_goes : GoodIn wsX2_passFrame (wsV RX2 94 RX2 yX2_goes wsX2_goes) := goodIn_app (goodIn_of _ (by decide +kernel)) ggX2_passFrame_X2_goes
set_option maxRecDepth 20000 in
theorem ggX2_passFrame_X2_carrierAt : GoodIn wsX2_passFrame wsX2_carrierAt := goodIn_r _ [47, 31, 36, 53, 54, 55, 56, 57, 58, 59, 60, 61, 62, 63, 64, 65, 66, 67, 68, 69, 70, 71] (by decide +kernel) (by decide +kernel)
set_option maxRecDepth 20000 in
theorem gX2_passFrame_X2_carrierAt : GoodIn wsX2_passFrame (wsV RX2 79 RX2 yX2_carrierAt wsX2_carrierAt) := goodIn_app (goodIn_of _ (by decide +kernel)) ggX2_passFrame_X2_carrierAt
set_option maxRecDepth 20000 in
theorem ggX2_passFrame_X2_pass : GoodIn wsX2_passFrame wsX2_pass := goodIn_r _ [51, 11, 13, 14, 12, 24, 52, 53, 54, 55, 56, 57, 58, 59, 60, 61, 62, 63, 64, 65, 66, 67, 68, 69, 70, 71] (by decide +kernel) (by decide +kernel)
set_option maxRecDepth 20000 in
theorem gX2_passFrame_X2_pass : GoodIn wsX2_passFrame (wsV RX2 97 RX2 yX2_pass wsX2_pass) := goodIn_app (goodIn_of _ (by decide +kernel)) ggX2_passFrame_X2_pass
theorem dX2_passFrame_0 : decode cX2_passFrame 0 = .ok (.aload_n 0, 1) := by decide +kernel
theorem dX2_passFrame_1 : decode cX2_passFrame 1 = .ok (.iload_n 2, 1) := by decide +kernel
theorem dX2_passFrame_2 : decode cX2_passFrame 2 = .ok (.invokevirtual 101, 3) := by decide +kernel
theorem dX2_passFrame_5 : decode cX2_passFrame 5 = .ok (.iconst 0, 1) := by decide +kernel
theorem dX2_passFrame_6 : decode cX2_passFrame 6 = .ok (.istore_n 3, 1) := by decide +kernel
theorem dX2_passFrame_7 : decode cX2_passFrame 7 = .ok (.iload_n 3, 1) := by decide +kernel
theorem dX2_passFrame_8 : decode cX2_passFrame 8 = .ok (.aload_n 0, 1) := by decide +kernel
theorem dX2_passFrame_9 : decode cX2_passFrame 9 = .ok (.getfield 23, 3) := by decide +kernel
theorem dX2_passFrame_12 : decode cX2_passFrame 12 = .ok (.iload_n 1, 1) := by decide +kernel
theorem dX2_passFrame_13 : decode cX2_passFrame 13 = .ok (.iaload, 1) := by decide +kernel
theorem dX2_passFrame_14 : decode cX2_passFrame 14 = .ok (.if_icmp .ge 25, 3) := by decide +kernel
theorem dX2_passFrame_17 : decode cX2_passFrame 17 = .ok (.aload_n 0, 1) := by decide +kernel
theorem dX2_passFrame_18 : decode cX2_passFrame 18 = .ok (.aload_n 0, 1) := by decide +kernel
theorem dX2_passFrame_19 : decode cX2_passFrame 19 = .ok (.getfield 20, 3) := by decide +kernel
theorem dX2_passFrame_22 : decode cX2_passFrame 22 = .ok (.bipush 60, 2) := by decide +kernel
theorem dX2_passFrame_24 : decode cX2_passFrame 24 = .ok (.iload_n 1, 1) := by decide +kernel
theorem dX2_passFrame_25 : decode cX2_passFrame 25 = .ok (.imul, 1) := by decide +kernel
theorem dX2_passFrame_26 : decode cX2_passFrame 26 = .ok (.iload_n 3, 1) := by decide +kernel
theorem dX2_passFrame_27 : decode cX2_passFrame 27 = .ok (.iadd, 1) := by decide +kernel
theorem dX2_passFrame_28 : decode cX2_passFrame 28 = .ok (.iaload, 1) := by decide +kernel
theorem dX2_passFrame_29 : decode cX2_passFrame 29 = .ok (.iconst 1, 1) := by decide +kernel
theorem dX2_passFrame_30 : decode cX2_passFrame 30 = .ok (.invokevirtual 104, 3) := by decide +kernel
theorem dX2_passFrame_33 : decode cX2_passFrame 33 = .ok (.iinc 3 1, 3) := by decide +kernel
theorem dX2_passFrame_36 : decode cX2_passFrame 36 = .ok (.goto (-29), 3) := by decide +kernel
theorem dX2_passFrame_39 : decode cX2_passFrame 39 = .ok (.iconst 0, 1) := by decide +kernel
theorem dX2_passFrame_40 : decode cX2_passFrame 40 = .ok (.istore_n 3, 1) := by decide +kernel
theorem dX2_passFrame_41 : decode cX2_passFrame 41 = .ok (.iload_n 3, 1) := by decide +kernel
theorem dX2_passFrame_42 : decode cX2_passFrame 42 = .ok (.aload_n 0, 1) := by decide +kernel
theorem dX2_passFrame_43 : decode cX2_passFrame 43 = .ok (.getfield 44, 3) := by decide +kernel
theorem dX2_passFrame_46 : decode cX2_passFrame 46 = .ok (.if_icmp .ge 72, 3) := by decide +kernel
theorem dX2_passFrame_49 : decode cX2_passFrame 49 = .ok (.iconst 0, 1) := by decide +kernel
theorem dX2_passFrame_50 : decode cX2_passFrame 50 = .ok (.istore 4, 2) := by decide +kernel
theorem dX2_passFrame_52 : decode cX2_passFrame 52 = .ok (.iload 4, 2) := by decide +kernel
theorem dX2_passFrame_54 : decode cX2_passFrame 54 = .ok (.aload_n 0, 1) := by decide +kernel
theorem dX2_passFrame_55 : decode cX2_passFrame 55 = .ok (.getfield 55, 3) := by decide +kernel
theorem dX2_passFrame_58 : decode cX2_passFrame 58 = .ok (.if_icmp .ge 54, 3) := by decide +kernel
theorem dX2_passFrame_61 : decode cX2_passFrame 61 = .ok (.aload_n 0, 1) := by decide +kernel
theorem dX2_passFrame_62 : decode cX2_passFrame 62 = .ok (.getfield 38, 3) := by decide +kernel
theorem dX2_passFrame_65 : decode cX2_passFrame 65 = .ok (.iload 4, 2) := by decide +kernel
theorem dX2_passFrame_67 : decode cX2_passFrame 67 = .ok (.iaload, 1) := by decide +kernel
theorem dX2_passFrame_68 : decode cX2_passFrame 68 = .ok (.ifCond .ge 38, 3) := by decide +kernel
theorem dX2_passFrame_71 : decode cX2_passFrame 71 = .ok (.aload_n 0, 1) := by decide +kernel
theorem dX2_passFrame_72 : decode cX2_passFrame 72 = .ok (.iload 4, 2) := by decide +kernel
theorem dX2_passFrame_74 : decode cX2_passFrame 74 = .ok (.invokevirtual 72, 3) := by decide +kernel
theorem dX2_passFrame_77 : decode cX2_passFrame 77 = .ok (.iload_n 3, 1) := by decide +kernel
theorem dX2_passFrame_78 : decode cX2_passFrame 78 = .ok (.if_icmp .ne 28, 3) := by decide +kernel
theorem dX2_passFrame_81 : decode cX2_passFrame 81 = .ok (.aload_n 0, 1) := by decide +kernel
theorem dX2_passFrame_82 : decode cX2_passFrame 82 = .ok (.iload 4, 2) := by decide +kernel
theorem dX2_passFrame_84 : decode cX2_passFrame 84 = .ok (.invokevirtual 94, 3) := by decide +kernel
theorem dX2_passFrame_87 : decode cX2_passFrame 87 = .ok (.iconst 2, 1) := by decide +kernel
theorem dX2_passFrame_88 : decode cX2_passFrame 88 = .ok (.if_icmp .ne 18, 3) := by decide +kernel
theorem dX2_passFrame_91 : decode cX2_passFrame 91 = .ok (.aload_n 0, 1) := by decide +kernel
theorem dX2_passFrame_92 : decode cX2_passFrame 92 = .ok (.iload_n 3, 1) := by decide +kernel
theorem dX2_passFrame_93 : decode cX2_passFrame 93 = .ok (.invokevirtual 79, 3) := by decide +kernel
theorem dX2_passFrame_96 : decode cX2_passFrame 96 = .ok (.iload_n 1, 1) := by decide +kernel
theorem dX2_passFrame_97 : decode cX2_passFrame 97 = .ok (.if_icmp .ne 9, 3) := by decide +kernel
theorem dX2_passFrame_100 : decode cX2_passFrame 100 = .ok (.aload_n 0, 1) := by decide +kernel
theorem dX2_passFrame_101 : decode cX2_passFrame 101 = .ok (.iload 4, 2) := by decide +kernel
theorem dX2_passFrame_103 : decode cX2_passFrame 103 = .ok (.invokevirtual 97, 3) := by decide +kernel
theorem dX2_passFrame_106 : decode cX2_passFrame 106 = .ok (.iinc 4 1, 3) := by decide +kernel
theorem dX2_passFrame_109 : decode cX2_passFrame 109 = .ok (.goto (-57), 3) := by decide +kernel
theorem dX2_passFrame_112 : decode cX2_passFrame 112 = .ok (.iinc 3 1, 3) := by decide +kernel
theorem dX2_passFrame_115 : decode cX2_passFrame 115 = .ok (.goto (-74), 3) := by decide +kernel
theorem dX2_passFrame_118 : decode cX2_passFrame 118 = .ok (.return_, 1) := by decide +kernel
set_option maxRecDepth 20000 in
theorem ggX2_passList_X2_begin : GoodIn wsX2_passList wsX2_begin := goodIn_r _ [7, 8, 9, 10, 11, 52, 53, 54, 55, 56, 57, 58, 59, 60, 61, 62, 63, 64, 65, 66, 67, 68, 69, 70] (by decide +kernel) (by decide +kernel)
set_option maxRecDepth 20000 in
theorem gX2_passList_X2_begin : GoodIn wsX2_passList (wsV RX2 101 RX2 yX2_begin wsX2_begin) := goodIn_app (goodIn_of _ (by decide +kernel)) ggX2_passList_X2_begin
set_option maxRecDepth 20000 in
theorem ggX2_passList_X2_passHouse : GoodIn wsX2_passList wsX2_passHouse := goodIn_r _ [15, 16, 17, 18, 19, 20, 21, 6, 22, 23, 24, 25, 26, 27, 28, 29, 30, 31, 32, 33, 34, 35, 36, 37, 38, 39, 40, 41, 42, 43, 44, 45, 46, 47, 48, 49, 50, 8, 10, 11, 9, 51, 52, 53, 54, 55, 56, 57, 58, 59, 60, 61, 62, 63, 64, 65, 66, 67, 68, 69, 70] (by decide +kernel) (by decide +kernel)
set_option maxRecDepth 20000 in
theorem gX2_passList_X2_passHouse : GoodIn wsX2_passList (wsV RX2 104 RX2 yX2_passHouse wsX2_passHouse) := goodIn_app (goodIn_of _ (by decide +kernel)) ggX2_passList_X2_passHouse
theorem dX2_passList_0 : decode cX2_passList 0 = .ok (.aload_n 0, 1) := by decide +kernel
theorem dX2_passList_1 : decode cX2_passList 1 = .ok (.iload_n 2, 1) := by decide +kernel
theorem dX2_passList_2 : decode cX2_passList 2 = .ok (.invokevirtual 101, 3) := by decide +kernel
theorem dX2_passList_5 : decode cX2_passList 5 = .ok (.iconst 0, 1) := by decide +kernel
theorem dX2_passList_6 : decode cX2_passList 6 = .ok (.istore_n 3, 1) := by decide +kernel
theorem dX2_passList_7 : decode cX2_passList 7 = .ok (.iload_n 3, 1) := by decide +kernel
theorem dX2_passList_8 : decode cX2_passList 8 = .ok (.aload_n 0, 1) := by decide +kernel
theorem dX2_passList_9 : decode cX2_passList 9 = .ok (.getfield 23, 3) := by decide +kernel
theorem dX2_passList_12 : decode cX2_passList 12 = .ok (.iload_n 1, 1) := by decide +kernel
theorem dX2_passList_13 : decode cX2_passList 13 = .ok (.iaload, 1) := by decide +kernel
theorem dX2_passList_14 : decode cX2_passList 14 = .ok (.if_icmp .ge 25, 3) := by decide +kernel
theorem dX2_passList_17 : decode cX2_passList 17 = .ok (.aload_n 0, 1) := by decide +kernel
theorem dX2_passList_18 : decode cX2_passList 18 = .ok (.aload_n 0, 1) := by decide +kernel
theorem dX2_passList_19 : decode cX2_passList 19 = .ok (.getfield 20, 3) := by decide +kernel
theorem dX2_passList_22 : decode cX2_passList 22 = .ok (.bipush 60, 2) := by decide +kernel
theorem dX2_passList_24 : decode cX2_passList 24 = .ok (.iload_n 1, 1) := by decide +kernel
theorem dX2_passList_25 : decode cX2_passList 25 = .ok (.imul, 1) := by decide +kernel
theorem dX2_passList_26 : decode cX2_passList 26 = .ok (.iload_n 3, 1) := by decide +kernel
theorem dX2_passList_27 : decode cX2_passList 27 = .ok (.iadd, 1) := by decide +kernel
theorem dX2_passList_28 : decode cX2_passList 28 = .ok (.iaload, 1) := by decide +kernel
theorem dX2_passList_29 : decode cX2_passList 29 = .ok (.iconst 4, 1) := by decide +kernel
theorem dX2_passList_30 : decode cX2_passList 30 = .ok (.invokevirtual 104, 3) := by decide +kernel
theorem dX2_passList_33 : decode cX2_passList 33 = .ok (.iinc 3 1, 3) := by decide +kernel
theorem dX2_passList_36 : decode cX2_passList 36 = .ok (.goto (-29), 3) := by decide +kernel
theorem dX2_passList_39 : decode cX2_passList 39 = .ok (.return_, 1) := by decide +kernel
set_option maxRecDepth 20000 in
theorem ggX2_passStray_X2_begin : GoodIn wsX2_passStray wsX2_begin := goodIn_r _ [7, 8, 9, 10, 11, 46, 47, 48, 49, 50, 51, 52, 53, 54, 55, 56, 57, 58, 59, 60, 61, 62, 63, 64] (by decide +kernel) (by decide +kernel)
set_option maxRecDepth 20000 in
theorem gX2_passStray_X2_begin : GoodIn wsX2_passStray (wsV RX2 101 RX2 yX2_begin wsX2_begin) := goodIn_app (goodIn_of _ (by decide +kernel)) ggX2_passStray_X2_begin
set_option maxRecDepth 20000 in
theorem ggX2_passStray_X2_goes : GoodIn wsX2_passStray wsX2_goes := goodIn_r _ [15, 16, 17, 18, 19, 20, 21, 6, 22, 23, 24, 25, 26, 27, 28, 29, 30, 31, 32, 33, 34, 35, 36, 37, 38, 39, 40, 46, 47, 48, 49, 50, 51, 52, 53, 54, 55, 56, 57, 58, 59, 60, 61, 62, 63, 64] (by decide +kernel) (by decide +kernel)
set_option maxRecDepth 20000 in
theorem gX2_passStray_X2_goes : GoodIn wsX2_passStray (wsV RX2 94 RX2 yX2_goes wsX2_goes) := goodIn_app (goodIn_of _ (by decide +kernel)) ggX2_passStray_X2_goes
set_option maxRecDepth 20000 in
theorem ggX2_passStray_X2_pass : GoodIn wsX2_passStray wsX2_pass := goodIn_r _ [44, 8, 10, 11, 9, 16, 45, 46, 47, 48, 49, 50, 51, 52, 53, 54, 55, 56, 57, 58, 59, 60, 61, 62, 63, 64] (by decide +kernel) (by decide +kernel)
set_option maxRecDepth 20000 in
theorem gX2_passStray_X2_pass : GoodIn wsX2_passStray (wsV RX2 97 RX2 yX2_pass wsX2_pass) := goodIn_app (goodIn_of _ (by decide +kernel)) ggX2_passStray_X2_pass
theorem dX2_passStray_0 : decode cX2_passStray 0 = .ok (.aload_n 0, 1) := by decide +kernel
theorem dX2_passStray_1 : decode cX2_passStray 1 = .ok (.iload_n 1, 1) := by decide +kernel
theorem dX2_passStray_2 : decode cX2_passStray 2 = .ok (.invokevirtual 101, 3) := by decide +kernel
theorem dX2_passStray_5 : decode cX2_passStray 5 = .ok (.iconst 0, 1) := by decide +kernel
theorem dX2_passStray_6 : decode cX2_passStray 6 = .ok (.istore_n 2, 1) := by decide +kernel
theorem dX2_passStray_7 : decode cX2_passStray 7 = .ok (.iload_n 2, 1) := by decide +kernel
theorem dX2_passStray_8 : decode cX2_passStray 8 = .ok (.aload_n 0, 1) := by decide +kernel
theorem dX2_passStray_9 : decode cX2_passStray 9 = .ok (.getfield 55, 3) := by decide +kernel
theorem dX2_passStray_12 : decode cX2_passStray 12 = .ok (.if_icmp .ge 31, 3) := by decide +kernel
theorem dX2_passStray_15 : decode cX2_passStray 15 = .ok (.aload_n 0, 1) := by decide +kernel
theorem dX2_passStray_16 : decode cX2_passStray 16 = .ok (.getfield 38, 3) := by decide +kernel
theorem dX2_passStray_19 : decode cX2_passStray 19 = .ok (.iload_n 2, 1) := by decide +kernel
theorem dX2_passStray_20 : decode cX2_passStray 20 = .ok (.iaload, 1) := by decide +kernel
theorem dX2_passStray_21 : decode cX2_passStray 21 = .ok (.ifCond .ge 16, 3) := by decide +kernel
theorem dX2_passStray_24 : decode cX2_passStray 24 = .ok (.aload_n 0, 1) := by decide +kernel
theorem dX2_passStray_25 : decode cX2_passStray 25 = .ok (.iload_n 2, 1) := by decide +kernel
theorem dX2_passStray_26 : decode cX2_passStray 26 = .ok (.invokevirtual 94, 3) := by decide +kernel
theorem dX2_passStray_29 : decode cX2_passStray 29 = .ok (.ifCond .ne 8, 3) := by decide +kernel
theorem dX2_passStray_32 : decode cX2_passStray 32 = .ok (.aload_n 0, 1) := by decide +kernel
theorem dX2_passStray_33 : decode cX2_passStray 33 = .ok (.iload_n 2, 1) := by decide +kernel
theorem dX2_passStray_34 : decode cX2_passStray 34 = .ok (.invokevirtual 97, 3) := by decide +kernel
theorem dX2_passStray_37 : decode cX2_passStray 37 = .ok (.iinc 2 1, 3) := by decide +kernel
theorem dX2_passStray_40 : decode cX2_passStray 40 = .ok (.goto (-33), 3) := by decide +kernel
theorem dX2_passStray_43 : decode cX2_passStray 43 = .ok (.return_, 1) := by decide +kernel
set_option maxRecDepth 20000 in
theorem ggX2_framed_X2_passFrame : GoodIn wsX2_framed wsX2_passFrame := goodIn_r _ [6, 7, 8, 9, 10, 11, 12, 13, 14, 5, 15, 1, 16, 17, 18, 19, 20, 21, 22, 23, 24, 25, 26, 27, 28, 29, 30, 31, 32, 33, 34, 35, 36, 37, 38, 39, 40, 41, 42, 43, 44, 45, 46, 47, 48, 49, 50, 51, 52, 53, 54, 55, 56, 57, 58, 59, 60, 61, 62, 63, 64, 65, 66, 67, 68, 69, 70, 71, 72, 73, 74, 75] (by decide +kernel) (by decide +kernel)
set_option maxRecDepth 20000 in
theorem gX2_framed_X2_passFrame : GoodIn wsX2_framed (wsV RX2 108 RX2 yX2_passFrame wsX2_passFrame) := goodIn_app (goodIn_of _ (by decide +kernel)) ggX2_framed_X2_passFrame
theorem dX2_framed_0 : decode cX2_framed 0 = .ok (.iconst 0, 1) := by decide +kernel
theorem dX2_framed_1 : decode cX2_framed 1 = .ok (.istore_n 1, 1) := by decide +kernel
theorem dX2_framed_2 : decode cX2_framed 2 = .ok (.iconst 0, 1) := by decide +kernel
theorem dX2_framed_3 : decode cX2_framed 3 = .ok (.istore_n 2, 1) := by decide +kernel
theorem dX2_framed_4 : decode cX2_framed 4 = .ok (.iload_n 2, 1) := by decide +kernel
theorem dX2_framed_5 : decode cX2_framed 5 = .ok (.iconst 4, 1) := by decide +kernel
theorem dX2_framed_6 : decode cX2_framed 6 = .ok (.if_icmp .ge 22, 3) := by decide +kernel
theorem dX2_framed_9 : decode cX2_framed 9 = .ok (.aload_n 0, 1) := by decide +kernel
theorem dX2_framed_10 : decode cX2_framed 10 = .ok (.iload_n 2, 1) := by decide +kernel
theorem dX2_framed_11 : decode cX2_framed 11 = .ok (.iconst (-1), 1) := by decide +kernel
theorem dX2_framed_12 : decode cX2_framed 12 = .ok (.invokevirtual 108, 3) := by decide +kernel
theorem dX2_framed_15 : decode cX2_framed 15 = .ok (.iload_n 1, 1) := by decide +kernel
theorem dX2_framed_16 : decode cX2_framed 16 = .ok (.aload_n 0, 1) := by decide +kernel
theorem dX2_framed_17 : decode cX2_framed 17 = .ok (.getfield 82, 3) := by decide +kernel
theorem dX2_framed_20 : decode cX2_framed 20 = .ok (.iadd, 1) := by decide +kernel
theorem dX2_framed_21 : decode cX2_framed 21 = .ok (.istore_n 1, 1) := by decide +kernel
theorem dX2_framed_22 : decode cX2_framed 22 = .ok (.iinc 2 1, 3) := by decide +kernel
theorem dX2_framed_25 : decode cX2_framed 25 = .ok (.goto (-21), 3) := by decide +kernel
theorem dX2_framed_28 : decode cX2_framed 28 = .ok (.iload_n 1, 1) := by decide +kernel
theorem dX2_framed_29 : decode cX2_framed 29 = .ok (.ireturn, 1) := by decide +kernel
set_option maxRecDepth 20000 in
theorem ggX2_sort_X2_framed : GoodIn wsX2_sort wsX2_framed := goodIn_r _ [6, 7, 8, 9, 10, 5, 11, 12, 13, 14, 15, 16, 17, 18, 19, 20, 21, 22, 23, 24, 25, 26, 27, 28, 29, 30, 31, 32, 33, 34, 35, 36, 37, 38, 39, 40, 41, 42, 43, 44, 45, 46, 47, 48, 49, 50, 51, 52, 53, 54, 55, 56, 57, 58, 59, 60, 61, 62, 63, 64, 65, 66, 67, 68, 69, 70, 71, 72, 73, 74, 75, 76, 77, 78, 79, 80] (by decide +kernel) (by decide +kernel)
set_option maxRecDepth 20000 in
theorem gX2_sort_X2_framed : GoodIn wsX2_sort (wsV RX2 111 RX2 yX2_framed wsX2_framed) := goodIn_app (goodIn_of _ (by decide +kernel)) ggX2_sort_X2_framed
theorem dX2_sort_0 : decode cX2_sort 0 = .ok (.aload_n 0, 1) := by decide +kernel
theorem dX2_sort_1 : decode cX2_sort 1 = .ok (.iconst 0, 1) := by decide +kernel
theorem dX2_sort_2 : decode cX2_sort 2 = .ok (.putfield 48, 3) := by decide +kernel
theorem dX2_sort_5 : decode cX2_sort 5 = .ok (.aload_n 0, 1) := by decide +kernel
theorem dX2_sort_6 : decode cX2_sort 6 = .ok (.invokevirtual 111, 3) := by decide +kernel
theorem dX2_sort_9 : decode cX2_sort 9 = .ok (.ireturn, 1) := by decide +kernel
set_option maxRecDepth 20000 in
theorem ggX2_frame_X2_in : GoodIn wsX2_frame wsX2_in := goodIn_r _ [6] (by decide +kernel) (by decide +kernel)
set_option maxRecDepth 20000 in
theorem gX2_frame_X2_in : GoodIn wsX2_frame (va_wsS RX2 51 yX2_in wsX2_in) := goodIn_app (goodIn_of _ (by decide +kernel)) ggX2_frame_X2_in
set_option maxRecDepth 20000 in
theorem ggX2_frame_X2_passFrame : GoodIn wsX2_frame wsX2_passFrame := goodIn_r _ [10, 11, 12, 13, 14, 15, 16, 17, 18, 5, 19, 20, 21, 22, 2, 23, 24, 25, 26, 27, 28, 29, 30, 31, 32, 33, 34, 35, 36, 37, 38, 39, 40, 41, 42, 43, 44, 3, 4, 6, 45, 46, 47, 48, 49, 50, 51, 52, 53, 54, 55, 56, 57, 58, 59, 60, 61, 62, 63, 64, 65, 66, 67, 68, 69, 70, 71, 72, 73, 74, 75, 76] (by decide +kernel) (by decide +kernel)
set_option maxRecDepth 20000 in
theorem gX2_frame_X2_passFrame : GoodIn wsX2_frame (wsV RX2 108 RX2 yX2_passFrame wsX2_passFrame) := goodIn_app (goodIn_of _ (by decide +kernel)) ggX2_frame_X2_passFrame
theorem dX2_frame_0 : decode cX2_frame 0 = .ok (.aload_n 0, 1) := by decide +kernel
theorem dX2_frame_1 : decode cX2_frame 1 = .ok (.iload_n 1, 1) := by decide +kernel
theorem dX2_frame_2 : decode cX2_frame 2 = .ok (.iconst 0, 1) := by decide +kernel
theorem dX2_frame_3 : decode cX2_frame 3 = .ok (.iconst 3, 1) := by decide +kernel
theorem dX2_frame_4 : decode cX2_frame 4 = .ok (.invokestatic 51, 3) := by decide +kernel
theorem dX2_frame_7 : decode cX2_frame 7 = .ok (.ifCond .eq 7, 3) := by decide +kernel
theorem dX2_frame_10 : decode cX2_frame 10 = .ok (.iconst 0, 1) := by decide +kernel
theorem dX2_frame_11 : decode cX2_frame 11 = .ok (.goto 4, 3) := by decide +kernel
theorem dX2_frame_14 : decode cX2_frame 14 = .ok (.iconst 1, 1) := by decide +kernel
theorem dX2_frame_15 : decode cX2_frame 15 = .ok (.putfield 48, 3) := by decide +kernel
theorem dX2_frame_18 : decode cX2_frame 18 = .ok (.aload_n 0, 1) := by decide +kernel
theorem dX2_frame_19 : decode cX2_frame 19 = .ok (.getfield 48, 3) := by decide +kernel
theorem dX2_frame_22 : decode cX2_frame 22 = .ok (.ifCond .ne 25, 3) := by decide +kernel
theorem dX2_frame_25 : decode cX2_frame 25 = .ok (.aload_n 0, 1) := by decide +kernel
theorem dX2_frame_26 : decode cX2_frame 26 = .ok (.iload_n 1, 1) := by decide +kernel
theorem dX2_frame_27 : decode cX2_frame 27 = .ok (.iload_n 2, 1) := by decide +kernel
theorem dX2_frame_28 : decode cX2_frame 28 = .ok (.invokevirtual 108, 3) := by decide +kernel
theorem dX2_frame_31 : decode cX2_frame 31 = .ok (.aload_n 0, 1) := by decide +kernel
theorem dX2_frame_32 : decode cX2_frame 32 = .ok (.aload_n 0, 1) := by decide +kernel
theorem dX2_frame_33 : decode cX2_frame 33 = .ok (.getfield 88, 3) := by decide +kernel
theorem dX2_frame_36 : decode cX2_frame 36 = .ok (.ifCond .ge 7, 3) := by decide +kernel
theorem dX2_frame_39 : decode cX2_frame 39 = .ok (.iconst 2, 1) := by decide +kernel
theorem dX2_frame_40 : decode cX2_frame 40 = .ok (.goto 4, 3) := by decide +kernel
theorem dX2_frame_43 : decode cX2_frame 43 = .ok (.iconst 0, 1) := by decide +kernel
theorem dX2_frame_44 : decode cX2_frame 44 = .ok (.putfield 48, 3) := by decide +kernel
theorem dX2_frame_47 : decode cX2_frame 47 = .ok (.aload_n 0, 1) := by decide +kernel
theorem dX2_frame_48 : decode cX2_frame 48 = .ok (.getfield 48, 3) := by decide +kernel
theorem dX2_frame_51 : decode cX2_frame 51 = .ok (.ifCond .le 7, 3) := by decide +kernel
theorem dX2_frame_54 : decode cX2_frame 54 = .ok (.iconst 0, 1) := by decide +kernel
theorem dX2_frame_55 : decode cX2_frame 55 = .ok (.goto 7, 3) := by decide +kernel
theorem dX2_frame_58 : decode cX2_frame 58 = .ok (.aload_n 0, 1) := by decide +kernel
theorem dX2_frame_59 : decode cX2_frame 59 = .ok (.getfield 88, 3) := by decide +kernel
theorem dX2_frame_62 : decode cX2_frame 62 = .ok (.ireturn, 1) := by decide +kernel
set_option maxRecDepth 20000 in
theorem ggX2_list_X2_in : GoodIn wsX2_list wsX2_in := goodIn_r _ [6] (by decide +kernel) (by decide +kernel)
set_option maxRecDepth 20000 in
theorem gX2_list_X2_in : GoodIn wsX2_list (va_wsS RX2 51 yX2_in wsX2_in) := goodIn_app (goodIn_of _ (by decide +kernel)) ggX2_list_X2_in
set_option maxRecDepth 20000 in
theorem ggX2_list_X2_passList : GoodIn wsX2_list wsX2_passList := goodIn_r _ [10, 11, 12, 13, 14, 15, 5, 16, 17, 18, 19, 2, 20, 21, 22, 23, 24, 25, 26, 27, 28, 29, 30, 31, 32, 33, 34, 35, 36, 37, 38, 39, 40, 41, 42, 43, 3, 4, 6, 44, 45, 46, 47, 48, 49, 50, 51, 52, 53, 54, 55, 56, 57, 58, 59, 60, 61, 62, 63, 64, 65, 66, 67, 68, 69, 70, 71, 72, 73, 74, 75] (by decide +kernel) (by decide +kernel)
set_option maxRecDepth 20000 in
theorem gX2_list_X2_passList : GoodIn wsX2_list (wsV RX2 115 RX2 yX2_passList wsX2_passList) := goodIn_app (goodIn_of _ (by decide +kernel)) ggX2_list_X2_passList
theorem dX2_list_0 : decode cX2_list 0 = .ok (.aload_n 0, 1) := by decide +kernel
theorem dX2_list_1 : decode cX2_list 1 = .ok (.iload_n 1, 1) := by decide +kernel
theorem dX2_list_2 : decode cX2_list 2 = .ok (.iconst 0, 1) := by decide +kernel
theorem dX2_list_3 : decode cX2_list 3 = .ok (.iconst 3, 1) := by decide +kernel
theorem dX2_list_4 : decode cX2_list 4 = .ok (.invokestatic 51, 3) := by decide +kernel
theorem dX2_list_7 : decode cX2_list 7 = .ok (.ifCond .eq 7, 3) := by decide +kernel
theorem dX2_list_10 : decode cX2_list 10 = .ok (.iconst 0, 1) := by decide +kernel
theorem dX2_list_11 : decode cX2_list 11 = .ok (.goto 4, 3) := by decide +kernel
theorem dX2_list_14 : decode cX2_list 14 = .ok (.iconst 1, 1) := by decide +kernel
theorem dX2_list_15 : decode cX2_list 15 = .ok (.putfield 48, 3) := by decide +kernel
theorem dX2_list_18 : decode cX2_list 18 = .ok (.aload_n 0, 1) := by decide +kernel
theorem dX2_list_19 : decode cX2_list 19 = .ok (.getfield 48, 3) := by decide +kernel
theorem dX2_list_22 : decode cX2_list 22 = .ok (.ifCond .ne 25, 3) := by decide +kernel
theorem dX2_list_25 : decode cX2_list 25 = .ok (.aload_n 0, 1) := by decide +kernel
theorem dX2_list_26 : decode cX2_list 26 = .ok (.iload_n 1, 1) := by decide +kernel
theorem dX2_list_27 : decode cX2_list 27 = .ok (.iload_n 2, 1) := by decide +kernel
theorem dX2_list_28 : decode cX2_list 28 = .ok (.invokevirtual 115, 3) := by decide +kernel
theorem dX2_list_31 : decode cX2_list 31 = .ok (.aload_n 0, 1) := by decide +kernel
theorem dX2_list_32 : decode cX2_list 32 = .ok (.aload_n 0, 1) := by decide +kernel
theorem dX2_list_33 : decode cX2_list 33 = .ok (.getfield 88, 3) := by decide +kernel
theorem dX2_list_36 : decode cX2_list 36 = .ok (.ifCond .ge 7, 3) := by decide +kernel
theorem dX2_list_39 : decode cX2_list 39 = .ok (.iconst 2, 1) := by decide +kernel
theorem dX2_list_40 : decode cX2_list 40 = .ok (.goto 4, 3) := by decide +kernel
theorem dX2_list_43 : decode cX2_list 43 = .ok (.iconst 0, 1) := by decide +kernel
theorem dX2_list_44 : decode cX2_list 44 = .ok (.putfield 48, 3) := by decide +kernel
theorem dX2_list_47 : decode cX2_list 47 = .ok (.aload_n 0, 1) := by decide +kernel
theorem dX2_list_48 : decode cX2_list 48 = .ok (.getfield 48, 3) := by decide +kernel
theorem dX2_list_51 : decode cX2_list 51 = .ok (.ifCond .le 7, 3) := by decide +kernel
theorem dX2_list_54 : decode cX2_list 54 = .ok (.iconst 0, 1) := by decide +kernel
theorem dX2_list_55 : decode cX2_list 55 = .ok (.goto 7, 3) := by decide +kernel
theorem dX2_list_58 : decode cX2_list 58 = .ok (.aload_n 0, 1) := by decide +kernel
theorem dX2_list_59 : decode cX2_list 59 = .ok (.getfield 88, 3) := by decide +kernel
theorem dX2_list_62 : decode cX2_list 62 = .ok (.ireturn, 1) := by decide +kernel
set_option maxRecDepth 20000 in
theorem ggX2_drawer_X2_begin : GoodIn wsX2_drawer wsX2_begin := goodIn_r _ [7, 8, 9, 10, 2, 51, 52, 53, 54, 55, 56, 57, 58, 59, 60, 61, 62, 63, 64, 65, 66, 67, 68, 69] (by decide +kernel) (by decide +kernel)
set_option maxRecDepth 20000 in
theorem gX2_drawer_X2_begin : GoodIn wsX2_drawer (wsV RX2 101 RX2 yX2_begin wsX2_begin) := goodIn_app (goodIn_of _ (by decide +kernel)) ggX2_drawer_X2_begin
set_option maxRecDepth 20000 in
theorem ggX2_drawer_X2_isHouse : GoodIn wsX2_drawer wsX2_isHouse := goodIn_r _ [14, 15, 16, 17, 6, 18, 51, 52, 53, 54, 55, 56, 57, 58, 59, 60, 61, 62, 63, 64, 65, 66, 67, 68, 69] (by decide +kernel) (by decide +kernel)
set_option maxRecDepth 20000 in
theorem gX2_drawer_X2_isHouse : GoodIn wsX2_drawer (wsV RX2 61 RX2 yX2_isHouse wsX2_isHouse) := goodIn_app (goodIn_of _ (by decide +kernel)) ggX2_drawer_X2_isHouse
set_option maxRecDepth 20000 in
theorem ggX2_drawer_X2_passHouse : GoodIn wsX2_drawer wsX2_passHouse := goodIn_r _ [22, 23, 24, 25, 26, 27, 28, 6, 29, 30, 31, 32, 33, 34, 35, 36, 37, 11, 12, 13, 14, 15, 16, 17, 18, 38, 39, 40, 41, 42, 43, 44, 45, 46, 47, 48, 49, 8, 10, 2, 9, 50, 51, 52, 53, 54, 55, 56, 57, 58, 59, 60, 61, 62, 63, 64, 65, 66, 67, 68, 69] (by decide +kernel) (by decide +kernel)
set_option maxRecDepth 20000 in
theorem gX2_drawer_X2_passHouse : GoodIn wsX2_drawer (wsV RX2 104 RX2 yX2_passHouse wsX2_passHouse) := goodIn_app (goodIn_of _ (by decide +kernel)) ggX2_drawer_X2_passHouse
theorem dX2_drawer_0 : decode cX2_drawer 0 = .ok (.aload_n 0, 1) := by decide +kernel
theorem dX2_drawer_1 : decode cX2_drawer 1 = .ok (.iconst 0, 1) := by decide +kernel
theorem dX2_drawer_2 : decode cX2_drawer 2 = .ok (.putfield 48, 3) := by decide +kernel
theorem dX2_drawer_5 : decode cX2_drawer 5 = .ok (.aload_n 0, 1) := by decide +kernel
theorem dX2_drawer_6 : decode cX2_drawer 6 = .ok (.iload_n 2, 1) := by decide +kernel
theorem dX2_drawer_7 : decode cX2_drawer 7 = .ok (.invokevirtual 101, 3) := by decide +kernel
theorem dX2_drawer_10 : decode cX2_drawer 10 = .ok (.aload_n 0, 1) := by decide +kernel
theorem dX2_drawer_11 : decode cX2_drawer 11 = .ok (.iload_n 1, 1) := by decide +kernel
theorem dX2_drawer_12 : decode cX2_drawer 12 = .ok (.invokevirtual 61, 3) := by decide +kernel
theorem dX2_drawer_15 : decode cX2_drawer 15 = .ok (.ifCond .eq 9, 3) := by decide +kernel
theorem dX2_drawer_18 : decode cX2_drawer 18 = .ok (.aload_n 0, 1) := by decide +kernel
theorem dX2_drawer_19 : decode cX2_drawer 19 = .ok (.iload_n 1, 1) := by decide +kernel
theorem dX2_drawer_20 : decode cX2_drawer 20 = .ok (.iconst 3, 1) := by decide +kernel
theorem dX2_drawer_21 : decode cX2_drawer 21 = .ok (.invokevirtual 104, 3) := by decide +kernel
theorem dX2_drawer_24 : decode cX2_drawer 24 = .ok (.aload_n 0, 1) := by decide +kernel
theorem dX2_drawer_25 : decode cX2_drawer 25 = .ok (.getfield 88, 3) := by decide +kernel
theorem dX2_drawer_28 : decode cX2_drawer 28 = .ok (.ireturn, 1) := by decide +kernel
set_option maxRecDepth 20000 in
theorem ggX2_stray_X2_passStray : GoodIn wsX2_stray wsX2_passStray := goodIn_r _ [7, 8, 9, 10, 11, 12, 6, 13, 14, 15, 16, 2, 17, 18, 19, 20, 21, 22, 23, 24, 25, 26, 27, 28, 29, 30, 31, 32, 33, 34, 35, 36, 37, 38, 39, 40, 41, 42, 43, 44, 45, 46, 47, 48, 49, 50, 51, 52, 53, 54, 55, 56, 57, 58, 59, 60, 61, 62, 63, 64, 65, 66, 67, 68, 69] (by decide +kernel) (by decide +kernel)
set_option maxRecDepth 20000 in
theorem gX2_stray_X2_passStray : GoodIn wsX2_stray (wsV RX2 118 RX2 yX2_passStray wsX2_passStray) := goodIn_app (goodIn_of _ (by decide +kernel)) ggX2_stray_X2_passStray
theorem dX2_stray_0 : decode cX2_stray 0 = .ok (.aload_n 0, 1) := by decide +kernel
theorem dX2_stray_1 : decode cX2_stray 1 = .ok (.iconst 0, 1) := by decide +kernel
theorem dX2_stray_2 : decode cX2_stray 2 = .ok (.putfield 48, 3) := by decide +kernel
theorem dX2_stray_5 : decode cX2_stray 5 = .ok (.aload_n 0, 1) := by decide +kernel
theorem dX2_stray_6 : decode cX2_stray 6 = .ok (.iload_n 1, 1) := by decide +kernel
theorem dX2_stray_7 : decode cX2_stray 7 = .ok (.invokevirtual 118, 3) := by decide +kernel
theorem dX2_stray_10 : decode cX2_stray 10 = .ok (.aload_n 0, 1) := by decide +kernel
theorem dX2_stray_11 : decode cX2_stray 11 = .ok (.getfield 88, 3) := by decide +kernel
theorem dX2_stray_14 : decode cX2_stray 14 = .ok (.ireturn, 1) := by decide +kernel
set_option maxRecDepth 20000 in
theorem ggX2_lies_X2_isItem : GoodIn wsX2_lies wsX2_isItem := goodIn_r _ [6, 7, 8, 9, 5, 10, 29, 30, 31, 32, 33, 34, 35, 36, 37, 38, 39, 40, 41, 42, 43, 44, 45, 46, 47] (by decide +kernel) (by decide +kernel)
set_option maxRecDepth 20000 in
theorem gX2_lies_X2_isItem : GoodIn wsX2_lies (wsV RX2 65 RX2 yX2_isItem wsX2_isItem) := goodIn_app (goodIn_of _ (by decide +kernel)) ggX2_lies_X2_isItem
set_option maxRecDepth 20000 in
theorem ggX2_lies_X2_leader : GoodIn wsX2_lies wsX2_leader := goodIn_r _ [14, 15, 29, 30, 31, 32, 33, 34, 35, 36, 37, 38, 39, 40, 41, 42, 43, 44, 45, 46, 47] (by decide +kernel) (by decide +kernel)
set_option maxRecDepth 20000 in
theorem gX2_lies_X2_leader : GoodIn wsX2_lies (wsV RX2 68 RX2 yX2_leader wsX2_leader) := goodIn_app (goodIn_of _ (by decide +kernel)) ggX2_lies_X2_leader
set_option maxRecDepth 20000 in
theorem ggX2_lies_X2_holeOfLeader : GoodIn wsX2_lies wsX2_holeOfLeader := goodIn_r _ [19, 20, 21, 22, 23, 24, 25, 26, 5, 27, 28, 8, 9, 10, 29, 30, 31, 32, 33, 34, 35, 36, 37, 38, 39, 40, 41, 42, 43, 44, 45, 46, 47] (by decide +kernel) (by decide +kernel)
set_option maxRecDepth 20000 in
theorem gX2_lies_X2_holeOfLeader : GoodIn wsX2_lies (wsV RX2 72 RX2 yX2_holeOfLeader wsX2_holeOfLeader) := goodIn_app (goodIn_of _ (by decide +kernel)) ggX2_lies_X2_holeOfLeader
theorem dX2_lies_0 : decode cX2_lies 0 = .ok (.aload_n 0, 1) := by decide +kernel
theorem dX2_lies_1 : decode cX2_lies 1 = .ok (.iconst 0, 1) := by decide +kernel
theorem dX2_lies_2 : decode cX2_lies 2 = .ok (.putfield 48, 3) := by decide +kernel
theorem dX2_lies_5 : decode cX2_lies 5 = .ok (.aload_n 0, 1) := by decide +kernel
theorem dX2_lies_6 : decode cX2_lies 6 = .ok (.iload_n 1, 1) := by decide +kernel
theorem dX2_lies_7 : decode cX2_lies 7 = .ok (.invokevirtual 65, 3) := by decide +kernel
theorem dX2_lies_10 : decode cX2_lies 10 = .ok (.ifCond .eq 15, 3) := by decide +kernel
theorem dX2_lies_13 : decode cX2_lies 13 = .ok (.aload_n 0, 1) := by decide +kernel
theorem dX2_lies_14 : decode cX2_lies 14 = .ok (.aload_n 0, 1) := by decide +kernel
theorem dX2_lies_15 : decode cX2_lies 15 = .ok (.iload_n 1, 1) := by decide +kernel
theorem dX2_lies_16 : decode cX2_lies 16 = .ok (.invokevirtual 68, 3) := by decide +kernel
theorem dX2_lies_19 : decode cX2_lies 19 = .ok (.invokevirtual 72, 3) := by decide +kernel
theorem dX2_lies_22 : decode cX2_lies 22 = .ok (.goto 4, 3) := by decide +kernel
theorem dX2_lies_25 : decode cX2_lies 25 = .ok (.iconst (-1), 1) := by decide +kernel
theorem dX2_lies_26 : decode cX2_lies 26 = .ok (.ireturn, 1) := by decide +kernel
set_option maxRecDepth 20000 in
theorem ggX2_minutes_X2_in : GoodIn wsX2_minutes wsX2_in := goodIn_r _ [9] (by decide +kernel) (by decide +kernel)
set_option maxRecDepth 20000 in
theorem gX2_minutes_X2_in : GoodIn wsX2_minutes (va_wsS RX2 51 yX2_in wsX2_in) := goodIn_app (goodIn_of _ (by decide +kernel)) ggX2_minutes_X2_in
set_option maxRecDepth 20000 in
theorem ggX2_minutes_X2_passFrame : GoodIn wsX2_minutes wsX2_passFrame := goodIn_r _ [13, 3, 4, 14, 15, 16, 17, 18, 19, 8, 20, 5, 2, 21, 22, 23, 24, 25, 26, 27, 28, 29, 30, 31, 32, 33, 34, 35, 36, 37, 38, 39, 40, 41, 42, 43, 44, 6, 7, 9, 45, 46, 47, 48, 49, 50, 51, 52, 53, 54, 55, 56, 57, 62, 63, 64, 65, 66, 67, 68, 69, 70, 71, 72, 73, 74, 75, 76, 77, 78, 79, 80] (by decide +kernel) (by decide +kernel)
set_option maxRecDepth 20000 in
theorem gX2_minutes_X2_passFrame : GoodIn wsX2_minutes (wsV RX2 108 RX2 yX2_passFrame wsX2_passFrame) := goodIn_app (goodIn_of _ (by decide +kernel)) ggX2_minutes_X2_passFrame
set_option maxRecDepth 20000 in
theorem ggX2_minutes_X2_passList : GoodIn wsX2_minutes wsX2_passList := goodIn_r _ [61, 3, 4, 17, 18, 19, 8, 20, 5, 2, 21, 22, 23, 24, 25, 26, 15, 16, 27, 28, 29, 30, 31, 32, 33, 34, 35, 36, 37, 38, 39, 40, 41, 42, 43, 44, 6, 7, 9, 45, 46, 47, 48, 49, 50, 51, 52, 53, 54, 55, 56, 57, 62, 63, 64, 65, 66, 67, 68, 69, 70, 71, 72, 73, 74, 75, 76, 77, 78, 79, 80] (by decide +kernel) (by decide +kernel)
set_option maxRecDepth 20000 in
theorem gX2_minutes_X2_passList : GoodIn wsX2_minutes (wsV RX2 115 RX2 yX2_passList wsX2_passList) := goodIn_app (goodIn_of _ (by decide +kernel)) ggX2_minutes_X2_passList
set_option maxRecDepth 20000 in
theorem ggX2_minutes_X2_begin : GoodIn wsX2_minutes wsX2_begin := goodIn_r _ [20, 5, 2, 21, 22, 62, 63, 64, 65, 66, 67, 68, 69, 70, 71, 72, 73, 74, 75, 76, 77, 78, 79, 80] (by decide +kernel) (by decide +kernel)
set_option maxRecDepth 20000 in
theorem gX2_minutes_X2_begin : GoodIn wsX2_minutes (wsV RX2 101 RX2 yX2_begin wsX2_begin) := goodIn_app (goodIn_of _ (by decide +kernel)) ggX2_minutes_X2_begin
set_option maxRecDepth 20000 in
theorem ggX2_minutes_X2_passHouse : GoodIn wsX2_minutes wsX2_passHouse := goodIn_r _ [26, 15, 16, 27, 28, 29, 30, 8, 31, 32, 33, 34, 35, 36, 37, 38, 39, 40, 41, 42, 43, 44, 6, 7, 9, 45, 46, 47, 48, 49, 50, 51, 52, 53, 54, 55, 56, 5, 21, 22, 2, 57, 62, 63, 64, 65, 66, 67, 68, 69, 70, 71, 72, 73, 74, 75, 76, 77, 78, 79, 80] (by decide +kernel) (by decide +kernel)
set_option maxRecDepth 20000 in
theorem gX2_minutes_X2_passHouse : GoodIn wsX2_minutes (wsV RX2 104 RX2 yX2_passHouse wsX2_passHouse) := goodIn_app (goodIn_of _ (by decide +kernel)) ggX2_minutes_X2_passHouse
theorem dX2_minutes_0 : decode cX2_minutes 0 = .ok (.aload_n 0, 1) := by decide +kernel
theorem dX2_minutes_1 : decode cX2_minutes 1 = .ok (.iload_n 1, 1) := by decide +kernel
theorem dX2_minutes_2 : decode cX2_minutes 2 = .ok (.iconst 0, 1) := by decide +kernel
theorem dX2_minutes_3 : decode cX2_minutes 3 = .ok (.iconst 3, 1) := by decide +kernel
theorem dX2_minutes_4 : decode cX2_minutes 4 = .ok (.invokestatic 51, 3) := by decide +kernel
theorem dX2_minutes_7 : decode cX2_minutes 7 = .ok (.ifCond .eq 7, 3) := by decide +kernel
theorem dX2_minutes_10 : decode cX2_minutes 10 = .ok (.iconst 0, 1) := by decide +kernel
theorem dX2_minutes_11 : decode cX2_minutes 11 = .ok (.goto 4, 3) := by decide +kernel
theorem dX2_minutes_14 : decode cX2_minutes 14 = .ok (.iconst 1, 1) := by decide +kernel
theorem dX2_minutes_15 : decode cX2_minutes 15 = .ok (.putfield 48, 3) := by decide +kernel
theorem dX2_minutes_18 : decode cX2_minutes 18 = .ok (.aload_n 0, 1) := by decide +kernel
theorem dX2_minutes_19 : decode cX2_minutes 19 = .ok (.getfield 48, 3) := by decide +kernel
theorem dX2_minutes_22 : decode cX2_minutes 22 = .ok (.ifCond .le 5, 3) := by decide +kernel
theorem dX2_minutes_25 : decode cX2_minutes 25 = .ok (.iconst 0, 1) := by decide +kernel
theorem dX2_minutes_26 : decode cX2_minutes 26 = .ok (.ireturn, 1) := by decide +kernel
theorem dX2_minutes_27 : decode cX2_minutes 27 = .ok (.aload_n 0, 1) := by decide +kernel
theorem dX2_minutes_28 : decode cX2_minutes 28 = .ok (.iload_n 1, 1) := by decide +kernel
theorem dX2_minutes_29 : decode cX2_minutes 29 = .ok (.iconst (-1), 1) := by decide +kernel
theorem dX2_minutes_30 : decode cX2_minutes 30 = .ok (.invokevirtual 108, 3) := by decide +kernel
theorem dX2_minutes_33 : decode cX2_minutes 33 = .ok (.aload_n 0, 1) := by decide +kernel
theorem dX2_minutes_34 : decode cX2_minutes 34 = .ok (.getfield 91, 3) := by decide +kernel
theorem dX2_minutes_37 : decode cX2_minutes 37 = .ok (.istore_n 2, 1) := by decide +kernel
theorem dX2_minutes_38 : decode cX2_minutes 38 = .ok (.aload_n 0, 1) := by decide +kernel
theorem dX2_minutes_39 : decode cX2_minutes 39 = .ok (.iload_n 1, 1) := by decide +kernel
theorem dX2_minutes_40 : decode cX2_minutes 40 = .ok (.iconst (-1), 1) := by decide +kernel
theorem dX2_minutes_41 : decode cX2_minutes 41 = .ok (.invokevirtual 115, 3) := by decide +kernel
theorem dX2_minutes_44 : decode cX2_minutes 44 = .ok (.iload_n 2, 1) := by decide +kernel
theorem dX2_minutes_45 : decode cX2_minutes 45 = .ok (.aload_n 0, 1) := by decide +kernel
theorem dX2_minutes_46 : decode cX2_minutes 46 = .ok (.getfield 91, 3) := by decide +kernel
theorem dX2_minutes_49 : decode cX2_minutes 49 = .ok (.iadd, 1) := by decide +kernel
theorem dX2_minutes_50 : decode cX2_minutes 50 = .ok (.istore_n 2, 1) := by decide +kernel
theorem dX2_minutes_51 : decode cX2_minutes 51 = .ok (.iconst 0, 1) := by decide +kernel
theorem dX2_minutes_52 : decode cX2_minutes 52 = .ok (.istore_n 3, 1) := by decide +kernel
theorem dX2_minutes_53 : decode cX2_minutes 53 = .ok (.iload_n 3, 1) := by decide +kernel
theorem dX2_minutes_54 : decode cX2_minutes 54 = .ok (.aload_n 0, 1) := by decide +kernel
theorem dX2_minutes_55 : decode cX2_minutes 55 = .ok (.getfield 23, 3) := by decide +kernel
theorem dX2_minutes_58 : decode cX2_minutes 58 = .ok (.iload_n 1, 1) := by decide +kernel
theorem dX2_minutes_59 : decode cX2_minutes 59 = .ok (.iaload, 1) := by decide +kernel
theorem dX2_minutes_60 : decode cX2_minutes 60 = .ok (.if_icmp .ge 61, 3) := by decide +kernel
theorem dX2_minutes_63 : decode cX2_minutes 63 = .ok (.aload_n 0, 1) := by decide +kernel
theorem dX2_minutes_64 : decode cX2_minutes 64 = .ok (.iconst (-1), 1) := by decide +kernel
theorem dX2_minutes_65 : decode cX2_minutes 65 = .ok (.invokevirtual 101, 3) := by decide +kernel
theorem dX2_minutes_68 : decode cX2_minutes 68 = .ok (.aload_n 0, 1) := by decide +kernel
theorem dX2_minutes_69 : decode cX2_minutes 69 = .ok (.aload_n 0, 1) := by decide +kernel
theorem dX2_minutes_70 : decode cX2_minutes 70 = .ok (.getfield 20, 3) := by decide +kernel
theorem dX2_minutes_73 : decode cX2_minutes 73 = .ok (.bipush 60, 2) := by decide +kernel
theorem dX2_minutes_75 : decode cX2_minutes 75 = .ok (.iload_n 1, 1) := by decide +kernel
theorem dX2_minutes_76 : decode cX2_minutes 76 = .ok (.imul, 1) := by decide +kernel
theorem dX2_minutes_77 : decode cX2_minutes 77 = .ok (.iload_n 3, 1) := by decide +kernel
theorem dX2_minutes_78 : decode cX2_minutes 78 = .ok (.iadd, 1) := by decide +kernel
theorem dX2_minutes_79 : decode cX2_minutes 79 = .ok (.iaload, 1) := by decide +kernel
theorem dX2_minutes_80 : decode cX2_minutes 80 = .ok (.iconst 1, 1) := by decide +kernel
theorem dX2_minutes_81 : decode cX2_minutes 81 = .ok (.invokevirtual 104, 3) := by decide +kernel
theorem dX2_minutes_84 : decode cX2_minutes 84 = .ok (.aload_n 0, 1) := by decide +kernel
theorem dX2_minutes_85 : decode cX2_minutes 85 = .ok (.aload_n 0, 1) := by decide +kernel
theorem dX2_minutes_86 : decode cX2_minutes 86 = .ok (.getfield 20, 3) := by decide +kernel
theorem dX2_minutes_89 : decode cX2_minutes 89 = .ok (.bipush 60, 2) := by decide +kernel
theorem dX2_minutes_91 : decode cX2_minutes 91 = .ok (.iload_n 1, 1) := by decide +kernel
theorem dX2_minutes_92 : decode cX2_minutes 92 = .ok (.imul, 1) := by decide +kernel
theorem dX2_minutes_93 : decode cX2_minutes 93 = .ok (.iload_n 3, 1) := by decide +kernel
theorem dX2_minutes_94 : decode cX2_minutes 94 = .ok (.iadd, 1) := by decide +kernel
theorem dX2_minutes_95 : decode cX2_minutes 95 = .ok (.iaload, 1) := by decide +kernel
theorem dX2_minutes_96 : decode cX2_minutes 96 = .ok (.iconst 4, 1) := by decide +kernel
theorem dX2_minutes_97 : decode cX2_minutes 97 = .ok (.invokevirtual 104, 3) := by decide +kernel
theorem dX2_minutes_100 : decode cX2_minutes 100 = .ok (.iload_n 2, 1) := by decide +kernel
theorem dX2_minutes_101 : decode cX2_minutes 101 = .ok (.aload_n 0, 1) := by decide +kernel
theorem dX2_minutes_102 : decode cX2_minutes 102 = .ok (.getfield 82, 3) := by decide +kernel
theorem dX2_minutes_105 : decode cX2_minutes 105 = .ok (.ifCond .le 7, 3) := by decide +kernel
theorem dX2_minutes_108 : decode cX2_minutes 108 = .ok (.iconst 5, 1) := by decide +kernel
theorem dX2_minutes_109 : decode cX2_minutes 109 = .ok (.goto 4, 3) := by decide +kernel
theorem dX2_minutes_112 : decode cX2_minutes 112 = .ok (.iconst 0, 1) := by decide +kernel
theorem dX2_minutes_113 : decode cX2_minutes 113 = .ok (.iadd, 1) := by decide +kernel
theorem dX2_minutes_114 : decode cX2_minutes 114 = .ok (.istore_n 2, 1) := by decide +kernel
theorem dX2_minutes_115 : decode cX2_minutes 115 = .ok (.iinc 3 1, 3) := by decide +kernel
theorem dX2_minutes_118 : decode cX2_minutes 118 = .ok (.goto (-65), 3) := by decide +kernel
theorem dX2_minutes_121 : decode cX2_minutes 121 = .ok (.iload_n 2, 1) := by decide +kernel
theorem dX2_minutes_122 : decode cX2_minutes 122 = .ok (.bipush 59, 2) := by decide +kernel
theorem dX2_minutes_124 : decode cX2_minutes 124 = .ok (.iadd, 1) := by decide +kernel
theorem dX2_minutes_125 : decode cX2_minutes 125 = .ok (.bipush 60, 2) := by decide +kernel
theorem dX2_minutes_127 : decode cX2_minutes 127 = .ok (.idiv, 1) := by decide +kernel
theorem dX2_minutes_128 : decode cX2_minutes 128 = .ok (.ireturn, 1) := by decide +kernel
theorem dX2_teaching_0 : decode cX2_teaching 0 = .ok (.aload_n 0, 1) := by decide +kernel
theorem dX2_teaching_1 : decode cX2_teaching 1 = .ok (.iconst 0, 1) := by decide +kernel
theorem dX2_teaching_2 : decode cX2_teaching 2 = .ok (.putfield 48, 3) := by decide +kernel
theorem dX2_teaching_5 : decode cX2_teaching 5 = .ok (.iconst 0, 1) := by decide +kernel
theorem dX2_teaching_6 : decode cX2_teaching 6 = .ok (.istore_n 3, 1) := by decide +kernel
theorem dX2_teaching_7 : decode cX2_teaching 7 = .ok (.iconst 0, 1) := by decide +kernel
theorem dX2_teaching_8 : decode cX2_teaching 8 = .ok (.istore 4, 2) := by decide +kernel
theorem dX2_teaching_10 : decode cX2_teaching 10 = .ok (.iload 4, 2) := by decide +kernel
theorem dX2_teaching_12 : decode cX2_teaching 12 = .ok (.aload_n 0, 1) := by decide +kernel
theorem dX2_teaching_13 : decode cX2_teaching 13 = .ok (.getfield 44, 3) := by decide +kernel
theorem dX2_teaching_16 : decode cX2_teaching 16 = .ok (.if_icmp .ge 115, 3) := by decide +kernel
theorem dX2_teaching_19 : decode cX2_teaching 19 = .ok (.iconst 0, 1) := by decide +kernel
theorem dX2_teaching_20 : decode cX2_teaching 20 = .ok (.istore 5, 2) := by decide +kernel
theorem dX2_teaching_22 : decode cX2_teaching 22 = .ok (.iload 5, 2) := by decide +kernel
theorem dX2_teaching_24 : decode cX2_teaching 24 = .ok (.iconst 4, 1) := by decide +kernel
theorem dX2_teaching_25 : decode cX2_teaching 25 = .ok (.if_icmp .ge 100, 3) := by decide +kernel
theorem dX2_teaching_28 : decode cX2_teaching 28 = .ok (.iconst 0, 1) := by decide +kernel
theorem dX2_teaching_29 : decode cX2_teaching 29 = .ok (.istore 6, 2) := by decide +kernel
theorem dX2_teaching_31 : decode cX2_teaching 31 = .ok (.iload 6, 2) := by decide +kernel
theorem dX2_teaching_33 : decode cX2_teaching 33 = .ok (.aload_n 0, 1) := by decide +kernel
theorem dX2_teaching_34 : decode cX2_teaching 34 = .ok (.getfield 23, 3) := by decide +kernel
theorem dX2_teaching_37 : decode cX2_teaching 37 = .ok (.iload 5, 2) := by decide +kernel
theorem dX2_teaching_39 : decode cX2_teaching 39 = .ok (.iaload, 1) := by decide +kernel
theorem dX2_teaching_40 : decode cX2_teaching 40 = .ok (.if_icmp .ge 79, 3) := by decide +kernel
theorem dX2_teaching_43 : decode cX2_teaching 43 = .ok (.aload_n 0, 1) := by decide +kernel
theorem dX2_teaching_44 : decode cX2_teaching 44 = .ok (.getfield 20, 3) := by decide +kernel
theorem dX2_teaching_47 : decode cX2_teaching 47 = .ok (.bipush 60, 2) := by decide +kernel
theorem dX2_teaching_49 : decode cX2_teaching 49 = .ok (.iload 5, 2) := by decide +kernel
theorem dX2_teaching_51 : decode cX2_teaching 51 = .ok (.imul, 1) := by decide +kernel
theorem dX2_teaching_52 : decode cX2_teaching 52 = .ok (.iload 6, 2) := by decide +kernel
theorem dX2_teaching_54 : decode cX2_teaching 54 = .ok (.iadd, 1) := by decide +kernel
theorem dX2_teaching_55 : decode cX2_teaching 55 = .ok (.iaload, 1) := by decide +kernel
theorem dX2_teaching_56 : decode cX2_teaching 56 = .ok (.istore 7, 2) := by decide +kernel
theorem dX2_teaching_58 : decode cX2_teaching 58 = .ok (.aload_n 0, 1) := by decide +kernel
theorem dX2_teaching_59 : decode cX2_teaching 59 = .ok (.getfield 13, 3) := by decide +kernel
theorem dX2_teaching_62 : decode cX2_teaching 62 = .ok (.iload 7, 2) := by decide +kernel
theorem dX2_teaching_64 : decode cX2_teaching 64 = .ok (.iaload, 1) := by decide +kernel
theorem dX2_teaching_65 : decode cX2_teaching 65 = .ok (.iload 4, 2) := by decide +kernel
theorem dX2_teaching_67 : decode cX2_teaching 67 = .ok (.if_icmp .eq 6, 3) := by decide +kernel
theorem dX2_teaching_70 : decode cX2_teaching 70 = .ok (.goto 43, 3) := by decide +kernel
theorem dX2_teaching_73 : decode cX2_teaching 73 = .ok (.iload_n 3, 1) := by decide +kernel
theorem dX2_teaching_74 : decode cX2_teaching 74 = .ok (.iload_n 1, 1) := by decide +kernel
theorem dX2_teaching_75 : decode cX2_teaching 75 = .ok (.if_icmp .ne 35, 3) := by decide +kernel
theorem dX2_teaching_78 : decode cX2_teaching 78 = .ok (.iload_n 2, 1) := by decide +kernel
theorem dX2_teaching_79 : decode cX2_teaching 79 = .ok (.ifCond .ne 8, 3) := by decide +kernel
theorem dX2_teaching_82 : decode cX2_teaching 82 = .ok (.iload 7, 2) := by decide +kernel
theorem dX2_teaching_84 : decode cX2_teaching 84 = .ok (.goto 25, 3) := by decide +kernel
theorem dX2_teaching_87 : decode cX2_teaching 87 = .ok (.iload_n 2, 1) := by decide +kernel
theorem dX2_teaching_88 : decode cX2_teaching 88 = .ok (.iconst 1, 1) := by decide +kernel
theorem dX2_teaching_89 : decode cX2_teaching 89 = .ok (.if_icmp .ne 8, 3) := by decide +kernel
theorem dX2_teaching_92 : decode cX2_teaching 92 = .ok (.iload 4, 2) := by decide +kernel
theorem dX2_teaching_94 : decode cX2_teaching 94 = .ok (.goto 15, 3) := by decide +kernel
theorem dX2_teaching_97 : decode cX2_teaching 97 = .ok (.iload_n 2, 1) := by decide +kernel
theorem dX2_teaching_98 : decode cX2_teaching 98 = .ok (.iconst 2, 1) := by decide +kernel
theorem dX2_teaching_99 : decode cX2_teaching 99 = .ok (.if_icmp .ne 8, 3) := by decide +kernel
theorem dX2_teaching_102 : decode cX2_teaching 102 = .ok (.iload 5, 2) := by decide +kernel
theorem dX2_teaching_104 : decode cX2_teaching 104 = .ok (.goto 5, 3) := by decide +kernel
theorem dX2_teaching_107 : decode cX2_teaching 107 = .ok (.bipush (-2), 2) := by decide +kernel
theorem dX2_teaching_109 : decode cX2_teaching 109 = .ok (.ireturn, 1) := by decide +kernel
theorem dX2_teaching_110 : decode cX2_teaching 110 = .ok (.iinc 3 1, 3) := by decide +kernel
theorem dX2_teaching_113 : decode cX2_teaching 113 = .ok (.iinc 6 1, 3) := by decide +kernel
theorem dX2_teaching_116 : decode cX2_teaching 116 = .ok (.goto (-85), 3) := by decide +kernel
theorem dX2_teaching_119 : decode cX2_teaching 119 = .ok (.iinc 5 1, 3) := by decide +kernel
theorem dX2_teaching_122 : decode cX2_teaching 122 = .ok (.goto (-100), 3) := by decide +kernel
theorem dX2_teaching_125 : decode cX2_teaching 125 = .ok (.iinc 4 1, 3) := by decide +kernel
theorem dX2_teaching_128 : decode cX2_teaching 128 = .ok (.goto (-118), 3) := by decide +kernel
theorem dX2_teaching_131 : decode cX2_teaching 131 = .ok (.iconst (-1), 1) := by decide +kernel
theorem dX2_teaching_132 : decode cX2_teaching 132 = .ok (.ireturn, 1) := by decide +kernel
set_option maxRecDepth 20000 in
theorem ggX2_count_X2_in : GoodIn wsX2_count wsX2_in := goodIn_r _ [11] (by decide +kernel) (by decide +kernel)
set_option maxRecDepth 20000 in
theorem gX2_count_X2_in : GoodIn wsX2_count (va_wsS RX2 51 yX2_in wsX2_in) := goodIn_app (goodIn_of _ (by decide +kernel)) ggX2_count_X2_in
set_option maxRecDepth 20000 in
theorem ggX2_count_X2_isWrong : GoodIn wsX2_count wsX2_isWrong := goodIn_r _ [15, 16, 17, 18, 19, 20, 10, 21, 22, 23, 24, 25, 26, 27, 28, 8, 9, 11, 71, 72, 73, 74, 75, 76, 77, 78, 79, 80, 81, 82, 83, 84, 85, 86, 87, 88, 89] (by decide +kernel) (by decide +kernel)
set_option maxRecDepth 20000 in
theorem gX2_count_X2_isWrong : GoodIn wsX2_count (wsV RX2 75 RX2 yX2_isWrong wsX2_isWrong) := goodIn_app (goodIn_of _ (by decide +kernel)) ggX2_count_X2_isWrong
set_option maxRecDepth 20000 in
theorem ggX2_count_X2_framed : GoodIn wsX2_count wsX2_framed := goodIn_r _ [32, 5, 33, 34, 35, 10, 36, 37, 38, 6, 2, 3, 39, 40, 41, 42, 43, 44, 45, 46, 47, 48, 49, 16, 50, 51, 52, 53, 22, 4, 18, 19, 20, 21, 23, 17, 24, 25, 26, 27, 28, 8, 9, 11, 12, 13, 14, 15, 54, 55, 56, 57, 58, 59, 60, 61, 62, 71, 72, 73, 74, 75, 76, 77, 78, 79, 80, 81, 82, 83, 84, 85, 86, 87, 88, 89] (by decide +kernel) (by decide +kernel)
set_option maxRecDepth 20000 in
theorem gX2_count_X2_framed : GoodIn wsX2_count (wsV RX2 111 RX2 yX2_framed wsX2_framed) := goodIn_app (goodIn_of _ (by decide +kernel)) ggX2_count_X2_framed
set_option maxRecDepth 20000 in
theorem ggX2_count_X2_passList : GoodIn wsX2_count wsX2_passList := goodIn_r _ [66, 37, 38, 39, 40, 41, 10, 42, 5, 43, 44, 45, 46, 47, 48, 49, 2, 3, 16, 50, 51, 52, 53, 22, 4, 18, 19, 20, 21, 23, 17, 24, 25, 26, 27, 28, 8, 9, 11, 12, 13, 14, 15, 54, 55, 56, 57, 58, 59, 60, 61, 62, 71, 72, 73, 74, 75, 76, 77, 78, 79, 80, 81, 82, 83, 84, 85, 86, 87, 88, 89] (by decide +kernel) (by decide +kernel)
set_option maxRecDepth 20000 in
theorem gX2_count_X2_passList : GoodIn wsX2_count (wsV RX2 115 RX2 yX2_passList wsX2_passList) := goodIn_app (goodIn_of _ (by decide +kernel)) ggX2_count_X2_passList
set_option maxRecDepth 20000 in
theorem ggX2_count_X2_begin : GoodIn wsX2_count wsX2_begin := goodIn_r _ [42, 5, 43, 44, 45, 71, 72, 73, 74, 75, 76, 77, 78, 79, 80, 81, 82, 83, 84, 85, 86, 87, 88, 89] (by decide +kernel) (by decide +kernel)
set_option maxRecDepth 20000 in
theorem gX2_count_X2_begin : GoodIn wsX2_count (wsV RX2 101 RX2 yX2_begin wsX2_begin) := goodIn_app (goodIn_of _ (by decide +kernel)) ggX2_count_X2_begin
set_option maxRecDepth 20000 in
theorem ggX2_count_X2_isHouse : GoodIn wsX2_count wsX2_isHouse := goodIn_r _ [27, 28, 8, 9, 10, 11, 71, 72, 73, 74, 75, 76, 77, 78, 79, 80, 81, 82, 83, 84, 85, 86, 87, 88, 89] (by decide +kernel) (by decide +kernel)
set_option maxRecDepth 20000 in
theorem gX2_count_X2_isHouse : GoodIn wsX2_count (wsV RX2 61 RX2 yX2_isHouse wsX2_isHouse) := goodIn_app (goodIn_of _ (by decide +kernel)) ggX2_count_X2_isHouse
set_option maxRecDepth 20000 in
theorem ggX2_count_X2_passHouse : GoodIn wsX2_count wsX2_passHouse := goodIn_r _ [49, 2, 3, 16, 50, 51, 52, 10, 53, 22, 4, 18, 19, 20, 21, 23, 17, 24, 25, 26, 27, 28, 8, 9, 11, 12, 13, 14, 15, 54, 55, 56, 57, 58, 59, 60, 61, 5, 44, 45, 43, 62, 71, 72, 73, 74, 75, 76, 77, 78, 79, 80, 81, 82, 83, 84, 85, 86, 87, 88, 89] (by decide +kernel) (by decide +kernel)
set_option maxRecDepth 20000 in
theorem gX2_count_X2_passHouse : GoodIn wsX2_count (wsV RX2 104 RX2 yX2_passHouse wsX2_passHouse) := goodIn_app (goodIn_of _ (by decide +kernel)) ggX2_count_X2_passHouse
set_option maxRecDepth 20000 in
theorem ggX2_count_X2_passStray : GoodIn wsX2_count wsX2_passStray := goodIn_r _ [70, 2, 3, 39, 40, 41, 10, 42, 5, 43, 44, 45, 50, 51, 52, 53, 22, 16, 4, 18, 19, 20, 21, 23, 17, 24, 25, 26, 27, 28, 8, 9, 11, 12, 13, 14, 15, 54, 55, 56, 57, 58, 59, 60, 61, 62, 71, 72, 73, 74, 75, 76, 77, 78, 79, 80, 81, 82, 83, 84, 85, 86, 87, 88, 89] (by decide +kernel) (by decide +kernel)
set_option maxRecDepth 20000 in
theorem gX2_count_X2_passStray : GoodIn wsX2_count (wsV RX2 118 RX2 yX2_passStray wsX2_passStray) := goodIn_app (goodIn_of _ (by decide +kernel)) ggX2_count_X2_passStray
theorem dX2_count_0 : decode cX2_count 0 = .ok (.aload_n 0, 1) := by decide +kernel
theorem dX2_count_1 : decode cX2_count 1 = .ok (.iload_n 1, 1) := by decide +kernel
theorem dX2_count_2 : decode cX2_count 2 = .ok (.iconst 0, 1) := by decide +kernel
theorem dX2_count_3 : decode cX2_count 3 = .ok (.bipush 8, 2) := by decide +kernel
theorem dX2_count_5 : decode cX2_count 5 = .ok (.invokestatic 51, 3) := by decide +kernel
theorem dX2_count_8 : decode cX2_count 8 = .ok (.ifCond .eq 7, 3) := by decide +kernel
theorem dX2_count_11 : decode cX2_count 11 = .ok (.iconst 0, 1) := by decide +kernel
theorem dX2_count_12 : decode cX2_count 12 = .ok (.goto 4, 3) := by decide +kernel
theorem dX2_count_15 : decode cX2_count 15 = .ok (.iconst 1, 1) := by decide +kernel
theorem dX2_count_16 : decode cX2_count 16 = .ok (.putfield 48, 3) := by decide +kernel
theorem dX2_count_19 : decode cX2_count 19 = .ok (.iconst 0, 1) := by decide +kernel
theorem dX2_count_20 : decode cX2_count 20 = .ok (.istore_n 2, 1) := by decide +kernel
theorem dX2_count_21 : decode cX2_count 21 = .ok (.iconst 0, 1) := by decide +kernel
theorem dX2_count_22 : decode cX2_count 22 = .ok (.istore_n 3, 1) := by decide +kernel
theorem dX2_count_23 : decode cX2_count 23 = .ok (.iload_n 3, 1) := by decide +kernel
theorem dX2_count_24 : decode cX2_count 24 = .ok (.aload_n 0, 1) := by decide +kernel
theorem dX2_count_25 : decode cX2_count 25 = .ok (.getfield 55, 3) := by decide +kernel
theorem dX2_count_28 : decode cX2_count 28 = .ok (.if_icmp .ge 39, 3) := by decide +kernel
theorem dX2_count_31 : decode cX2_count 31 = .ok (.iload_n 1, 1) := by decide +kernel
theorem dX2_count_32 : decode cX2_count 32 = .ok (.iconst 3, 1) := by decide +kernel
theorem dX2_count_33 : decode cX2_count 33 = .ok (.if_icmp .ne 34, 3) := by decide +kernel
theorem dX2_count_36 : decode cX2_count 36 = .ok (.aload_n 0, 1) := by decide +kernel
theorem dX2_count_37 : decode cX2_count 37 = .ok (.getfield 38, 3) := by decide +kernel
theorem dX2_count_40 : decode cX2_count 40 = .ok (.iload_n 3, 1) := by decide +kernel
theorem dX2_count_41 : decode cX2_count 41 = .ok (.iaload, 1) := by decide +kernel
theorem dX2_count_42 : decode cX2_count 42 = .ok (.ifCond .ge 17, 3) := by decide +kernel
theorem dX2_count_45 : decode cX2_count 45 = .ok (.aload_n 0, 1) := by decide +kernel
theorem dX2_count_46 : decode cX2_count 46 = .ok (.iload_n 3, 1) := by decide +kernel
theorem dX2_count_47 : decode cX2_count 47 = .ok (.invokevirtual 75, 3) := by decide +kernel
theorem dX2_count_50 : decode cX2_count 50 = .ok (.ifCond .eq 9, 3) := by decide +kernel
theorem dX2_count_53 : decode cX2_count 53 = .ok (.iload_n 2, 1) := by decide +kernel
theorem dX2_count_54 : decode cX2_count 54 = .ok (.iconst 1, 1) := by decide +kernel
theorem dX2_count_55 : decode cX2_count 55 = .ok (.iadd, 1) := by decide +kernel
theorem dX2_count_56 : decode cX2_count 56 = .ok (.goto 4, 3) := by decide +kernel
theorem dX2_count_59 : decode cX2_count 59 = .ok (.iload_n 2, 1) := by decide +kernel
theorem dX2_count_60 : decode cX2_count 60 = .ok (.istore_n 2, 1) := by decide +kernel
theorem dX2_count_61 : decode cX2_count 61 = .ok (.iinc 3 1, 3) := by decide +kernel
theorem dX2_count_64 : decode cX2_count 64 = .ok (.goto (-41), 3) := by decide +kernel
theorem dX2_count_67 : decode cX2_count 67 = .ok (.iconst 0, 1) := by decide +kernel
theorem dX2_count_68 : decode cX2_count 68 = .ok (.istore_n 3, 1) := by decide +kernel
theorem dX2_count_69 : decode cX2_count 69 = .ok (.iload_n 3, 1) := by decide +kernel
theorem dX2_count_70 : decode cX2_count 70 = .ok (.sipush 200, 3) := by decide +kernel
theorem dX2_count_73 : decode cX2_count 73 = .ok (.if_icmp .ge 31, 3) := by decide +kernel
theorem dX2_count_76 : decode cX2_count 76 = .ok (.iload_n 1, 1) := by decide +kernel
theorem dX2_count_77 : decode cX2_count 77 = .ok (.iconst 4, 1) := by decide +kernel
theorem dX2_count_78 : decode cX2_count 78 = .ok (.if_icmp .ne 26, 3) := by decide +kernel
theorem dX2_count_81 : decode cX2_count 81 = .ok (.aload_n 0, 1) := by decide +kernel
theorem dX2_count_82 : decode cX2_count 82 = .ok (.getfield 16, 3) := by decide +kernel
theorem dX2_count_85 : decode cX2_count 85 = .ok (.iload_n 3, 1) := by decide +kernel
theorem dX2_count_86 : decode cX2_count 86 = .ok (.baload, 1) := by decide +kernel
theorem dX2_count_87 : decode cX2_count 87 = .ok (.ifCond .eq 9, 3) := by decide +kernel
theorem dX2_count_90 : decode cX2_count 90 = .ok (.iload_n 2, 1) := by decide +kernel
theorem dX2_count_91 : decode cX2_count 91 = .ok (.iconst 1, 1) := by decide +kernel
theorem dX2_count_92 : decode cX2_count 92 = .ok (.iadd, 1) := by decide +kernel
theorem dX2_count_93 : decode cX2_count 93 = .ok (.goto 4, 3) := by decide +kernel
theorem dX2_count_96 : decode cX2_count 96 = .ok (.iload_n 2, 1) := by decide +kernel
theorem dX2_count_97 : decode cX2_count 97 = .ok (.istore_n 2, 1) := by decide +kernel
theorem dX2_count_98 : decode cX2_count 98 = .ok (.iinc 3 1, 3) := by decide +kernel
theorem dX2_count_101 : decode cX2_count 101 = .ok (.goto (-32), 3) := by decide +kernel
theorem dX2_count_104 : decode cX2_count 104 = .ok (.iload_n 1, 1) := by decide +kernel
theorem dX2_count_105 : decode cX2_count 105 = .ok (.iconst 5, 1) := by decide +kernel
theorem dX2_count_106 : decode cX2_count 106 = .ok (.if_icmp .ne 8, 3) := by decide +kernel
theorem dX2_count_109 : decode cX2_count 109 = .ok (.aload_n 0, 1) := by decide +kernel
theorem dX2_count_110 : decode cX2_count 110 = .ok (.invokevirtual 111, 3) := by decide +kernel
theorem dX2_count_113 : decode cX2_count 113 = .ok (.istore_n 2, 1) := by decide +kernel
theorem dX2_count_114 : decode cX2_count 114 = .ok (.iconst 0, 1) := by decide +kernel
theorem dX2_count_115 : decode cX2_count 115 = .ok (.istore_n 3, 1) := by decide +kernel
theorem dX2_count_116 : decode cX2_count 116 = .ok (.iload_n 3, 1) := by decide +kernel
theorem dX2_count_117 : decode cX2_count 117 = .ok (.iconst 4, 1) := by decide +kernel
theorem dX2_count_118 : decode cX2_count 118 = .ok (.if_icmp .ge 28, 3) := by decide +kernel
theorem dX2_count_121 : decode cX2_count 121 = .ok (.iload_n 1, 1) := by decide +kernel
theorem dX2_count_122 : decode cX2_count 122 = .ok (.bipush 6, 2) := by decide +kernel
theorem dX2_count_124 : decode cX2_count 124 = .ok (.if_icmp .ne 22, 3) := by decide +kernel
theorem dX2_count_127 : decode cX2_count 127 = .ok (.aload_n 0, 1) := by decide +kernel
theorem dX2_count_128 : decode cX2_count 128 = .ok (.iload_n 3, 1) := by decide +kernel
theorem dX2_count_129 : decode cX2_count 129 = .ok (.iconst (-1), 1) := by decide +kernel
theorem dX2_count_130 : decode cX2_count 130 = .ok (.invokevirtual 115, 3) := by decide +kernel
theorem dX2_count_133 : decode cX2_count 133 = .ok (.iload_n 2, 1) := by decide +kernel
theorem dX2_count_134 : decode cX2_count 134 = .ok (.aload_n 0, 1) := by decide +kernel
theorem dX2_count_135 : decode cX2_count 135 = .ok (.getfield 82, 3) := by decide +kernel
theorem dX2_count_138 : decode cX2_count 138 = .ok (.iadd, 1) := by decide +kernel
theorem dX2_count_139 : decode cX2_count 139 = .ok (.istore_n 2, 1) := by decide +kernel
theorem dX2_count_140 : decode cX2_count 140 = .ok (.iinc 3 1, 3) := by decide +kernel
theorem dX2_count_143 : decode cX2_count 143 = .ok (.goto (-27), 3) := by decide +kernel
theorem dX2_count_146 : decode cX2_count 146 = .ok (.iconst 0, 1) := by decide +kernel
theorem dX2_count_147 : decode cX2_count 147 = .ok (.istore_n 3, 1) := by decide +kernel
theorem dX2_count_148 : decode cX2_count 148 = .ok (.iload_n 3, 1) := by decide +kernel
theorem dX2_count_149 : decode cX2_count 149 = .ok (.sipush 200, 3) := by decide +kernel
theorem dX2_count_152 : decode cX2_count 152 = .ok (.if_icmp .ge 41, 3) := by decide +kernel
theorem dX2_count_155 : decode cX2_count 155 = .ok (.iload_n 1, 1) := by decide +kernel
theorem dX2_count_156 : decode cX2_count 156 = .ok (.bipush 7, 2) := by decide +kernel
theorem dX2_count_158 : decode cX2_count 158 = .ok (.if_icmp .ne 35, 3) := by decide +kernel
theorem dX2_count_161 : decode cX2_count 161 = .ok (.aload_n 0, 1) := by decide +kernel
theorem dX2_count_162 : decode cX2_count 162 = .ok (.iconst (-1), 1) := by decide +kernel
theorem dX2_count_163 : decode cX2_count 163 = .ok (.invokevirtual 101, 3) := by decide +kernel
theorem dX2_count_166 : decode cX2_count 166 = .ok (.aload_n 0, 1) := by decide +kernel
theorem dX2_count_167 : decode cX2_count 167 = .ok (.iload_n 3, 1) := by decide +kernel
theorem dX2_count_168 : decode cX2_count 168 = .ok (.invokevirtual 61, 3) := by decide +kernel
theorem dX2_count_171 : decode cX2_count 171 = .ok (.ifCond .eq 9, 3) := by decide +kernel
theorem dX2_count_174 : decode cX2_count 174 = .ok (.aload_n 0, 1) := by decide +kernel
theorem dX2_count_175 : decode cX2_count 175 = .ok (.iload_n 3, 1) := by decide +kernel
theorem dX2_count_176 : decode cX2_count 176 = .ok (.iconst 3, 1) := by decide +kernel
theorem dX2_count_177 : decode cX2_count 177 = .ok (.invokevirtual 104, 3) := by decide +kernel
theorem dX2_count_180 : decode cX2_count 180 = .ok (.iload_n 2, 1) := by decide +kernel
theorem dX2_count_181 : decode cX2_count 181 = .ok (.aload_n 0, 1) := by decide +kernel
theorem dX2_count_182 : decode cX2_count 182 = .ok (.getfield 82, 3) := by decide +kernel
theorem dX2_count_185 : decode cX2_count 185 = .ok (.iadd, 1) := by decide +kernel
theorem dX2_count_186 : decode cX2_count 186 = .ok (.istore_n 2, 1) := by decide +kernel
theorem dX2_count_187 : decode cX2_count 187 = .ok (.iinc 3 1, 3) := by decide +kernel
theorem dX2_count_190 : decode cX2_count 190 = .ok (.goto (-42), 3) := by decide +kernel
theorem dX2_count_193 : decode cX2_count 193 = .ok (.iload_n 1, 1) := by decide +kernel
theorem dX2_count_194 : decode cX2_count 194 = .ok (.bipush 8, 2) := by decide +kernel
theorem dX2_count_196 : decode cX2_count 196 = .ok (.if_icmp .ne 13, 3) := by decide +kernel
theorem dX2_count_199 : decode cX2_count 199 = .ok (.aload_n 0, 1) := by decide +kernel
theorem dX2_count_200 : decode cX2_count 200 = .ok (.iconst (-1), 1) := by decide +kernel
theorem dX2_count_201 : decode cX2_count 201 = .ok (.invokevirtual 118, 3) := by decide +kernel
theorem dX2_count_204 : decode cX2_count 204 = .ok (.aload_n 0, 1) := by decide +kernel
theorem dX2_count_205 : decode cX2_count 205 = .ok (.getfield 82, 3) := by decide +kernel
theorem dX2_count_208 : decode cX2_count 208 = .ok (.istore_n 2, 1) := by decide +kernel
theorem dX2_count_209 : decode cX2_count 209 = .ok (.aload_n 0, 1) := by decide +kernel
theorem dX2_count_210 : decode cX2_count 210 = .ok (.getfield 48, 3) := by decide +kernel
theorem dX2_count_213 : decode cX2_count 213 = .ok (.ifCond .le 7, 3) := by decide +kernel
theorem dX2_count_216 : decode cX2_count 216 = .ok (.iconst 0, 1) := by decide +kernel
theorem dX2_count_217 : decode cX2_count 217 = .ok (.goto 39, 3) := by decide +kernel
theorem dX2_count_220 : decode cX2_count 220 = .ok (.iload_n 1, 1) := by decide +kernel
theorem dX2_count_221 : decode cX2_count 221 = .ok (.ifCond .ne 10, 3) := by decide +kernel
theorem dX2_count_224 : decode cX2_count 224 = .ok (.aload_n 0, 1) := by decide +kernel
theorem dX2_count_225 : decode cX2_count 225 = .ok (.getfield 44, 3) := by decide +kernel
theorem dX2_count_228 : decode cX2_count 228 = .ok (.goto 28, 3) := by decide +kernel
theorem dX2_count_231 : decode cX2_count 231 = .ok (.iload_n 1, 1) := by decide +kernel
theorem dX2_count_232 : decode cX2_count 232 = .ok (.iconst 1, 1) := by decide +kernel
theorem dX2_count_233 : decode cX2_count 233 = .ok (.if_icmp .ne 10, 3) := by decide +kernel
theorem dX2_count_236 : decode cX2_count 236 = .ok (.aload_n 0, 1) := by decide +kernel
theorem dX2_count_237 : decode cX2_count 237 = .ok (.getfield 58, 3) := by decide +kernel
theorem dX2_count_240 : decode cX2_count 240 = .ok (.goto 16, 3) := by decide +kernel
theorem dX2_count_243 : decode cX2_count 243 = .ok (.iload_n 1, 1) := by decide +kernel
theorem dX2_count_244 : decode cX2_count 244 = .ok (.iconst 2, 1) := by decide +kernel
theorem dX2_count_245 : decode cX2_count 245 = .ok (.if_icmp .ne 10, 3) := by decide +kernel
theorem dX2_count_248 : decode cX2_count 248 = .ok (.aload_n 0, 1) := by decide +kernel
theorem dX2_count_249 : decode cX2_count 249 = .ok (.getfield 55, 3) := by decide +kernel
theorem dX2_count_252 : decode cX2_count 252 = .ok (.goto 4, 3) := by decide +kernel
theorem dX2_count_255 : decode cX2_count 255 = .ok (.iload_n 2, 1) := by decide +kernel
theorem dX2_count_256 : decode cX2_count 256 = .ok (.ireturn, 1) := by decide +kernel
theorem dJ9_max_7cf53_0 : decode cJ9_max_7cf53 0 = .ok (.iload_n 0, 1) := by decide +kernel
theorem dJ9_max_7cf53_1 : decode cJ9_max_7cf53 1 = .ok (.iload_n 1, 1) := by decide +kernel
theorem dJ9_max_7cf53_2 : decode cJ9_max_7cf53 2 = .ok (.if_icmp .lt 7, 3) := by decide +kernel
theorem dJ9_max_7cf53_5 : decode cJ9_max_7cf53 5 = .ok (.iload_n 0, 1) := by decide +kernel
theorem dJ9_max_7cf53_6 : decode cJ9_max_7cf53 6 = .ok (.goto 4, 3) := by decide +kernel
theorem dJ9_max_7cf53_9 : decode cJ9_max_7cf53 9 = .ok (.iload_n 1, 1) := by decide +kernel
theorem dJ9_max_7cf53_10 : decode cJ9_max_7cf53 10 = .ok (.ireturn, 1) := by decide +kernel
theorem dJ9_min_7cf53_0 : decode cJ9_min_7cf53 0 = .ok (.iload_n 0, 1) := by decide +kernel
theorem dJ9_min_7cf53_1 : decode cJ9_min_7cf53 1 = .ok (.iload_n 1, 1) := by decide +kernel
theorem dJ9_min_7cf53_2 : decode cJ9_min_7cf53 2 = .ok (.if_icmp .gt 7, 3) := by decide +kernel
theorem dJ9_min_7cf53_5 : decode cJ9_min_7cf53 5 = .ok (.iload_n 0, 1) := by decide +kernel
theorem dJ9_min_7cf53_6 : decode cJ9_min_7cf53 6 = .ok (.goto 4, 3) := by decide +kernel
theorem dJ9_min_7cf53_9 : decode cJ9_min_7cf53 9 = .ok (.iload_n 1, 1) := by decide +kernel
theorem dJ9_min_7cf53_10 : decode cJ9_min_7cf53 10 = .ok (.ireturn, 1) := by decide +kernel
theorem dJ7_fill_53178_0 : decode cJ7_fill_53178 0 = .ok (.iconst 0, 1) := by decide +kernel
theorem dJ7_fill_53178_1 : decode cJ7_fill_53178 1 = .ok (.istore_n 2, 1) := by decide +kernel
theorem dJ7_fill_53178_2 : decode cJ7_fill_53178 2 = .ok (.aload_n 0, 1) := by decide +kernel
theorem dJ7_fill_53178_3 : decode cJ7_fill_53178 3 = .ok (.arraylength, 1) := by decide +kernel
theorem dJ7_fill_53178_4 : decode cJ7_fill_53178 4 = .ok (.istore_n 3, 1) := by decide +kernel
theorem dJ7_fill_53178_5 : decode cJ7_fill_53178 5 = .ok (.iload_n 2, 1) := by decide +kernel
theorem dJ7_fill_53178_6 : decode cJ7_fill_53178 6 = .ok (.iload_n 3, 1) := by decide +kernel
theorem dJ7_fill_53178_7 : decode cJ7_fill_53178 7 = .ok (.if_icmp .ge 13, 3) := by decide +kernel
theorem dJ7_fill_53178_10 : decode cJ7_fill_53178 10 = .ok (.aload_n 0, 1) := by decide +kernel
theorem dJ7_fill_53178_11 : decode cJ7_fill_53178 11 = .ok (.iload_n 2, 1) := by decide +kernel
theorem dJ7_fill_53178_12 : decode cJ7_fill_53178 12 = .ok (.iload_n 1, 1) := by decide +kernel
theorem dJ7_fill_53178_13 : decode cJ7_fill_53178 13 = .ok (.iastore, 1) := by decide +kernel
theorem dJ7_fill_53178_14 : decode cJ7_fill_53178 14 = .ok (.iinc 2 1, 3) := by decide +kernel
theorem dJ7_fill_53178_17 : decode cJ7_fill_53178 17 = .ok (.goto (-12), 3) := by decide +kernel
theorem dJ7_fill_53178_20 : decode cJ7_fill_53178 20 = .ok (.return_, 1) := by decide +kernel
theorem dL_cell_0 : decode cL_cell 0 = .ok (.iload_n 1, 1) := by decide +kernel
theorem dL_cell_1 : decode cL_cell 1 = .ok (.aload_n 0, 1) := by decide +kernel
theorem dL_cell_2 : decode cL_cell 2 = .ok (.arraylength, 1) := by decide +kernel
theorem dL_cell_3 : decode cL_cell 3 = .ok (.if_icmp .ge 9, 3) := by decide +kernel
theorem dL_cell_6 : decode cL_cell 6 = .ok (.aload_n 0, 1) := by decide +kernel
theorem dL_cell_7 : decode cL_cell 7 = .ok (.iload_n 1, 1) := by decide +kernel
theorem dL_cell_8 : decode cL_cell 8 = .ok (.iaload, 1) := by decide +kernel
theorem dL_cell_9 : decode cL_cell 9 = .ok (.goto 4, 3) := by decide +kernel
theorem dL_cell_12 : decode cL_cell 12 = .ok (.iconst 0, 1) := by decide +kernel
theorem dL_cell_13 : decode cL_cell 13 = .ok (.ireturn, 1) := by decide +kernel
set_option maxRecDepth 20000 in
theorem ggL_frame_X1_frame : GoodIn wsL_frame wsX1_frame := goodIn_ca (goodIn_ca (goodIn_r _ [7, 8, 9, 10, 11, 12, 13, 14, 15, 16, 6, 17, 18, 19, 20, 21, 22, 23, 24, 25, 26, 27, 28, 29, 30, 31, 32, 33, 34, 35, 36, 37, 38, 39, 40, 41, 42, 43, 44, 45, 46, 47, 48, 49, 50, 51, 52, 53, 54, 55, 56, 57, 58, 59, 60, 61, 62, 63, 64, 65, 66, 67, 68, 69, 70, 71, 72, 73, 74, 75, 76, 77, 78, 79, 80, 81, 82, 83, 84, 85, 86, 87, 88, 89, 90, 91, 92, 93, 94, 95, 96, 97, 98, 99, 100, 101] (by decide +kernel) (by decide +kernel)) (goodIn_sub (fun _ h => List.mem_cons_of_mem _ (List.mem_append_left _ (List.mem_append_right _ h))) (by decide +kernel))) (goodIn_sub (fun _ h => List.mem_cons_of_mem _ (List.mem_append_right _ h)) (by decide +kernel))
set_option maxRecDepth 20000 in
theorem gL_frame_X1_frame : GoodIn wsL_frame (wsV RL 7 RX1 yX1_frame wsX1_frame) := goodIn_app (goodIn_of _ (by decide +kernel)) ggL_frame_X1_frame
theorem dL_frame_0 : decode cL_frame 0 = .ok (.aload_n 3, 1) := by decide +kernel
theorem dL_frame_1 : decode cL_frame 1 = .ok (.iconst 0, 1) := by decide +kernel
theorem dL_frame_2 : decode cL_frame 2 = .ok (.aload_n 0, 1) := by decide +kernel
theorem dL_frame_3 : decode cL_frame 3 = .ok (.iload_n 1, 1) := by decide +kernel
theorem dL_frame_4 : decode cL_frame 4 = .ok (.iload_n 2, 1) := by decide +kernel
theorem dL_frame_5 : decode cL_frame 5 = .ok (.invokevirtual 7, 3) := by decide +kernel
theorem dL_frame_8 : decode cL_frame 8 = .ok (.i2l, 1) := by decide +kernel
theorem dL_frame_9 : decode cL_frame 9 = .ok (.lastore, 1) := by decide +kernel
theorem dL_frame_10 : decode cL_frame 10 = .ok (.goto 11, 3) := by decide +kernel
theorem dL_frame_13 : decode cL_frame 13 = .ok (.astore 4, 2) := by decide +kernel
theorem dL_frame_15 : decode cL_frame 15 = .ok (.iconst 1, 1) := by decide +kernel
theorem dL_frame_16 : decode cL_frame 16 = .ok (.ireturn, 1) := by decide +kernel
theorem dL_frame_17 : decode cL_frame 17 = .ok (.astore 4, 2) := by decide +kernel
theorem dL_frame_19 : decode cL_frame 19 = .ok (.iconst 2, 1) := by decide +kernel
theorem dL_frame_20 : decode cL_frame 20 = .ok (.ireturn, 1) := by decide +kernel
theorem dL_frame_21 : decode cL_frame 21 = .ok (.iconst 0, 1) := by decide +kernel
theorem dL_frame_22 : decode cL_frame 22 = .ok (.ireturn, 1) := by decide +kernel
set_option maxRecDepth 20000 in
theorem ggL_list_X1_list : GoodIn wsL_list wsX1_list := goodIn_ca (goodIn_ca (goodIn_r _ [7, 8, 9, 10, 11, 12, 13, 14, 15, 16, 17, 6, 18, 19, 20, 21, 22, 23, 24, 25, 26, 27, 28, 29, 30, 31, 32, 33, 34, 35, 36, 37, 38, 39, 40, 41, 42, 43, 44, 45, 46, 47, 48, 49, 50, 51, 52, 53, 54, 55, 56, 57, 58, 59, 60, 61, 62, 63, 64, 65, 66, 67, 68, 69, 70, 71, 72, 73, 74, 75, 76, 77, 78, 79, 80, 81, 82, 83, 84, 85, 86, 87, 88] (by decide +kernel) (by decide +kernel)) (goodIn_sub (fun _ h => List.mem_cons_of_mem _ (List.mem_append_left _ (List.mem_append_right _ h))) (by decide +kernel))) (goodIn_sub (fun _ h => List.mem_cons_of_mem _ (List.mem_append_right _ h)) (by decide +kernel))
set_option maxRecDepth 20000 in
theorem gL_list_X1_list : GoodIn wsL_list (wsV RL 17 RX1 yX1_list wsX1_list) := goodIn_app (goodIn_of _ (by decide +kernel)) ggL_list_X1_list
theorem dL_list_0 : decode cL_list 0 = .ok (.aload_n 3, 1) := by decide +kernel
theorem dL_list_1 : decode cL_list 1 = .ok (.iconst 0, 1) := by decide +kernel
theorem dL_list_2 : decode cL_list 2 = .ok (.aload_n 0, 1) := by decide +kernel
theorem dL_list_3 : decode cL_list 3 = .ok (.iload_n 1, 1) := by decide +kernel
theorem dL_list_4 : decode cL_list 4 = .ok (.iload_n 2, 1) := by decide +kernel
theorem dL_list_5 : decode cL_list 5 = .ok (.invokevirtual 17, 3) := by decide +kernel
theorem dL_list_8 : decode cL_list 8 = .ok (.i2l, 1) := by decide +kernel
theorem dL_list_9 : decode cL_list 9 = .ok (.lastore, 1) := by decide +kernel
theorem dL_list_10 : decode cL_list 10 = .ok (.goto 11, 3) := by decide +kernel
theorem dL_list_13 : decode cL_list 13 = .ok (.astore 4, 2) := by decide +kernel
theorem dL_list_15 : decode cL_list 15 = .ok (.iconst 1, 1) := by decide +kernel
theorem dL_list_16 : decode cL_list 16 = .ok (.ireturn, 1) := by decide +kernel
theorem dL_list_17 : decode cL_list 17 = .ok (.astore 4, 2) := by decide +kernel
theorem dL_list_19 : decode cL_list 19 = .ok (.iconst 2, 1) := by decide +kernel
theorem dL_list_20 : decode cL_list 20 = .ok (.ireturn, 1) := by decide +kernel
theorem dL_list_21 : decode cL_list 21 = .ok (.iconst 0, 1) := by decide +kernel
theorem dL_list_22 : decode cL_list 22 = .ok (.ireturn, 1) := by decide +kernel
set_option maxRecDepth 20000 in
theorem ggL_minutes_X1_minutes : GoodIn wsL_minutes wsX1_minutes := goodIn_ca (goodIn_r _ [6, 7, 8, 9, 10, 11, 5, 12, 13, 14, 15, 16, 17, 18, 19, 20, 21, 22, 23, 24, 25, 26, 27, 28, 29, 30, 31, 32, 33, 34, 35, 36, 37, 38, 39, 40, 41, 42, 43, 44, 45, 46, 47, 48, 49, 50, 51, 52, 53, 54, 55, 56, 57, 58, 59, 60, 61, 62, 63, 64, 65, 66, 67, 68, 69, 70, 71, 72, 73, 74, 75, 76, 77, 78, 79, 80, 81, 82, 83, 84, 85, 86, 87, 88, 89, 90, 91, 92, 93, 94, 95, 96, 97, 98, 99] (by decide +kernel) (by decide +kernel)) (goodIn_sub (fun _ h => List.mem_cons_of_mem _ (List.mem_append_right _ h)) (by decide +kernel))
set_option maxRecDepth 20000 in
theorem gL_minutes_X1_minutes : GoodIn wsL_minutes (wsV RL 20 RX1 yX1_minutes wsX1_minutes) := goodIn_app (goodIn_of _ (by decide +kernel)) ggL_minutes_X1_minutes
theorem dL_minutes_0 : decode cL_minutes 0 = .ok (.aload_n 2, 1) := by decide +kernel
theorem dL_minutes_1 : decode cL_minutes 1 = .ok (.iconst 0, 1) := by decide +kernel
theorem dL_minutes_2 : decode cL_minutes 2 = .ok (.aload_n 0, 1) := by decide +kernel
theorem dL_minutes_3 : decode cL_minutes 3 = .ok (.iload_n 1, 1) := by decide +kernel
theorem dL_minutes_4 : decode cL_minutes 4 = .ok (.invokevirtual 20, 3) := by decide +kernel
theorem dL_minutes_7 : decode cL_minutes 7 = .ok (.i2l, 1) := by decide +kernel
theorem dL_minutes_8 : decode cL_minutes 8 = .ok (.lastore, 1) := by decide +kernel
theorem dL_minutes_9 : decode cL_minutes 9 = .ok (.goto 6, 3) := by decide +kernel
theorem dL_minutes_12 : decode cL_minutes 12 = .ok (.astore_n 3, 1) := by decide +kernel
theorem dL_minutes_13 : decode cL_minutes 13 = .ok (.iconst 1, 1) := by decide +kernel
theorem dL_minutes_14 : decode cL_minutes 14 = .ok (.ireturn, 1) := by decide +kernel
theorem dL_minutes_15 : decode cL_minutes 15 = .ok (.iconst 0, 1) := by decide +kernel
theorem dL_minutes_16 : decode cL_minutes 16 = .ok (.ireturn, 1) := by decide +kernel
set_option maxRecDepth 20000 in
theorem ggL_count_X1_count : GoodIn wsL_count wsX1_count := goodIn_ca (goodIn_r _ [6, 7, 8, 9, 10, 11, 12, 13, 14, 15, 16, 17, 5, 18, 19, 20, 21, 22, 23, 24, 25, 26, 27, 28, 29, 30, 31, 32, 33, 34, 35, 36, 37, 38, 39, 40, 41, 42, 43, 44, 45, 46, 47, 48, 49, 50, 51, 52, 53, 54, 55, 56, 57, 58, 59, 60, 61, 62, 63, 64, 65, 66, 67, 68, 69, 70, 71, 72, 73, 74, 75, 76, 77, 78, 79, 80, 81, 82, 83, 84, 85, 86, 87, 88] (by decide +kernel) (by decide +kernel)) (goodIn_sub (fun _ h => List.mem_cons_of_mem _ (List.mem_append_right _ h)) (by decide +kernel))
set_option maxRecDepth 20000 in
theorem gL_count_X1_count : GoodIn wsL_count (wsV RL 24 RX1 yX1_count wsX1_count) := goodIn_app (goodIn_of _ (by decide +kernel)) ggL_count_X1_count
theorem dL_count_0 : decode cL_count 0 = .ok (.aload_n 2, 1) := by decide +kernel
theorem dL_count_1 : decode cL_count 1 = .ok (.iconst 0, 1) := by decide +kernel
theorem dL_count_2 : decode cL_count 2 = .ok (.aload_n 0, 1) := by decide +kernel
theorem dL_count_3 : decode cL_count 3 = .ok (.iload_n 1, 1) := by decide +kernel
theorem dL_count_4 : decode cL_count 4 = .ok (.invokevirtual 24, 3) := by decide +kernel
theorem dL_count_7 : decode cL_count 7 = .ok (.i2l, 1) := by decide +kernel
theorem dL_count_8 : decode cL_count 8 = .ok (.lastore, 1) := by decide +kernel
theorem dL_count_9 : decode cL_count 9 = .ok (.goto 6, 3) := by decide +kernel
theorem dL_count_12 : decode cL_count 12 = .ok (.astore_n 3, 1) := by decide +kernel
theorem dL_count_13 : decode cL_count 13 = .ok (.iconst 1, 1) := by decide +kernel
theorem dL_count_14 : decode cL_count 14 = .ok (.ireturn, 1) := by decide +kernel
theorem dL_count_15 : decode cL_count 15 = .ok (.iconst 0, 1) := by decide +kernel
theorem dL_count_16 : decode cL_count 16 = .ok (.ireturn, 1) := by decide +kernel
set_option maxRecDepth 20000 in
theorem ggL_law_L_cell : GoodIn wsL_law wsL_cell := goodIn_r _ [10] (by decide +kernel) (by decide +kernel)
set_option maxRecDepth 20000 in
theorem gL_law_L_cell : GoodIn wsL_law (va_wsS RL 27 yL_cell wsL_cell) := goodIn_app (goodIn_of _ (by decide +kernel)) ggL_law_L_cell
set_option maxRecDepth 20000 in
theorem ggL_law_X1_init : GoodIn wsL_law wsX1_init := goodIn_r _ [13, 14, 15, 16, 17, 18, 19, 20, 21, 22, 23, 24, 25, 26, 27, 28, 29, 30, 31, 32, 33, 34, 35, 36, 37, 38, 39, 40, 41, 42, 43, 44, 409, 410, 411, 412, 413, 414, 415, 416, 417, 418, 419, 420, 421, 422, 423] (by decide +kernel) (by decide +kernel)
set_option maxRecDepth 20000 in
theorem gL_law_X1_init : GoodIn wsL_law (wsX1_init) := ggL_law_X1_init
set_option maxRecDepth 20000 in
theorem ggL_law_X2_init : GoodIn wsL_law wsX2_init := goodIn_r _ [47, 48, 15, 16, 17, 49, 50, 20, 51, 52, 53, 54, 55, 56, 57, 58, 59, 60, 424, 425, 426, 427, 428, 429, 430, 431, 432, 433, 434, 435, 436, 437, 438, 439, 440, 441, 442] (by decide +kernel) (by decide +kernel)
set_option maxRecDepth 20000 in
theorem gL_law_X2_init : GoodIn wsL_law (wsX2_init) := ggL_law_X2_init
set_option maxRecDepth 20000 in
theorem ggL_law_X1_house : GoodIn wsL_law wsX1_house := goodIn_r _ [64, 23, 22, 18, 65, 66, 67, 2, 68, 69, 70, 71, 72, 73, 74, 75, 76, 77, 78, 79, 80, 409, 410, 411, 412, 413, 414, 415, 416, 417, 418, 419, 420, 421, 422, 423] (by decide +kernel) (by decide +kernel)
set_option maxRecDepth 20000 in
theorem gL_law_X1_house : GoodIn wsL_law (wsV RL 39 RX1 yX1_house wsX1_house) := goodIn_app (goodIn_of _ (by decide +kernel)) ggL_law_X1_house
set_option maxRecDepth 20000 in
theorem ggL_law_X2_house : GoodIn wsL_law wsX2_house := goodIn_r _ [84, 85, 49, 86, 52, 53, 87, 88, 5, 89, 424, 425, 426, 427, 428, 429, 430, 431, 432, 433, 434, 435, 436, 437, 438, 439, 440, 441, 442] (by decide +kernel) (by decide +kernel)
set_option maxRecDepth 20000 in
theorem gL_law_X2_house : GoodIn wsL_law (wsV RL 42 RX2 yX2_house wsX2_house) := goodIn_app (goodIn_of _ (by decide +kernel)) ggL_law_X2_house
set_option maxRecDepth 20000 in
theorem ggL_law_X1_point : GoodIn wsL_law wsX1_point := goodIn_r _ [93, 19, 73, 74, 75, 2, 76, 18, 69, 70, 71, 72, 94, 95, 96, 97, 40, 98, 99, 100, 101, 23, 22, 409, 410, 411, 412, 413, 414, 415, 416, 417, 418, 419, 420, 421, 422, 423] (by decide +kernel) (by decide +kernel)
set_option maxRecDepth 20000 in
theorem gL_law_X1_point : GoodIn wsL_law (wsV RL 43 RX1 yX1_point wsX1_point) := goodIn_app (goodIn_of _ (by decide +kernel)) ggL_law_X1_point
set_option maxRecDepth 20000 in
theorem ggL_law_X2_point : GoodIn wsL_law wsX2_point := goodIn_r _ [105, 85, 60, 50, 106, 107, 108, 5, 109, 49, 87, 88, 89, 424, 425, 426, 427, 428, 429, 430, 431, 432, 433, 434, 435, 436, 437, 438, 439, 440, 441, 442] (by decide +kernel) (by decide +kernel)
set_option maxRecDepth 20000 in
theorem gL_law_X2_point : GoodIn wsL_law (wsV RL 46 RX2 yX2_point wsX2_point) := goodIn_app (goodIn_of _ (by decide +kernel)) ggL_law_X2_point
set_option maxRecDepth 20000 in
theorem ggL_law_X1_item : GoodIn wsL_law wsX1_item := goodIn_r _ [113, 29, 24, 25, 26, 27, 28, 69, 70, 71, 2, 72, 409, 410, 411, 412, 413, 414, 415, 416, 417, 418, 419, 420, 421, 422, 423] (by decide +kernel) (by decide +kernel)
set_option maxRecDepth 20000 in
theorem gL_law_X1_item : GoodIn wsL_law (wsV RL 47 RX1 yX1_item wsX1_item) := goodIn_app (goodIn_of _ (by decide +kernel)) ggL_law_X1_item
set_option maxRecDepth 20000 in
theorem ggL_law_X2_item : GoodIn wsL_law wsX2_item := goodIn_r _ [117, 85, 118, 54, 55, 56, 57, 58, 87, 88, 5, 89, 424, 425, 426, 427, 428, 429, 430, 431, 432, 433, 434, 435, 436, 437, 438, 439, 440, 441, 442] (by decide +kernel) (by decide +kernel)
set_option maxRecDepth 20000 in
theorem gL_law_X2_item : GoodIn wsL_law (wsV RL 50 RX2 yX2_item wsX2_item) := goodIn_app (goodIn_of _ (by decide +kernel)) ggL_law_X2_item
set_option maxRecDepth 20000 in
theorem ggL_law_X1_bundle : GoodIn wsL_law wsX1_bundle := goodIn_r _ [122, 28, 27, 26, 123, 124, 125, 2, 126, 29, 127, 128, 129, 130, 25, 131, 132, 133, 134, 135, 136, 137, 138, 139, 140, 141, 142, 409, 410, 411, 412, 413, 414, 415, 416, 417, 418, 419, 420, 421, 422, 423] (by decide +kernel) (by decide +kernel)
set_option maxRecDepth 20000 in
theorem gL_law_X1_bundle : GoodIn wsL_law (wsV RL 51 RX1 yX1_bundle wsX1_bundle) := goodIn_app (goodIn_of _ (by decide +kernel)) ggL_law_X1_bundle
set_option maxRecDepth 20000 in
theorem ggL_law_X2_bundle : GoodIn wsL_law wsX2_bundle := goodIn_r _ [146, 85, 55, 58, 57, 56, 147, 148, 149, 5, 150, 118, 87, 88, 89, 151, 152, 153, 154, 424, 425, 426, 427, 428, 429, 430, 431, 432, 433, 434, 435, 436, 437, 438, 439, 440, 441, 442] (by decide +kernel) (by decide +kernel)
set_option maxRecDepth 20000 in
theorem gL_law_X2_bundle : GoodIn wsL_law (wsV RL 54 RX2 yX2_bundle wsX2_bundle) := goodIn_app (goodIn_of _ (by decide +kernel)) ggL_law_X2_bundle
set_option maxRecDepth 20000 in
theorem ggL_law_X1_put : GoodIn wsL_law wsX1_put := goodIn_r _ [158, 25, 26, 123, 124, 125, 2, 126, 29, 94, 95, 96, 97, 40, 131, 132, 133, 134, 27, 159, 160, 161, 162, 19, 24, 163, 164, 165, 166, 409, 410, 411, 412, 413, 414, 415, 416, 417, 418, 419, 420, 421, 422, 423] (by decide +kernel) (by decide +kernel)
set_option maxRecDepth 20000 in
theorem gL_law_X1_put : GoodIn wsL_law (wsV RL 55 RX1 yX1_put wsX1_put) := goodIn_app (goodIn_of _ (by decide +kernel)) ggL_law_X1_put
set_option maxRecDepth 20000 in
theorem ggL_law_X2_put : GoodIn wsL_law wsX2_put := goodIn_r _ [170, 85, 60, 55, 58, 56, 147, 148, 149, 5, 150, 118, 87, 88, 89, 171, 172, 173, 174, 54, 50, 175, 176, 177, 178, 106, 107, 108, 109, 49, 424, 425, 426, 427, 428, 429, 430, 431, 432, 433, 434, 435, 436, 437, 438, 439, 440, 441, 442] (by decide +kernel) (by decide +kernel)
set_option maxRecDepth 20000 in
theorem gL_law_X2_put : GoodIn wsL_law (wsV RL 58 RX2 yX2_put wsX2_put) := goodIn_app (goodIn_of _ (by decide +kernel)) ggL_law_X2_put
set_option maxRecDepth 20000 in
theorem ggL_law_X1_hold : GoodIn wsL_law wsX1_hold := goodIn_r _ [182, 21, 73, 74, 75, 2, 76, 18, 69, 70, 71, 72, 409, 410, 411, 412, 413, 414, 415, 416, 417, 418, 419, 420, 421, 422, 423] (by decide +kernel) (by decide +kernel)
set_option maxRecDepth 20000 in
theorem gL_law_X1_hold : GoodIn wsL_law (wsV RL 59 RX1 yX1_hold wsX1_hold) := goodIn_app (goodIn_of _ (by decide +kernel)) ggL_law_X1_hold
set_option maxRecDepth 20000 in
theorem ggL_law_X2_hold : GoodIn wsL_law wsX2_hold := goodIn_r _ [186, 85, 51, 106, 107, 108, 5, 109, 49, 87, 88, 89, 424, 425, 426, 427, 428, 429, 430, 431, 432, 433, 434, 435, 436, 437, 438, 439, 440, 441, 442] (by decide +kernel) (by decide +kernel)
set_option maxRecDepth 20000 in
theorem gL_law_X2_hold : GoodIn wsL_law (wsV RL 63 RX2 yX2_hold wsX2_hold) := goodIn_app (goodIn_of _ (by decide +kernel)) ggL_law_X2_hold
set_option maxRecDepth 20000 in
theorem ggL_law_X1_sample : GoodIn wsL_law wsX1_sample := goodIn_r _ [190, 40, 29, 32, 191, 192, 193, 194, 2, 195, 131, 132, 133, 134, 27, 163, 164, 165, 166, 25, 26, 19, 24, 196, 197, 198, 199, 159, 160, 161, 162, 409, 410, 411, 412, 413, 414, 415, 416, 417, 418, 419, 420, 421, 422, 423] (by decide +kernel) (by decide +kernel)
set_option maxRecDepth 20000 in
theorem gL_law_X1_sample : GoodIn wsL_law (wsV RL 64 RX1 yX1_sample wsX1_sample) := goodIn_app (goodIn_of _ (by decide +kernel)) ggL_law_X1_sample
set_option maxRecDepth 20000 in
theorem ggL_law_X2_sample : GoodIn wsL_law wsX2_sample := goodIn_r _ [203, 85, 118, 59, 58, 60, 204, 54, 50, 56, 87, 88, 5, 89, 175, 176, 177, 178, 55, 106, 107, 108, 109, 49, 171, 172, 173, 174, 424, 425, 426, 427, 428, 429, 430, 431, 432, 433, 434, 435, 436, 437, 438, 439, 440, 441, 442] (by decide +kernel) (by decide +kernel)
set_option maxRecDepth 20000 in
theorem gL_law_X2_sample : GoodIn wsL_law (wsV RL 68 RX2 yX2_sample wsX2_sample) := goodIn_app (goodIn_of _ (by decide +kernel)) ggL_law_X2_sample
set_option maxRecDepth 20000 in
theorem ggL_law_X1_sort : GoodIn wsL_law wsX1_sort := goodIn_r _ [208, 209, 210, 211, 2, 212, 213, 214, 215, 216, 217, 218, 29, 131, 132, 133, 134, 27, 219, 220, 221, 222, 24, 25, 223, 21, 224, 225, 73, 74, 75, 76, 18, 69, 70, 71, 72, 163, 164, 165, 166, 26, 19, 159, 160, 161, 162, 226, 227, 228, 229, 23, 22, 139, 140, 141, 142, 28, 409, 410, 411, 412, 413, 414, 415, 416, 417, 418, 419, 420, 421, 422, 423] (by decide +kernel) (by decide +kernel)
set_option maxRecDepth 20000 in
theorem gL_law_X1_sort : GoodIn wsL_law (wsV RL 69 RX1 yX1_sort wsX1_sort) := goodIn_app (goodIn_of _ (by decide +kernel)) ggL_law_X1_sort
set_option maxRecDepth 20000 in
theorem ggL_law_X2_sort : GoodIn wsL_law wsX2_sort := goodIn_r _ [233, 85, 234, 235, 236, 5, 237, 238, 239, 240, 241, 242, 53, 52, 60, 118, 58, 243, 244, 245, 246, 247, 248, 249, 250, 251, 252, 253, 54, 254, 255, 256, 257, 55, 51, 175, 176, 177, 178, 56, 50, 106, 107, 108, 109, 49, 87, 88, 89, 171, 172, 173, 174, 258, 259, 260, 261, 262, 263, 264, 265, 57, 424, 425, 426, 427, 428, 429, 430, 431, 432, 433, 434, 435, 436, 437, 438, 439, 440, 441, 442] (by decide +kernel) (by decide +kernel)
set_option maxRecDepth 20000 in
theorem gL_law_X2_sort : GoodIn wsL_law (wsV RL 73 RX2 yX2_sort wsX2_sort) := goodIn_app (goodIn_of _ (by decide +kernel)) ggL_law_X2_sort
set_option maxRecDepth 20000 in
theorem ggL_law_L_frame : GoodIn wsL_law wsL_frame := goodIn_ca (goodIn_ca (goodIn_r _ [268, 269, 270, 271, 272, 273, 2, 274, 275, 276, 277, 278, 31, 30, 65, 66, 67, 68, 279, 280, 281, 282, 213, 283, 284, 285, 286, 23, 18, 22, 287, 288, 289, 290, 29, 24, 131, 132, 133, 134, 27, 219, 220, 221, 222, 25, 223, 21, 224, 225, 214, 73, 74, 75, 76, 69, 70, 71, 72, 163, 164, 165, 166, 26, 19, 159, 160, 161, 162, 226, 227, 228, 229, 291, 292, 293, 294, 28, 295, 296, 297, 298, 40, 299, 300, 301, 302, 409, 410, 411, 412, 413, 414, 415, 416, 417, 418, 419, 420, 421, 422, 423] (by decide +kernel) (by decide +kernel)) (goodIn_sub (fun _ h => List.mem_append_left _ (List.mem_append_right _ h)) (by decide +kernel))) (goodIn_sub (fun _ h => List.mem_append_right _ h) (by decide +kernel))
set_option maxRecDepth 20000 in
theorem gL_law_L_frame : GoodIn wsL_law (va_wsS RL 74 yL_frame wsL_frame) := goodIn_app (goodIn_of _ (by decide +kernel)) ggL_law_L_frame
set_option maxRecDepth 20000 in
theorem ggL_law_X2_frame : GoodIn wsL_law wsX2_frame := goodIn_r _ [306, 85, 249, 87, 88, 5, 89, 239, 240, 241, 242, 53, 52, 60, 118, 58, 243, 244, 245, 246, 238, 247, 248, 250, 251, 252, 253, 54, 254, 255, 256, 257, 55, 51, 175, 176, 177, 178, 56, 50, 106, 107, 108, 109, 49, 171, 172, 173, 174, 258, 259, 260, 261, 262, 263, 264, 265, 57, 424, 425, 426, 427, 428, 429, 430, 431, 432, 433, 434, 435, 436, 437, 438, 439, 440, 441, 442] (by decide +kernel) (by decide +kernel)
set_option maxRecDepth 20000 in
theorem gL_law_X2_frame : GoodIn wsL_law (wsV RL 77 RX2 yX2_frame wsX2_frame) := goodIn_app (goodIn_of _ (by decide +kernel)) ggL_law_X2_frame
set_option maxRecDepth 20000 in
theorem ggL_law_X2_thrown : GoodIn wsL_law wsX2_thrown := goodIn_r _ [310, 85, 424, 425, 426, 427, 428, 429, 430, 431, 432, 433, 434, 435, 436, 437, 438, 439, 440, 441, 442] (by decide +kernel) (by decide +kernel)
set_option maxRecDepth 20000 in
theorem gL_law_X2_thrown : GoodIn wsL_law (wsV RL 78 RX2 yX2_thrown wsX2_thrown) := goodIn_app (goodIn_of _ (by decide +kernel)) ggL_law_X2_thrown
set_option maxRecDepth 20000 in
theorem ggL_law_L_list : GoodIn wsL_law wsL_list := goodIn_ca (goodIn_ca (goodIn_r _ [313, 269, 270, 314, 315, 316, 2, 317, 275, 276, 277, 278, 31, 225, 30, 65, 66, 67, 68, 283, 284, 285, 286, 23, 18, 22, 287, 288, 289, 290, 29, 24, 131, 132, 133, 134, 27, 219, 220, 221, 222, 25, 223, 21, 224, 214, 213, 73, 74, 75, 76, 69, 70, 71, 72, 163, 164, 165, 166, 26, 19, 159, 160, 161, 162, 226, 227, 228, 229, 291, 292, 293, 294, 28, 409, 410, 411, 412, 413, 414, 415, 416, 417, 418, 419, 420, 421, 422, 423] (by decide +kernel) (by decide +kernel)) (goodIn_sub (fun _ h => List.mem_append_left _ (List.mem_append_right _ h)) (by decide +kernel))) (goodIn_sub (fun _ h => List.mem_append_right _ h) (by decide +kernel))
set_option maxRecDepth 20000 in
theorem gL_law_L_list : GoodIn wsL_law (va_wsS RL 81 yL_list wsL_list) := goodIn_app (goodIn_of _ (by decide +kernel)) ggL_law_L_list
set_option maxRecDepth 20000 in
theorem ggL_law_X2_list : GoodIn wsL_law wsX2_list := goodIn_r _ [321, 85, 249, 87, 88, 5, 89, 322, 323, 324, 325, 53, 52, 243, 244, 245, 246, 238, 247, 248, 250, 251, 252, 253, 118, 58, 54, 254, 255, 256, 257, 55, 51, 175, 176, 177, 178, 56, 50, 106, 107, 108, 109, 49, 171, 172, 173, 174, 258, 259, 260, 261, 262, 263, 264, 265, 57, 424, 425, 426, 427, 428, 429, 430, 431, 432, 433, 434, 435, 436, 437, 438, 439, 440, 441, 442] (by decide +kernel) (by decide +kernel)
set_option maxRecDepth 20000 in
theorem gL_law_X2_list : GoodIn wsL_law (wsV RL 83 RX2 yX2_list wsX2_list) := goodIn_app (goodIn_of _ (by decide +kernel)) ggL_law_X2_list
set_option maxRecDepth 20000 in
theorem ggL_law_X1_drawer : GoodIn wsL_law wsX1_drawer := goodIn_r _ [329, 31, 224, 287, 288, 289, 2, 290, 29, 24, 131, 132, 133, 134, 27, 219, 220, 221, 222, 25, 223, 21, 225, 214, 213, 73, 74, 75, 76, 18, 69, 70, 71, 72, 163, 164, 165, 166, 26, 19, 159, 160, 161, 162, 226, 227, 228, 229, 23, 22, 291, 292, 293, 294, 30, 28, 330, 331, 332, 333, 409, 410, 411, 412, 413, 414, 415, 416, 417, 418, 419, 420, 421, 422, 423] (by decide +kernel) (by decide +kernel)
set_option maxRecDepth 20000 in
theorem gL_law_X1_drawer : GoodIn wsL_law (wsV RL 84 RX1 yX1_drawer wsX1_drawer) := goodIn_app (goodIn_of _ (by decide +kernel)) ggL_law_X1_drawer
set_option maxRecDepth 20000 in
theorem ggL_law_X2_drawer : GoodIn wsL_law wsX2_drawer := goodIn_r _ [337, 85, 249, 243, 244, 245, 5, 246, 238, 247, 248, 106, 107, 108, 109, 49, 87, 88, 89, 250, 251, 252, 253, 118, 58, 54, 254, 255, 256, 257, 55, 51, 175, 176, 177, 178, 56, 50, 171, 172, 173, 174, 258, 259, 260, 261, 262, 263, 264, 265, 57, 424, 425, 426, 427, 428, 429, 430, 431, 432, 433, 434, 435, 436, 437, 438, 439, 440, 441, 442] (by decide +kernel) (by decide +kernel)
set_option maxRecDepth 20000 in
theorem gL_law_X2_drawer : GoodIn wsL_law (wsV RL 87 RX2 yX2_drawer wsX2_drawer) := goodIn_app (goodIn_of _ (by decide +kernel)) ggL_law_X2_drawer
set_option maxRecDepth 20000 in
theorem ggL_law_X1_stray : GoodIn wsL_law wsX1_stray := goodIn_r _ [341, 31, 29, 223, 131, 132, 133, 2, 134, 27, 219, 220, 221, 222, 24, 25, 21, 224, 225, 214, 213, 73, 74, 75, 76, 18, 69, 70, 71, 72, 163, 164, 165, 166, 26, 19, 159, 160, 161, 162, 226, 227, 228, 229, 23, 22, 291, 292, 293, 294, 30, 28, 330, 331, 332, 333, 409, 410, 411, 412, 413, 414, 415, 416, 417, 418, 419, 420, 421, 422, 423] (by decide +kernel) (by decide +kernel)
set_option maxRecDepth 20000 in
theorem gL_law_X1_stray : GoodIn wsL_law (wsV RL 88 RX1 yX1_stray wsX1_stray) := goodIn_app (goodIn_of _ (by decide +kernel)) ggL_law_X1_stray
set_option maxRecDepth 20000 in
theorem ggL_law_X2_stray : GoodIn wsL_law wsX2_stray := goodIn_r _ [345, 85, 249, 346, 347, 348, 5, 349, 118, 58, 243, 244, 245, 246, 238, 247, 248, 254, 255, 256, 257, 55, 54, 51, 175, 176, 177, 178, 56, 50, 106, 107, 108, 109, 49, 87, 88, 89, 171, 172, 173, 174, 258, 259, 260, 261, 262, 263, 264, 265, 57, 424, 425, 426, 427, 428, 429, 430, 431, 432, 433, 434, 435, 436, 437, 438, 439, 440, 441, 442] (by decide +kernel) (by decide +kernel)
set_option maxRecDepth 20000 in
theorem gL_law_X2_stray : GoodIn wsL_law (wsV RL 91 RX2 yX2_stray wsX2_stray) := goodIn_app (goodIn_of _ (by decide +kernel)) ggL_law_X2_stray
set_option maxRecDepth 20000 in
theorem ggL_law_X1_lies : GoodIn wsL_law wsX1_lies := goodIn_r _ [353, 123, 124, 125, 2, 126, 29, 135, 136, 137, 138, 27, 163, 164, 165, 166, 25, 26, 19, 24, 409, 410, 411, 412, 413, 414, 415, 416, 417, 418, 419, 420, 421, 422, 423] (by decide +kernel) (by decide +kernel)
set_option maxRecDepth 20000 in
theorem gL_law_X1_lies : GoodIn wsL_law (wsV RL 92 RX1 yX1_lies wsX1_lies) := goodIn_app (goodIn_of _ (by decide +kernel)) ggL_law_X1_lies
set_option maxRecDepth 20000 in
theorem ggL_law_X2_lies : GoodIn wsL_law wsX2_lies := goodIn_r _ [357, 85, 147, 148, 149, 5, 150, 118, 87, 88, 89, 151, 152, 153, 154, 58, 175, 176, 177, 178, 55, 56, 54, 50, 106, 107, 108, 109, 49, 424, 425, 426, 427, 428, 429, 430, 431, 432, 433, 434, 435, 436, 437, 438, 439, 440, 441, 442] (by decide +kernel) (by decide +kernel)
set_option maxRecDepth 20000 in
theorem gL_law_X2_lies : GoodIn wsL_law (wsV RL 95 RX2 yX2_lies wsX2_lies) := goodIn_app (goodIn_of _ (by decide +kernel)) ggL_law_X2_lies
set_option maxRecDepth 20000 in
theorem ggL_law_L_minutes : GoodIn wsL_law wsL_minutes := goodIn_ca (goodIn_r _ [360, 269, 361, 362, 363, 2, 364, 275, 276, 65, 66, 67, 68, 365, 366, 367, 368, 31, 23, 18, 22, 213, 225, 287, 288, 289, 290, 29, 24, 131, 132, 133, 134, 27, 219, 220, 221, 222, 25, 223, 21, 224, 214, 73, 74, 75, 76, 69, 70, 71, 72, 163, 164, 165, 166, 26, 19, 159, 160, 161, 162, 226, 227, 228, 229, 291, 292, 293, 294, 30, 28, 295, 296, 297, 298, 40, 299, 300, 301, 302, 369, 370, 371, 372, 373, 409, 410, 411, 412, 413, 414, 415, 416, 417, 418, 419, 420, 421, 422, 423] (by decide +kernel) (by decide +kernel)) (goodIn_sub (fun _ h => List.mem_append_left _ (List.mem_append_right _ h)) (by decide +kernel))
set_option maxRecDepth 20000 in
theorem gL_law_L_minutes : GoodIn wsL_law (va_wsS RL 96 yL_minutes wsL_minutes) := goodIn_app (goodIn_of _ (by decide +kernel)) ggL_law_L_minutes
set_option maxRecDepth 20000 in
theorem ggL_law_X2_minutes : GoodIn wsL_law wsX2_minutes := goodIn_r _ [377, 85, 247, 53, 52, 238, 87, 88, 5, 89, 239, 240, 241, 242, 60, 118, 58, 243, 244, 245, 246, 248, 249, 250, 251, 252, 253, 54, 254, 255, 256, 257, 55, 51, 175, 176, 177, 178, 56, 50, 106, 107, 108, 109, 49, 171, 172, 173, 174, 258, 259, 260, 261, 262, 263, 264, 265, 57, 322, 323, 324, 325, 424, 425, 426, 427, 428, 429, 430, 431, 432, 433, 434, 435, 436, 437, 438, 439, 440, 441, 442] (by decide +kernel) (by decide +kernel)
set_option maxRecDepth 20000 in
theorem gL_law_X2_minutes : GoodIn wsL_law (wsV RL 99 RX2 yX2_minutes wsX2_minutes) := goodIn_app (goodIn_of _ (by decide +kernel)) ggL_law_X2_minutes
set_option maxRecDepth 20000 in
theorem ggL_law_X1_teaching : GoodIn wsL_law wsX1_teaching := goodIn_r _ [381, 19, 18, 382, 383, 384, 2, 385, 40, 23, 22, 409, 410, 411, 412, 413, 414, 415, 416, 417, 418, 419, 420, 421, 422, 423] (by decide +kernel) (by decide +kernel)
set_option maxRecDepth 20000 in
theorem gL_law_X1_teaching : GoodIn wsL_law (wsV RL 100 RX1 yX1_teaching wsX1_teaching) := goodIn_app (goodIn_of _ (by decide +kernel)) ggL_law_X1_teaching
set_option maxRecDepth 20000 in
theorem ggL_law_X2_teaching : GoodIn wsL_law wsX2_teaching := goodIn_r _ [389, 85, 60, 53, 52, 50, 424, 425, 426, 427, 428, 429, 430, 431, 432, 433, 434, 435, 436, 437, 438, 439, 440, 441, 442] (by decide +kernel) (by decide +kernel)
set_option maxRecDepth 20000 in
theorem gL_law_X2_teaching : GoodIn wsL_law (wsV RL 103 RX2 yX2_teaching wsX2_teaching) := goodIn_app (goodIn_of _ (by decide +kernel)) ggL_law_X2_teaching
set_option maxRecDepth 20000 in
theorem ggL_law_L_count : GoodIn wsL_law wsL_count := goodIn_ca (goodIn_r _ [392, 270, 393, 394, 395, 2, 396, 277, 278, 40, 23, 29, 225, 224, 223, 397, 398, 399, 400, 131, 132, 133, 134, 27, 159, 160, 161, 162, 19, 24, 163, 164, 165, 166, 25, 26, 401, 402, 403, 404, 21, 22, 209, 210, 211, 212, 213, 214, 215, 216, 217, 218, 219, 220, 221, 222, 73, 74, 75, 76, 18, 69, 70, 71, 72, 226, 227, 228, 229, 139, 140, 141, 142, 28, 409, 410, 411, 412, 413, 414, 415, 416, 417, 418, 419, 420, 421, 422, 423] (by decide +kernel) (by decide +kernel)) (goodIn_sub (fun _ h => List.mem_append_right _ h) (by decide +kernel))
set_option maxRecDepth 20000 in
theorem gL_law_L_count : GoodIn wsL_law (va_wsS RL 104 yL_count wsL_count) := goodIn_app (goodIn_of _ (by decide +kernel)) ggL_law_L_count
set_option maxRecDepth 20000 in
theorem ggL_law_X2_count : GoodIn wsL_law wsX2_count := goodIn_r _ [408, 85, 118, 58, 51, 238, 60, 86, 87, 88, 5, 89, 171, 172, 173, 174, 54, 50, 175, 176, 177, 178, 55, 56, 106, 107, 108, 109, 49, 234, 235, 236, 237, 239, 240, 241, 242, 53, 52, 243, 244, 245, 246, 247, 248, 249, 250, 251, 252, 253, 254, 255, 256, 257, 258, 259, 260, 261, 262, 263, 264, 265, 57, 322, 323, 324, 325, 346, 347, 348, 349, 424, 425, 426, 427, 428, 429, 430, 431, 432, 433, 434, 435, 436, 437, 438, 439, 440, 441, 442] (by decide +kernel) (by decide +kernel)
set_option maxRecDepth 20000 in
theorem gL_law_X2_count : GoodIn wsL_law (wsV RL 106 RX2 yX2_count wsX2_count) := goodIn_app (goodIn_of _ (by decide +kernel)) ggL_law_X2_count
theorem dL_law_0 : decode cL_law 0 = .ok (.new 8, 3) := by decide +kernel
theorem dL_law_3 : decode cL_law 3 = .ok (.dup, 1) := by decide +kernel
theorem dL_law_4 : decode cL_law 4 = .ok (.aload_n 0, 1) := by decide +kernel
theorem dL_law_5 : decode cL_law 5 = .ok (.iconst 0, 1) := by decide +kernel
theorem dL_law_6 : decode cL_law 6 = .ok (.invokestatic 27, 3) := by decide +kernel
theorem dL_law_9 : decode cL_law 9 = .ok (.invokespecial 33, 3) := by decide +kernel
theorem dL_law_12 : decode cL_law 12 = .ok (.astore_n 1, 1) := by decide +kernel
theorem dL_law_13 : decode cL_law 13 = .ok (.new 36, 3) := by decide +kernel
theorem dL_law_16 : decode cL_law 16 = .ok (.dup, 1) := by decide +kernel
theorem dL_law_17 : decode cL_law 17 = .ok (.aload_n 0, 1) := by decide +kernel
theorem dL_law_18 : decode cL_law 18 = .ok (.iconst 0, 1) := by decide +kernel
theorem dL_law_19 : decode cL_law 19 = .ok (.invokestatic 27, 3) := by decide +kernel
theorem dL_law_22 : decode cL_law 22 = .ok (.invokespecial 38, 3) := by decide +kernel
theorem dL_law_25 : decode cL_law 25 = .ok (.astore_n 2, 1) := by decide +kernel
theorem dL_law_26 : decode cL_law 26 = .ok (.iconst 1, 1) := by decide +kernel
theorem dL_law_27 : decode cL_law 27 = .ok (.newarray .long, 2) := by decide +kernel
theorem dL_law_29 : decode cL_law 29 = .ok (.astore_n 3, 1) := by decide +kernel
theorem dL_law_30 : decode cL_law 30 = .ok (.iconst 1, 1) := by decide +kernel
theorem dL_law_31 : decode cL_law 31 = .ok (.istore 4, 2) := by decide +kernel
theorem dL_law_33 : decode cL_law 33 = .ok (.iload 4, 2) := by decide +kernel
theorem dL_law_35 : decode cL_law 35 = .ok (.aload_n 0, 1) := by decide +kernel
theorem dL_law_36 : decode cL_law 36 = .ok (.arraylength, 1) := by decide +kernel
theorem dL_law_37 : decode cL_law 37 = .ok (.iconst 4, 1) := by decide +kernel
theorem dL_law_38 : decode cL_law 38 = .ok (.isub, 1) := by decide +kernel
theorem dL_law_39 : decode cL_law 39 = .ok (.if_icmp .gt 767, 3) := by decide +kernel
theorem dL_law_42 : decode cL_law 42 = .ok (.aload_n 0, 1) := by decide +kernel
theorem dL_law_43 : decode cL_law 43 = .ok (.iload 4, 2) := by decide +kernel
theorem dL_law_45 : decode cL_law 45 = .ok (.iaload, 1) := by decide +kernel
theorem dL_law_46 : decode cL_law 46 = .ok (.bipush 15, 2) := by decide +kernel
theorem dL_law_48 : decode cL_law 48 = .ok (.iand, 1) := by decide +kernel
theorem dL_law_49 : decode cL_law 49 = .ok (.tableswitch 751 0 15 #[79, 116, 153, 190, 227, 264, 317, 366, 379, 447, 515, 552, 577, 602, 658, 695], 79) := by decide +kernel
theorem dL_law_128 : decode cL_law 128 = .ok (.aload_n 1, 1) := by decide +kernel
theorem dL_law_129 : decode cL_law 129 = .ok (.aload_n 0, 1) := by decide +kernel
theorem dL_law_130 : decode cL_law 130 = .ok (.iload 4, 2) := by decide +kernel
theorem dL_law_132 : decode cL_law 132 = .ok (.iconst 1, 1) := by decide +kernel
theorem dL_law_133 : decode cL_law 133 = .ok (.iadd, 1) := by decide +kernel
theorem dL_law_134 : decode cL_law 134 = .ok (.iaload, 1) := by decide +kernel
theorem dL_law_135 : decode cL_law 135 = .ok (.aload_n 0, 1) := by decide +kernel
theorem dL_law_136 : decode cL_law 136 = .ok (.iload 4, 2) := by decide +kernel
theorem dL_law_138 : decode cL_law 138 = .ok (.iconst 2, 1) := by decide +kernel
theorem dL_law_139 : decode cL_law 139 = .ok (.iadd, 1) := by decide +kernel
theorem dL_law_140 : decode cL_law 140 = .ok (.iaload, 1) := by decide +kernel
theorem dL_law_141 : decode cL_law 141 = .ok (.invokevirtual 39, 3) := by decide +kernel
theorem dL_law_144 : decode cL_law 144 = .ok (.aload_n 2, 1) := by decide +kernel
theorem dL_law_145 : decode cL_law 145 = .ok (.aload_n 0, 1) := by decide +kernel
theorem dL_law_146 : decode cL_law 146 = .ok (.iload 4, 2) := by decide +kernel
theorem dL_law_148 : decode cL_law 148 = .ok (.iconst 1, 1) := by decide +kernel
theorem dL_law_149 : decode cL_law 149 = .ok (.iadd, 1) := by decide +kernel
theorem dL_law_150 : decode cL_law 150 = .ok (.iaload, 1) := by decide +kernel
theorem dL_law_151 : decode cL_law 151 = .ok (.aload_n 0, 1) := by decide +kernel
theorem dL_law_152 : decode cL_law 152 = .ok (.iload 4, 2) := by decide +kernel
theorem dL_law_154 : decode cL_law 154 = .ok (.iconst 2, 1) := by decide +kernel
theorem dL_law_155 : decode cL_law 155 = .ok (.iadd, 1) := by decide +kernel
theorem dL_law_156 : decode cL_law 156 = .ok (.iaload, 1) := by decide +kernel
theorem dL_law_157 : decode cL_law 157 = .ok (.invokevirtual 42, 3) := by decide +kernel
theorem dL_law_160 : decode cL_law 160 = .ok (.if_icmp .eq 640, 3) := by decide +kernel
theorem dL_law_163 : decode cL_law 163 = .ok (.iconst 0, 1) := by decide +kernel
theorem dL_law_164 : decode cL_law 164 = .ok (.ireturn, 1) := by decide +kernel
theorem dL_law_165 : decode cL_law 165 = .ok (.aload_n 1, 1) := by decide +kernel
theorem dL_law_166 : decode cL_law 166 = .ok (.aload_n 0, 1) := by decide +kernel
theorem dL_law_167 : decode cL_law 167 = .ok (.iload 4, 2) := by decide +kernel
theorem dL_law_169 : decode cL_law 169 = .ok (.iconst 1, 1) := by decide +kernel
theorem dL_law_170 : decode cL_law 170 = .ok (.iadd, 1) := by decide +kernel
theorem dL_law_171 : decode cL_law 171 = .ok (.iaload, 1) := by decide +kernel
theorem dL_law_172 : decode cL_law 172 = .ok (.aload_n 0, 1) := by decide +kernel
theorem dL_law_173 : decode cL_law 173 = .ok (.iload 4, 2) := by decide +kernel
theorem dL_law_175 : decode cL_law 175 = .ok (.iconst 2, 1) := by decide +kernel
theorem dL_law_176 : decode cL_law 176 = .ok (.iadd, 1) := by decide +kernel
theorem dL_law_177 : decode cL_law 177 = .ok (.iaload, 1) := by decide +kernel
theorem dL_law_178 : decode cL_law 178 = .ok (.invokevirtual 43, 3) := by decide +kernel
theorem dL_law_181 : decode cL_law 181 = .ok (.aload_n 2, 1) := by decide +kernel
theorem dL_law_182 : decode cL_law 182 = .ok (.aload_n 0, 1) := by decide +kernel
theorem dL_law_183 : decode cL_law 183 = .ok (.iload 4, 2) := by decide +kernel
theorem dL_law_185 : decode cL_law 185 = .ok (.iconst 1, 1) := by decide +kernel
theorem dL_law_186 : decode cL_law 186 = .ok (.iadd, 1) := by decide +kernel
theorem dL_law_187 : decode cL_law 187 = .ok (.iaload, 1) := by decide +kernel
theorem dL_law_188 : decode cL_law 188 = .ok (.aload_n 0, 1) := by decide +kernel
theorem dL_law_189 : decode cL_law 189 = .ok (.iload 4, 2) := by decide +kernel
theorem dL_law_191 : decode cL_law 191 = .ok (.iconst 2, 1) := by decide +kernel
theorem dL_law_192 : decode cL_law 192 = .ok (.iadd, 1) := by decide +kernel
theorem dL_law_193 : decode cL_law 193 = .ok (.iaload, 1) := by decide +kernel
theorem dL_law_194 : decode cL_law 194 = .ok (.invokevirtual 46, 3) := by decide +kernel
theorem dL_law_197 : decode cL_law 197 = .ok (.if_icmp .eq 603, 3) := by decide +kernel
theorem dL_law_200 : decode cL_law 200 = .ok (.iconst 0, 1) := by decide +kernel
theorem dL_law_201 : decode cL_law 201 = .ok (.ireturn, 1) := by decide +kernel
theorem dL_law_202 : decode cL_law 202 = .ok (.aload_n 1, 1) := by decide +kernel
theorem dL_law_203 : decode cL_law 203 = .ok (.aload_n 0, 1) := by decide +kernel
theorem dL_law_204 : decode cL_law 204 = .ok (.iload 4, 2) := by decide +kernel
theorem dL_law_206 : decode cL_law 206 = .ok (.iconst 1, 1) := by decide +kernel
theorem dL_law_207 : decode cL_law 207 = .ok (.iadd, 1) := by decide +kernel
theorem dL_law_208 : decode cL_law 208 = .ok (.iaload, 1) := by decide +kernel
theorem dL_law_209 : decode cL_law 209 = .ok (.aload_n 0, 1) := by decide +kernel
theorem dL_law_210 : decode cL_law 210 = .ok (.iload 4, 2) := by decide +kernel
theorem dL_law_212 : decode cL_law 212 = .ok (.iconst 2, 1) := by decide +kernel
theorem dL_law_213 : decode cL_law 213 = .ok (.iadd, 1) := by decide +kernel
theorem dL_law_214 : decode cL_law 214 = .ok (.iaload, 1) := by decide +kernel
theorem dL_law_215 : decode cL_law 215 = .ok (.invokevirtual 47, 3) := by decide +kernel
theorem dL_law_218 : decode cL_law 218 = .ok (.aload_n 2, 1) := by decide +kernel
theorem dL_law_219 : decode cL_law 219 = .ok (.aload_n 0, 1) := by decide +kernel
theorem dL_law_220 : decode cL_law 220 = .ok (.iload 4, 2) := by decide +kernel
theorem dL_law_222 : decode cL_law 222 = .ok (.iconst 1, 1) := by decide +kernel
theorem dL_law_223 : decode cL_law 223 = .ok (.iadd, 1) := by decide +kernel
theorem dL_law_224 : decode cL_law 224 = .ok (.iaload, 1) := by decide +kernel
theorem dL_law_225 : decode cL_law 225 = .ok (.aload_n 0, 1) := by decide +kernel
theorem dL_law_226 : decode cL_law 226 = .ok (.iload 4, 2) := by decide +kernel
theorem dL_law_228 : decode cL_law 228 = .ok (.iconst 2, 1) := by decide +kernel
theorem dL_law_229 : decode cL_law 229 = .ok (.iadd, 1) := by decide +kernel
theorem dL_law_230 : decode cL_law 230 = .ok (.iaload, 1) := by decide +kernel
theorem dL_law_231 : decode cL_law 231 = .ok (.invokevirtual 50, 3) := by decide +kernel
theorem dL_law_234 : decode cL_law 234 = .ok (.if_icmp .eq 566, 3) := by decide +kernel
theorem dL_law_237 : decode cL_law 237 = .ok (.iconst 0, 1) := by decide +kernel
theorem dL_law_238 : decode cL_law 238 = .ok (.ireturn, 1) := by decide +kernel
theorem dL_law_239 : decode cL_law 239 = .ok (.aload_n 1, 1) := by decide +kernel
theorem dL_law_240 : decode cL_law 240 = .ok (.aload_n 0, 1) := by decide +kernel
theorem dL_law_241 : decode cL_law 241 = .ok (.iload 4, 2) := by decide +kernel
theorem dL_law_243 : decode cL_law 243 = .ok (.iconst 1, 1) := by decide +kernel
theorem dL_law_244 : decode cL_law 244 = .ok (.iadd, 1) := by decide +kernel
theorem dL_law_245 : decode cL_law 245 = .ok (.iaload, 1) := by decide +kernel
theorem dL_law_246 : decode cL_law 246 = .ok (.aload_n 0, 1) := by decide +kernel
theorem dL_law_247 : decode cL_law 247 = .ok (.iload 4, 2) := by decide +kernel
theorem dL_law_249 : decode cL_law 249 = .ok (.iconst 2, 1) := by decide +kernel
theorem dL_law_250 : decode cL_law 250 = .ok (.iadd, 1) := by decide +kernel
theorem dL_law_251 : decode cL_law 251 = .ok (.iaload, 1) := by decide +kernel
theorem dL_law_252 : decode cL_law 252 = .ok (.invokevirtual 51, 3) := by decide +kernel
theorem dL_law_255 : decode cL_law 255 = .ok (.aload_n 2, 1) := by decide +kernel
theorem dL_law_256 : decode cL_law 256 = .ok (.aload_n 0, 1) := by decide +kernel
theorem dL_law_257 : decode cL_law 257 = .ok (.iload 4, 2) := by decide +kernel
theorem dL_law_259 : decode cL_law 259 = .ok (.iconst 1, 1) := by decide +kernel
theorem dL_law_260 : decode cL_law 260 = .ok (.iadd, 1) := by decide +kernel
theorem dL_law_261 : decode cL_law 261 = .ok (.iaload, 1) := by decide +kernel
theorem dL_law_262 : decode cL_law 262 = .ok (.aload_n 0, 1) := by decide +kernel
theorem dL_law_263 : decode cL_law 263 = .ok (.iload 4, 2) := by decide +kernel
theorem dL_law_265 : decode cL_law 265 = .ok (.iconst 2, 1) := by decide +kernel
theorem dL_law_266 : decode cL_law 266 = .ok (.iadd, 1) := by decide +kernel
theorem dL_law_267 : decode cL_law 267 = .ok (.iaload, 1) := by decide +kernel
theorem dL_law_268 : decode cL_law 268 = .ok (.invokevirtual 54, 3) := by decide +kernel
theorem dL_law_271 : decode cL_law 271 = .ok (.if_icmp .eq 529, 3) := by decide +kernel
theorem dL_law_274 : decode cL_law 274 = .ok (.iconst 0, 1) := by decide +kernel
theorem dL_law_275 : decode cL_law 275 = .ok (.ireturn, 1) := by decide +kernel
theorem dL_law_276 : decode cL_law 276 = .ok (.aload_n 1, 1) := by decide +kernel
theorem dL_law_277 : decode cL_law 277 = .ok (.aload_n 0, 1) := by decide +kernel
theorem dL_law_278 : decode cL_law 278 = .ok (.iload 4, 2) := by decide +kernel
theorem dL_law_280 : decode cL_law 280 = .ok (.iconst 1, 1) := by decide +kernel
theorem dL_law_281 : decode cL_law 281 = .ok (.iadd, 1) := by decide +kernel
theorem dL_law_282 : decode cL_law 282 = .ok (.iaload, 1) := by decide +kernel
theorem dL_law_283 : decode cL_law 283 = .ok (.aload_n 0, 1) := by decide +kernel
theorem dL_law_284 : decode cL_law 284 = .ok (.iload 4, 2) := by decide +kernel
theorem dL_law_286 : decode cL_law 286 = .ok (.iconst 2, 1) := by decide +kernel
theorem dL_law_287 : decode cL_law 287 = .ok (.iadd, 1) := by decide +kernel
theorem dL_law_288 : decode cL_law 288 = .ok (.iaload, 1) := by decide +kernel
theorem dL_law_289 : decode cL_law 289 = .ok (.invokevirtual 55, 3) := by decide +kernel
theorem dL_law_292 : decode cL_law 292 = .ok (.aload_n 2, 1) := by decide +kernel
theorem dL_law_293 : decode cL_law 293 = .ok (.aload_n 0, 1) := by decide +kernel
theorem dL_law_294 : decode cL_law 294 = .ok (.iload 4, 2) := by decide +kernel
theorem dL_law_296 : decode cL_law 296 = .ok (.iconst 1, 1) := by decide +kernel
theorem dL_law_297 : decode cL_law 297 = .ok (.iadd, 1) := by decide +kernel
theorem dL_law_298 : decode cL_law 298 = .ok (.iaload, 1) := by decide +kernel
theorem dL_law_299 : decode cL_law 299 = .ok (.aload_n 0, 1) := by decide +kernel
theorem dL_law_300 : decode cL_law 300 = .ok (.iload 4, 2) := by decide +kernel
theorem dL_law_302 : decode cL_law 302 = .ok (.iconst 2, 1) := by decide +kernel
theorem dL_law_303 : decode cL_law 303 = .ok (.iadd, 1) := by decide +kernel
theorem dL_law_304 : decode cL_law 304 = .ok (.iaload, 1) := by decide +kernel
theorem dL_law_305 : decode cL_law 305 = .ok (.invokevirtual 58, 3) := by decide +kernel
theorem dL_law_308 : decode cL_law 308 = .ok (.if_icmp .eq 492, 3) := by decide +kernel
theorem dL_law_311 : decode cL_law 311 = .ok (.iconst 0, 1) := by decide +kernel
theorem dL_law_312 : decode cL_law 312 = .ok (.ireturn, 1) := by decide +kernel
theorem dL_law_313 : decode cL_law 313 = .ok (.aload_n 1, 1) := by decide +kernel
theorem dL_law_314 : decode cL_law 314 = .ok (.aload_n 0, 1) := by decide +kernel
theorem dL_law_315 : decode cL_law 315 = .ok (.iload 4, 2) := by decide +kernel
theorem dL_law_317 : decode cL_law 317 = .ok (.iconst 1, 1) := by decide +kernel
theorem dL_law_318 : decode cL_law 318 = .ok (.iadd, 1) := by decide +kernel
theorem dL_law_319 : decode cL_law 319 = .ok (.iaload, 1) := by decide +kernel
theorem dL_law_320 : decode cL_law 320 = .ok (.aload_n 0, 1) := by decide +kernel
theorem dL_law_321 : decode cL_law 321 = .ok (.iload 4, 2) := by decide +kernel
theorem dL_law_323 : decode cL_law 323 = .ok (.iconst 2, 1) := by decide +kernel
theorem dL_law_324 : decode cL_law 324 = .ok (.iadd, 1) := by decide +kernel
theorem dL_law_325 : decode cL_law 325 = .ok (.iaload, 1) := by decide +kernel
theorem dL_law_326 : decode cL_law 326 = .ok (.ifCond .eq 7, 3) := by decide +kernel
theorem dL_law_329 : decode cL_law 329 = .ok (.iconst 1, 1) := by decide +kernel
theorem dL_law_330 : decode cL_law 330 = .ok (.goto 4, 3) := by decide +kernel
theorem dL_law_333 : decode cL_law 333 = .ok (.iconst 0, 1) := by decide +kernel
theorem dL_law_334 : decode cL_law 334 = .ok (.invokevirtual 59, 3) := by decide +kernel
theorem dL_law_337 : decode cL_law 337 = .ok (.aload_n 2, 1) := by decide +kernel
theorem dL_law_338 : decode cL_law 338 = .ok (.aload_n 0, 1) := by decide +kernel
theorem dL_law_339 : decode cL_law 339 = .ok (.iload 4, 2) := by decide +kernel
theorem dL_law_341 : decode cL_law 341 = .ok (.iconst 1, 1) := by decide +kernel
theorem dL_law_342 : decode cL_law 342 = .ok (.iadd, 1) := by decide +kernel
theorem dL_law_343 : decode cL_law 343 = .ok (.iaload, 1) := by decide +kernel
theorem dL_law_344 : decode cL_law 344 = .ok (.aload_n 0, 1) := by decide +kernel
theorem dL_law_345 : decode cL_law 345 = .ok (.iload 4, 2) := by decide +kernel
theorem dL_law_347 : decode cL_law 347 = .ok (.iconst 2, 1) := by decide +kernel
theorem dL_law_348 : decode cL_law 348 = .ok (.iadd, 1) := by decide +kernel
theorem dL_law_349 : decode cL_law 349 = .ok (.iaload, 1) := by decide +kernel
theorem dL_law_350 : decode cL_law 350 = .ok (.ifCond .eq 7, 3) := by decide +kernel
theorem dL_law_353 : decode cL_law 353 = .ok (.iconst 1, 1) := by decide +kernel
theorem dL_law_354 : decode cL_law 354 = .ok (.goto 4, 3) := by decide +kernel
theorem dL_law_357 : decode cL_law 357 = .ok (.iconst 0, 1) := by decide +kernel
theorem dL_law_358 : decode cL_law 358 = .ok (.invokevirtual 63, 3) := by decide +kernel
theorem dL_law_361 : decode cL_law 361 = .ok (.if_icmp .eq 439, 3) := by decide +kernel
theorem dL_law_364 : decode cL_law 364 = .ok (.iconst 0, 1) := by decide +kernel
theorem dL_law_365 : decode cL_law 365 = .ok (.ireturn, 1) := by decide +kernel
theorem dL_law_366 : decode cL_law 366 = .ok (.aload_n 1, 1) := by decide +kernel
theorem dL_law_367 : decode cL_law 367 = .ok (.aload_n 0, 1) := by decide +kernel
theorem dL_law_368 : decode cL_law 368 = .ok (.iload 4, 2) := by decide +kernel
theorem dL_law_370 : decode cL_law 370 = .ok (.iconst 1, 1) := by decide +kernel
theorem dL_law_371 : decode cL_law 371 = .ok (.iadd, 1) := by decide +kernel
theorem dL_law_372 : decode cL_law 372 = .ok (.iaload, 1) := by decide +kernel
theorem dL_law_373 : decode cL_law 373 = .ok (.aload_n 0, 1) := by decide +kernel
theorem dL_law_374 : decode cL_law 374 = .ok (.iload 4, 2) := by decide +kernel
theorem dL_law_376 : decode cL_law 376 = .ok (.iconst 2, 1) := by decide +kernel
theorem dL_law_377 : decode cL_law 377 = .ok (.iadd, 1) := by decide +kernel
theorem dL_law_378 : decode cL_law 378 = .ok (.iaload, 1) := by decide +kernel
theorem dL_law_379 : decode cL_law 379 = .ok (.aload_n 0, 1) := by decide +kernel
theorem dL_law_380 : decode cL_law 380 = .ok (.iload 4, 2) := by decide +kernel
theorem dL_law_382 : decode cL_law 382 = .ok (.iconst 3, 1) := by decide +kernel
theorem dL_law_383 : decode cL_law 383 = .ok (.iadd, 1) := by decide +kernel
theorem dL_law_384 : decode cL_law 384 = .ok (.iaload, 1) := by decide +kernel
theorem dL_law_385 : decode cL_law 385 = .ok (.invokevirtual 64, 3) := by decide +kernel
theorem dL_law_388 : decode cL_law 388 = .ok (.aload_n 2, 1) := by decide +kernel
theorem dL_law_389 : decode cL_law 389 = .ok (.aload_n 0, 1) := by decide +kernel
theorem dL_law_390 : decode cL_law 390 = .ok (.iload 4, 2) := by decide +kernel
theorem dL_law_392 : decode cL_law 392 = .ok (.iconst 1, 1) := by decide +kernel
theorem dL_law_393 : decode cL_law 393 = .ok (.iadd, 1) := by decide +kernel
theorem dL_law_394 : decode cL_law 394 = .ok (.iaload, 1) := by decide +kernel
theorem dL_law_395 : decode cL_law 395 = .ok (.aload_n 0, 1) := by decide +kernel
theorem dL_law_396 : decode cL_law 396 = .ok (.iload 4, 2) := by decide +kernel
theorem dL_law_398 : decode cL_law 398 = .ok (.iconst 2, 1) := by decide +kernel
theorem dL_law_399 : decode cL_law 399 = .ok (.iadd, 1) := by decide +kernel
theorem dL_law_400 : decode cL_law 400 = .ok (.iaload, 1) := by decide +kernel
theorem dL_law_401 : decode cL_law 401 = .ok (.aload_n 0, 1) := by decide +kernel
theorem dL_law_402 : decode cL_law 402 = .ok (.iload 4, 2) := by decide +kernel
theorem dL_law_404 : decode cL_law 404 = .ok (.iconst 3, 1) := by decide +kernel
theorem dL_law_405 : decode cL_law 405 = .ok (.iadd, 1) := by decide +kernel
theorem dL_law_406 : decode cL_law 406 = .ok (.iaload, 1) := by decide +kernel
theorem dL_law_407 : decode cL_law 407 = .ok (.invokevirtual 68, 3) := by decide +kernel
theorem dL_law_410 : decode cL_law 410 = .ok (.if_icmp .eq 390, 3) := by decide +kernel
theorem dL_law_413 : decode cL_law 413 = .ok (.iconst 0, 1) := by decide +kernel
theorem dL_law_414 : decode cL_law 414 = .ok (.ireturn, 1) := by decide +kernel
theorem dL_law_415 : decode cL_law 415 = .ok (.aload_n 1, 1) := by decide +kernel
theorem dL_law_416 : decode cL_law 416 = .ok (.invokevirtual 69, 3) := by decide +kernel
theorem dL_law_419 : decode cL_law 419 = .ok (.aload_n 2, 1) := by decide +kernel
theorem dL_law_420 : decode cL_law 420 = .ok (.invokevirtual 73, 3) := by decide +kernel
theorem dL_law_423 : decode cL_law 423 = .ok (.if_icmp .eq 377, 3) := by decide +kernel
theorem dL_law_426 : decode cL_law 426 = .ok (.iconst 0, 1) := by decide +kernel
theorem dL_law_427 : decode cL_law 427 = .ok (.ireturn, 1) := by decide +kernel
theorem dL_law_428 : decode cL_law 428 = .ok (.aload_n 1, 1) := by decide +kernel
theorem dL_law_429 : decode cL_law 429 = .ok (.aload_n 0, 1) := by decide +kernel
theorem dL_law_430 : decode cL_law 430 = .ok (.iload 4, 2) := by decide +kernel
theorem dL_law_432 : decode cL_law 432 = .ok (.iconst 1, 1) := by decide +kernel
theorem dL_law_433 : decode cL_law 433 = .ok (.iadd, 1) := by decide +kernel
theorem dL_law_434 : decode cL_law 434 = .ok (.iaload, 1) := by decide +kernel
theorem dL_law_435 : decode cL_law 435 = .ok (.aload_n 0, 1) := by decide +kernel
theorem dL_law_436 : decode cL_law 436 = .ok (.iload 4, 2) := by decide +kernel
theorem dL_law_438 : decode cL_law 438 = .ok (.iconst 2, 1) := by decide +kernel
theorem dL_law_439 : decode cL_law 439 = .ok (.iadd, 1) := by decide +kernel
theorem dL_law_440 : decode cL_law 440 = .ok (.iaload, 1) := by decide +kernel
theorem dL_law_441 : decode cL_law 441 = .ok (.aload_n 3, 1) := by decide +kernel
theorem dL_law_442 : decode cL_law 442 = .ok (.invokestatic 74, 3) := by decide +kernel
theorem dL_law_445 : decode cL_law 445 = .ok (.istore 5, 2) := by decide +kernel
theorem dL_law_447 : decode cL_law 447 = .ok (.aload_n 2, 1) := by decide +kernel
theorem dL_law_448 : decode cL_law 448 = .ok (.aload_n 0, 1) := by decide +kernel
theorem dL_law_449 : decode cL_law 449 = .ok (.iload 4, 2) := by decide +kernel
theorem dL_law_451 : decode cL_law 451 = .ok (.iconst 1, 1) := by decide +kernel
theorem dL_law_452 : decode cL_law 452 = .ok (.iadd, 1) := by decide +kernel
theorem dL_law_453 : decode cL_law 453 = .ok (.iaload, 1) := by decide +kernel
theorem dL_law_454 : decode cL_law 454 = .ok (.aload_n 0, 1) := by decide +kernel
theorem dL_law_455 : decode cL_law 455 = .ok (.iload 4, 2) := by decide +kernel
theorem dL_law_457 : decode cL_law 457 = .ok (.iconst 2, 1) := by decide +kernel
theorem dL_law_458 : decode cL_law 458 = .ok (.iadd, 1) := by decide +kernel
theorem dL_law_459 : decode cL_law 459 = .ok (.iaload, 1) := by decide +kernel
theorem dL_law_460 : decode cL_law 460 = .ok (.invokevirtual 77, 3) := by decide +kernel
theorem dL_law_463 : decode cL_law 463 = .ok (.istore 6, 2) := by decide +kernel
theorem dL_law_465 : decode cL_law 465 = .ok (.aload_n 2, 1) := by decide +kernel
theorem dL_law_466 : decode cL_law 466 = .ok (.invokevirtual 78, 3) := by decide +kernel
theorem dL_law_469 : decode cL_law 469 = .ok (.iload 5, 2) := by decide +kernel
theorem dL_law_471 : decode cL_law 471 = .ok (.if_icmp .eq 5, 3) := by decide +kernel
theorem dL_law_474 : decode cL_law 474 = .ok (.iconst 0, 1) := by decide +kernel
theorem dL_law_475 : decode cL_law 475 = .ok (.ireturn, 1) := by decide +kernel
theorem dL_law_476 : decode cL_law 476 = .ok (.iload 5, 2) := by decide +kernel
theorem dL_law_478 : decode cL_law 478 = .ok (.ifCond .ne 15, 3) := by decide +kernel
theorem dL_law_481 : decode cL_law 481 = .ok (.aload_n 3, 1) := by decide +kernel
theorem dL_law_482 : decode cL_law 482 = .ok (.iconst 0, 1) := by decide +kernel
theorem dL_law_483 : decode cL_law 483 = .ok (.laload, 1) := by decide +kernel
theorem dL_law_484 : decode cL_law 484 = .ok (.iload 6, 2) := by decide +kernel
theorem dL_law_486 : decode cL_law 486 = .ok (.i2l, 1) := by decide +kernel
theorem dL_law_487 : decode cL_law 487 = .ok (.lcmp, 1) := by decide +kernel
theorem dL_law_488 : decode cL_law 488 = .ok (.ifCond .eq 5, 3) := by decide +kernel
theorem dL_law_491 : decode cL_law 491 = .ok (.iconst 0, 1) := by decide +kernel
theorem dL_law_492 : decode cL_law 492 = .ok (.ireturn, 1) := by decide +kernel
theorem dL_law_493 : decode cL_law 493 = .ok (.goto 307, 3) := by decide +kernel
theorem dL_law_496 : decode cL_law 496 = .ok (.aload_n 1, 1) := by decide +kernel
theorem dL_law_497 : decode cL_law 497 = .ok (.aload_n 0, 1) := by decide +kernel
theorem dL_law_498 : decode cL_law 498 = .ok (.iload 4, 2) := by decide +kernel
theorem dL_law_500 : decode cL_law 500 = .ok (.iconst 1, 1) := by decide +kernel
theorem dL_law_501 : decode cL_law 501 = .ok (.iadd, 1) := by decide +kernel
theorem dL_law_502 : decode cL_law 502 = .ok (.iaload, 1) := by decide +kernel
theorem dL_law_503 : decode cL_law 503 = .ok (.aload_n 0, 1) := by decide +kernel
theorem dL_law_504 : decode cL_law 504 = .ok (.iload 4, 2) := by decide +kernel
theorem dL_law_506 : decode cL_law 506 = .ok (.iconst 2, 1) := by decide +kernel
theorem dL_law_507 : decode cL_law 507 = .ok (.iadd, 1) := by decide +kernel
theorem dL_law_508 : decode cL_law 508 = .ok (.iaload, 1) := by decide +kernel
theorem dL_law_509 : decode cL_law 509 = .ok (.aload_n 3, 1) := by decide +kernel
theorem dL_law_510 : decode cL_law 510 = .ok (.invokestatic 81, 3) := by decide +kernel
theorem dL_law_513 : decode cL_law 513 = .ok (.istore 5, 2) := by decide +kernel
theorem dL_law_515 : decode cL_law 515 = .ok (.aload_n 2, 1) := by decide +kernel
theorem dL_law_516 : decode cL_law 516 = .ok (.aload_n 0, 1) := by decide +kernel
theorem dL_law_517 : decode cL_law 517 = .ok (.iload 4, 2) := by decide +kernel
theorem dL_law_519 : decode cL_law 519 = .ok (.iconst 1, 1) := by decide +kernel
theorem dL_law_520 : decode cL_law 520 = .ok (.iadd, 1) := by decide +kernel
theorem dL_law_521 : decode cL_law 521 = .ok (.iaload, 1) := by decide +kernel
theorem dL_law_522 : decode cL_law 522 = .ok (.aload_n 0, 1) := by decide +kernel
theorem dL_law_523 : decode cL_law 523 = .ok (.iload 4, 2) := by decide +kernel
theorem dL_law_525 : decode cL_law 525 = .ok (.iconst 2, 1) := by decide +kernel
theorem dL_law_526 : decode cL_law 526 = .ok (.iadd, 1) := by decide +kernel
theorem dL_law_527 : decode cL_law 527 = .ok (.iaload, 1) := by decide +kernel
theorem dL_law_528 : decode cL_law 528 = .ok (.invokevirtual 83, 3) := by decide +kernel
theorem dL_law_531 : decode cL_law 531 = .ok (.istore 6, 2) := by decide +kernel
theorem dL_law_533 : decode cL_law 533 = .ok (.aload_n 2, 1) := by decide +kernel
theorem dL_law_534 : decode cL_law 534 = .ok (.invokevirtual 78, 3) := by decide +kernel
theorem dL_law_537 : decode cL_law 537 = .ok (.iload 5, 2) := by decide +kernel
theorem dL_law_539 : decode cL_law 539 = .ok (.if_icmp .eq 5, 3) := by decide +kernel
theorem dL_law_542 : decode cL_law 542 = .ok (.iconst 0, 1) := by decide +kernel
theorem dL_law_543 : decode cL_law 543 = .ok (.ireturn, 1) := by decide +kernel
theorem dL_law_544 : decode cL_law 544 = .ok (.iload 5, 2) := by decide +kernel
theorem dL_law_546 : decode cL_law 546 = .ok (.ifCond .ne 15, 3) := by decide +kernel
theorem dL_law_549 : decode cL_law 549 = .ok (.aload_n 3, 1) := by decide +kernel
theorem dL_law_550 : decode cL_law 550 = .ok (.iconst 0, 1) := by decide +kernel
theorem dL_law_551 : decode cL_law 551 = .ok (.laload, 1) := by decide +kernel
theorem dL_law_552 : decode cL_law 552 = .ok (.iload 6, 2) := by decide +kernel
theorem dL_law_554 : decode cL_law 554 = .ok (.i2l, 1) := by decide +kernel
theorem dL_law_555 : decode cL_law 555 = .ok (.lcmp, 1) := by decide +kernel
theorem dL_law_556 : decode cL_law 556 = .ok (.ifCond .eq 5, 3) := by decide +kernel
theorem dL_law_559 : decode cL_law 559 = .ok (.iconst 0, 1) := by decide +kernel
theorem dL_law_560 : decode cL_law 560 = .ok (.ireturn, 1) := by decide +kernel
theorem dL_law_561 : decode cL_law 561 = .ok (.goto 239, 3) := by decide +kernel
theorem dL_law_564 : decode cL_law 564 = .ok (.aload_n 1, 1) := by decide +kernel
theorem dL_law_565 : decode cL_law 565 = .ok (.aload_n 0, 1) := by decide +kernel
theorem dL_law_566 : decode cL_law 566 = .ok (.iload 4, 2) := by decide +kernel
theorem dL_law_568 : decode cL_law 568 = .ok (.iconst 1, 1) := by decide +kernel
theorem dL_law_569 : decode cL_law 569 = .ok (.iadd, 1) := by decide +kernel
theorem dL_law_570 : decode cL_law 570 = .ok (.iaload, 1) := by decide +kernel
theorem dL_law_571 : decode cL_law 571 = .ok (.aload_n 0, 1) := by decide +kernel
theorem dL_law_572 : decode cL_law 572 = .ok (.iload 4, 2) := by decide +kernel
theorem dL_law_574 : decode cL_law 574 = .ok (.iconst 2, 1) := by decide +kernel
theorem dL_law_575 : decode cL_law 575 = .ok (.iadd, 1) := by decide +kernel
theorem dL_law_576 : decode cL_law 576 = .ok (.iaload, 1) := by decide +kernel
theorem dL_law_577 : decode cL_law 577 = .ok (.invokevirtual 84, 3) := by decide +kernel
theorem dL_law_580 : decode cL_law 580 = .ok (.aload_n 2, 1) := by decide +kernel
theorem dL_law_581 : decode cL_law 581 = .ok (.aload_n 0, 1) := by decide +kernel
theorem dL_law_582 : decode cL_law 582 = .ok (.iload 4, 2) := by decide +kernel
theorem dL_law_584 : decode cL_law 584 = .ok (.iconst 1, 1) := by decide +kernel
theorem dL_law_585 : decode cL_law 585 = .ok (.iadd, 1) := by decide +kernel
theorem dL_law_586 : decode cL_law 586 = .ok (.iaload, 1) := by decide +kernel
theorem dL_law_587 : decode cL_law 587 = .ok (.aload_n 0, 1) := by decide +kernel
theorem dL_law_588 : decode cL_law 588 = .ok (.iload 4, 2) := by decide +kernel
theorem dL_law_590 : decode cL_law 590 = .ok (.iconst 2, 1) := by decide +kernel
theorem dL_law_591 : decode cL_law 591 = .ok (.iadd, 1) := by decide +kernel
theorem dL_law_592 : decode cL_law 592 = .ok (.iaload, 1) := by decide +kernel
theorem dL_law_593 : decode cL_law 593 = .ok (.invokevirtual 87, 3) := by decide +kernel
theorem dL_law_596 : decode cL_law 596 = .ok (.if_icmp .eq 204, 3) := by decide +kernel
theorem dL_law_599 : decode cL_law 599 = .ok (.iconst 0, 1) := by decide +kernel
theorem dL_law_600 : decode cL_law 600 = .ok (.ireturn, 1) := by decide +kernel
theorem dL_law_601 : decode cL_law 601 = .ok (.aload_n 1, 1) := by decide +kernel
theorem dL_law_602 : decode cL_law 602 = .ok (.aload_n 0, 1) := by decide +kernel
theorem dL_law_603 : decode cL_law 603 = .ok (.iload 4, 2) := by decide +kernel
theorem dL_law_605 : decode cL_law 605 = .ok (.iconst 1, 1) := by decide +kernel
theorem dL_law_606 : decode cL_law 606 = .ok (.iadd, 1) := by decide +kernel
theorem dL_law_607 : decode cL_law 607 = .ok (.iaload, 1) := by decide +kernel
theorem dL_law_608 : decode cL_law 608 = .ok (.invokevirtual 88, 3) := by decide +kernel
theorem dL_law_611 : decode cL_law 611 = .ok (.aload_n 2, 1) := by decide +kernel
theorem dL_law_612 : decode cL_law 612 = .ok (.aload_n 0, 1) := by decide +kernel
theorem dL_law_613 : decode cL_law 613 = .ok (.iload 4, 2) := by decide +kernel
theorem dL_law_615 : decode cL_law 615 = .ok (.iconst 1, 1) := by decide +kernel
theorem dL_law_616 : decode cL_law 616 = .ok (.iadd, 1) := by decide +kernel
theorem dL_law_617 : decode cL_law 617 = .ok (.iaload, 1) := by decide +kernel
theorem dL_law_618 : decode cL_law 618 = .ok (.invokevirtual 91, 3) := by decide +kernel
theorem dL_law_621 : decode cL_law 621 = .ok (.if_icmp .eq 179, 3) := by decide +kernel
theorem dL_law_624 : decode cL_law 624 = .ok (.iconst 0, 1) := by decide +kernel
theorem dL_law_625 : decode cL_law 625 = .ok (.ireturn, 1) := by decide +kernel
theorem dL_law_626 : decode cL_law 626 = .ok (.aload_n 1, 1) := by decide +kernel
theorem dL_law_627 : decode cL_law 627 = .ok (.aload_n 0, 1) := by decide +kernel
theorem dL_law_628 : decode cL_law 628 = .ok (.iload 4, 2) := by decide +kernel
theorem dL_law_630 : decode cL_law 630 = .ok (.iconst 1, 1) := by decide +kernel
theorem dL_law_631 : decode cL_law 631 = .ok (.iadd, 1) := by decide +kernel
theorem dL_law_632 : decode cL_law 632 = .ok (.iaload, 1) := by decide +kernel
theorem dL_law_633 : decode cL_law 633 = .ok (.invokevirtual 92, 3) := by decide +kernel
theorem dL_law_636 : decode cL_law 636 = .ok (.aload_n 2, 1) := by decide +kernel
theorem dL_law_637 : decode cL_law 637 = .ok (.aload_n 0, 1) := by decide +kernel
theorem dL_law_638 : decode cL_law 638 = .ok (.iload 4, 2) := by decide +kernel
theorem dL_law_640 : decode cL_law 640 = .ok (.iconst 1, 1) := by decide +kernel
theorem dL_law_641 : decode cL_law 641 = .ok (.iadd, 1) := by decide +kernel
theorem dL_law_642 : decode cL_law 642 = .ok (.iaload, 1) := by decide +kernel
theorem dL_law_643 : decode cL_law 643 = .ok (.invokevirtual 95, 3) := by decide +kernel
theorem dL_law_646 : decode cL_law 646 = .ok (.if_icmp .eq 154, 3) := by decide +kernel
theorem dL_law_649 : decode cL_law 649 = .ok (.iconst 0, 1) := by decide +kernel
theorem dL_law_650 : decode cL_law 650 = .ok (.ireturn, 1) := by decide +kernel
theorem dL_law_651 : decode cL_law 651 = .ok (.aload_n 1, 1) := by decide +kernel
theorem dL_law_652 : decode cL_law 652 = .ok (.aload_n 0, 1) := by decide +kernel
theorem dL_law_653 : decode cL_law 653 = .ok (.iload 4, 2) := by decide +kernel
theorem dL_law_655 : decode cL_law 655 = .ok (.iconst 1, 1) := by decide +kernel
theorem dL_law_656 : decode cL_law 656 = .ok (.iadd, 1) := by decide +kernel
theorem dL_law_657 : decode cL_law 657 = .ok (.iaload, 1) := by decide +kernel
theorem dL_law_658 : decode cL_law 658 = .ok (.aload_n 3, 1) := by decide +kernel
theorem dL_law_659 : decode cL_law 659 = .ok (.invokestatic 96, 3) := by decide +kernel
theorem dL_law_662 : decode cL_law 662 = .ok (.istore 5, 2) := by decide +kernel
theorem dL_law_664 : decode cL_law 664 = .ok (.aload_n 2, 1) := by decide +kernel
theorem dL_law_665 : decode cL_law 665 = .ok (.aload_n 0, 1) := by decide +kernel
theorem dL_law_666 : decode cL_law 666 = .ok (.iload 4, 2) := by decide +kernel
theorem dL_law_668 : decode cL_law 668 = .ok (.iconst 1, 1) := by decide +kernel
theorem dL_law_669 : decode cL_law 669 = .ok (.iadd, 1) := by decide +kernel
theorem dL_law_670 : decode cL_law 670 = .ok (.iaload, 1) := by decide +kernel
theorem dL_law_671 : decode cL_law 671 = .ok (.invokevirtual 99, 3) := by decide +kernel
theorem dL_law_674 : decode cL_law 674 = .ok (.istore 6, 2) := by decide +kernel
theorem dL_law_676 : decode cL_law 676 = .ok (.aload_n 2, 1) := by decide +kernel
theorem dL_law_677 : decode cL_law 677 = .ok (.invokevirtual 78, 3) := by decide +kernel
theorem dL_law_680 : decode cL_law 680 = .ok (.iload 5, 2) := by decide +kernel
theorem dL_law_682 : decode cL_law 682 = .ok (.if_icmp .eq 5, 3) := by decide +kernel
theorem dL_law_685 : decode cL_law 685 = .ok (.iconst 0, 1) := by decide +kernel
theorem dL_law_686 : decode cL_law 686 = .ok (.ireturn, 1) := by decide +kernel
theorem dL_law_687 : decode cL_law 687 = .ok (.iload 5, 2) := by decide +kernel
theorem dL_law_689 : decode cL_law 689 = .ok (.ifCond .ne 15, 3) := by decide +kernel
theorem dL_law_692 : decode cL_law 692 = .ok (.aload_n 3, 1) := by decide +kernel
theorem dL_law_693 : decode cL_law 693 = .ok (.iconst 0, 1) := by decide +kernel
theorem dL_law_694 : decode cL_law 694 = .ok (.laload, 1) := by decide +kernel
theorem dL_law_695 : decode cL_law 695 = .ok (.iload 6, 2) := by decide +kernel
theorem dL_law_697 : decode cL_law 697 = .ok (.i2l, 1) := by decide +kernel
theorem dL_law_698 : decode cL_law 698 = .ok (.lcmp, 1) := by decide +kernel
theorem dL_law_699 : decode cL_law 699 = .ok (.ifCond .eq 5, 3) := by decide +kernel
theorem dL_law_702 : decode cL_law 702 = .ok (.iconst 0, 1) := by decide +kernel
theorem dL_law_703 : decode cL_law 703 = .ok (.ireturn, 1) := by decide +kernel
theorem dL_law_704 : decode cL_law 704 = .ok (.goto 96, 3) := by decide +kernel
theorem dL_law_707 : decode cL_law 707 = .ok (.aload_n 1, 1) := by decide +kernel
theorem dL_law_708 : decode cL_law 708 = .ok (.aload_n 0, 1) := by decide +kernel
theorem dL_law_709 : decode cL_law 709 = .ok (.iload 4, 2) := by decide +kernel
theorem dL_law_711 : decode cL_law 711 = .ok (.iconst 1, 1) := by decide +kernel
theorem dL_law_712 : decode cL_law 712 = .ok (.iadd, 1) := by decide +kernel
theorem dL_law_713 : decode cL_law 713 = .ok (.iaload, 1) := by decide +kernel
theorem dL_law_714 : decode cL_law 714 = .ok (.aload_n 0, 1) := by decide +kernel
theorem dL_law_715 : decode cL_law 715 = .ok (.iload 4, 2) := by decide +kernel
theorem dL_law_717 : decode cL_law 717 = .ok (.iconst 2, 1) := by decide +kernel
theorem dL_law_718 : decode cL_law 718 = .ok (.iadd, 1) := by decide +kernel
theorem dL_law_719 : decode cL_law 719 = .ok (.iaload, 1) := by decide +kernel
theorem dL_law_720 : decode cL_law 720 = .ok (.invokevirtual 100, 3) := by decide +kernel
theorem dL_law_723 : decode cL_law 723 = .ok (.aload_n 2, 1) := by decide +kernel
theorem dL_law_724 : decode cL_law 724 = .ok (.aload_n 0, 1) := by decide +kernel
theorem dL_law_725 : decode cL_law 725 = .ok (.iload 4, 2) := by decide +kernel
theorem dL_law_727 : decode cL_law 727 = .ok (.iconst 1, 1) := by decide +kernel
theorem dL_law_728 : decode cL_law 728 = .ok (.iadd, 1) := by decide +kernel
theorem dL_law_729 : decode cL_law 729 = .ok (.iaload, 1) := by decide +kernel
theorem dL_law_730 : decode cL_law 730 = .ok (.aload_n 0, 1) := by decide +kernel
theorem dL_law_731 : decode cL_law 731 = .ok (.iload 4, 2) := by decide +kernel
theorem dL_law_733 : decode cL_law 733 = .ok (.iconst 2, 1) := by decide +kernel
theorem dL_law_734 : decode cL_law 734 = .ok (.iadd, 1) := by decide +kernel
theorem dL_law_735 : decode cL_law 735 = .ok (.iaload, 1) := by decide +kernel
theorem dL_law_736 : decode cL_law 736 = .ok (.invokevirtual 103, 3) := by decide +kernel
theorem dL_law_739 : decode cL_law 739 = .ok (.if_icmp .eq 61, 3) := by decide +kernel
theorem dL_law_742 : decode cL_law 742 = .ok (.iconst 0, 1) := by decide +kernel
theorem dL_law_743 : decode cL_law 743 = .ok (.ireturn, 1) := by decide +kernel
theorem dL_law_744 : decode cL_law 744 = .ok (.aload_n 1, 1) := by decide +kernel
theorem dL_law_745 : decode cL_law 745 = .ok (.aload_n 0, 1) := by decide +kernel
theorem dL_law_746 : decode cL_law 746 = .ok (.iload 4, 2) := by decide +kernel
theorem dL_law_748 : decode cL_law 748 = .ok (.iconst 1, 1) := by decide +kernel
theorem dL_law_749 : decode cL_law 749 = .ok (.iadd, 1) := by decide +kernel
theorem dL_law_750 : decode cL_law 750 = .ok (.iaload, 1) := by decide +kernel
theorem dL_law_751 : decode cL_law 751 = .ok (.aload_n 3, 1) := by decide +kernel
theorem dL_law_752 : decode cL_law 752 = .ok (.invokestatic 104, 3) := by decide +kernel
theorem dL_law_755 : decode cL_law 755 = .ok (.istore 5, 2) := by decide +kernel
theorem dL_law_757 : decode cL_law 757 = .ok (.aload_n 2, 1) := by decide +kernel
theorem dL_law_758 : decode cL_law 758 = .ok (.aload_n 0, 1) := by decide +kernel
theorem dL_law_759 : decode cL_law 759 = .ok (.iload 4, 2) := by decide +kernel
theorem dL_law_761 : decode cL_law 761 = .ok (.iconst 1, 1) := by decide +kernel
theorem dL_law_762 : decode cL_law 762 = .ok (.iadd, 1) := by decide +kernel
theorem dL_law_763 : decode cL_law 763 = .ok (.iaload, 1) := by decide +kernel
theorem dL_law_764 : decode cL_law 764 = .ok (.invokevirtual 106, 3) := by decide +kernel
theorem dL_law_767 : decode cL_law 767 = .ok (.istore 6, 2) := by decide +kernel
theorem dL_law_769 : decode cL_law 769 = .ok (.aload_n 2, 1) := by decide +kernel
theorem dL_law_770 : decode cL_law 770 = .ok (.invokevirtual 78, 3) := by decide +kernel
theorem dL_law_773 : decode cL_law 773 = .ok (.iload 5, 2) := by decide +kernel
theorem dL_law_775 : decode cL_law 775 = .ok (.if_icmp .eq 5, 3) := by decide +kernel
theorem dL_law_778 : decode cL_law 778 = .ok (.iconst 0, 1) := by decide +kernel
theorem dL_law_779 : decode cL_law 779 = .ok (.ireturn, 1) := by decide +kernel
theorem dL_law_780 : decode cL_law 780 = .ok (.iload 5, 2) := by decide +kernel
theorem dL_law_782 : decode cL_law 782 = .ok (.ifCond .ne 15, 3) := by decide +kernel
theorem dL_law_785 : decode cL_law 785 = .ok (.aload_n 3, 1) := by decide +kernel
theorem dL_law_786 : decode cL_law 786 = .ok (.iconst 0, 1) := by decide +kernel
theorem dL_law_787 : decode cL_law 787 = .ok (.laload, 1) := by decide +kernel
theorem dL_law_788 : decode cL_law 788 = .ok (.iload 6, 2) := by decide +kernel
theorem dL_law_790 : decode cL_law 790 = .ok (.i2l, 1) := by decide +kernel
theorem dL_law_791 : decode cL_law 791 = .ok (.lcmp, 1) := by decide +kernel
theorem dL_law_792 : decode cL_law 792 = .ok (.ifCond .eq 5, 3) := by decide +kernel
theorem dL_law_795 : decode cL_law 795 = .ok (.iconst 0, 1) := by decide +kernel
theorem dL_law_796 : decode cL_law 796 = .ok (.ireturn, 1) := by decide +kernel
theorem dL_law_797 : decode cL_law 797 = .ok (.goto 3, 3) := by decide +kernel
theorem dL_law_800 : decode cL_law 800 = .ok (.iinc 4 4, 3) := by decide +kernel
theorem dL_law_803 : decode cL_law 803 = .ok (.goto (-770), 3) := by decide +kernel
theorem dL_law_806 : decode cL_law 806 = .ok (.iconst 1, 1) := by decide +kernel
theorem dL_law_807 : decode cL_law 807 = .ok (.ireturn, 1) := by decide +kernel
abbrev vwCl : List vw_C := [(RX1, TX1, 15), (RX2, TX2, 19)]
