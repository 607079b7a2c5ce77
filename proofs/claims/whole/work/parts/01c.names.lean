theorem dX3_fits_106 : decode cX3_fits 106 = .ok (.iload_n 1, 1) := by decide +kernel
theorem dX3_fits_107 : decode cX3_fits 107 = .ok (.iconst 2, 1) := by decide +kernel
theorem dX3_fits_108 : decode cX3_fits 108 = .ok (.invokevirtual 149, 3) := by decide +kernel
theorem dX3_fits_111 : decode cX3_fits 111 = .ok (.aload_n 0, 1) := by decide +kernel
theorem dX3_fits_112 : decode cX3_fits 112 = .ok (.getfield 11, 3) := by decide +kernel
theorem dX3_fits_115 : decode cX3_fits 115 = .ok (.iload 4, 2) := by decide +kernel
theorem dX3_fits_117 : decode cX3_fits 117 = .ok (.aaload, 1) := by decide +kernel
theorem dX3_fits_118 : decode cX3_fits 118 = .ok (.iload 5, 2) := by decide +kernel
theorem dX3_fits_120 : decode cX3_fits 120 = .ok (.iconst 1, 1) := by decide +kernel
theorem dX3_fits_121 : decode cX3_fits 121 = .ok (.invokevirtual 226, 3) := by decide +kernel
theorem dX3_fits_124 : decode cX3_fits 124 = .ok (.iload_n 3, 1) := by decide +kernel
theorem dX3_fits_125 : decode cX3_fits 125 = .ok (.iconst 1, 1) := by decide +kernel
theorem dX3_fits_126 : decode cX3_fits 126 = .ok (.isub, 1) := by decide +kernel
theorem dX3_fits_127 : decode cX3_fits 127 = .ok (.invokevirtual 160, 3) := by decide +kernel
theorem dX3_fits_130 : decode cX3_fits 130 = .ok (.ifCond .eq 7, 3) := by decide +kernel
theorem dX3_fits_133 : decode cX3_fits 133 = .ok (.iconst 1, 1) := by decide +kernel
theorem dX3_fits_134 : decode cX3_fits 134 = .ok (.goto 4, 3) := by decide +kernel
theorem dX3_fits_137 : decode cX3_fits 137 = .ok (.iconst 0, 1) := by decide +kernel
theorem dX3_fits_138 : decode cX3_fits 138 = .ok (.ireturn, 1) := by decide +kernel
set_option maxRecDepth 20000 in
theorem ggX3_carryOut_X2_cell : GoodIn wsX3_carryOut wsX2_cell := goodIn_r _ [11, 12, 43, 44] (by decide +kernel) (by decide +kernel)
set_option maxRecDepth 20000 in
theorem gX3_carryOut_X2_cell : GoodIn wsX3_carryOut (wsV RX3 149 RX2 yX2_cell wsX2_cell) := goodIn_app (goodIn_of _ (by decide +kernel)) ggX3_carryOut_X2_cell
set_option maxRecDepth 20000 in
theorem ggX3_carryOut_X0_usable : GoodIn wsX3_carryOut wsX0_usable := goodIn_r _ [17, 18, 19, 38, 39, 40, 41, 42] (by decide +kernel) (by decide +kernel)
set_option maxRecDepth 20000 in
theorem gX3_carryOut_X0_usable : GoodIn wsX3_carryOut (wsV RX3 107 RX0 yX0_usable wsX0_usable) := goodIn_app (goodIn_of _ (by decide +kernel)) ggX3_carryOut_X0_usable
set_option maxRecDepth 20000 in
theorem ggX3_carryOut_X0_sensed : GoodIn wsX3_carryOut wsX0_sensed := goodIn_r _ [23, 24, 25, 26, 27, 38, 39, 40, 41, 42] (by decide +kernel) (by decide +kernel)
set_option maxRecDepth 20000 in
theorem gX3_carryOut_X0_sensed : GoodIn wsX3_carryOut (wsV RX3 241 RX0 yX0_sensed wsX0_sensed) := goodIn_app (goodIn_of _ (by decide +kernel)) ggX3_carryOut_X0_sensed
set_option maxRecDepth 20000 in
theorem ggX3_carryOut_X3_isIn : GoodIn wsX3_carryOut wsX3_isIn := goodIn_r _ [27] (by decide +kernel) (by decide +kernel)
set_option maxRecDepth 20000 in
theorem gX3_carryOut_X3_isIn : GoodIn wsX3_carryOut (va_wsS RX3 169 yX3_isIn wsX3_isIn) := goodIn_app (goodIn_of _ (by decide +kernel)) ggX3_carryOut_X3_isIn
theorem dX3_carryOut_0 : decode cX3_carryOut 0 = .ok (.iconst 0, 1) := by decide +kernel
theorem dX3_carryOut_1 : decode cX3_carryOut 1 = .ok (.istore_n 1, 1) := by decide +kernel
theorem dX3_carryOut_2 : decode cX3_carryOut 2 = .ok (.aload_n 0, 1) := by decide +kernel
theorem dX3_carryOut_3 : decode cX3_carryOut 3 = .ok (.getfield 166, 3) := by decide +kernel
theorem dX3_carryOut_6 : decode cX3_carryOut 6 = .ok (.istore_n 2, 1) := by decide +kernel
theorem dX3_carryOut_7 : decode cX3_carryOut 7 = .ok (.aload_n 0, 1) := by decide +kernel
theorem dX3_carryOut_8 : decode cX3_carryOut 8 = .ok (.iconst 0, 1) := by decide +kernel
theorem dX3_carryOut_9 : decode cX3_carryOut 9 = .ok (.putfield 179, 3) := by decide +kernel
theorem dX3_carryOut_12 : decode cX3_carryOut 12 = .ok (.aload_n 0, 1) := by decide +kernel
theorem dX3_carryOut_13 : decode cX3_carryOut 13 = .ok (.getfield 179, 3) := by decide +kernel
theorem dX3_carryOut_16 : decode cX3_carryOut 16 = .ok (.iconst 4, 1) := by decide +kernel
theorem dX3_carryOut_17 : decode cX3_carryOut 17 = .ok (.if_icmp .ge 94, 3) := by decide +kernel
theorem dX3_carryOut_20 : decode cX3_carryOut 20 = .ok (.iload_n 1, 1) := by decide +kernel
theorem dX3_carryOut_21 : decode cX3_carryOut 21 = .ok (.iconst (-1), 1) := by decide +kernel
theorem dX3_carryOut_22 : decode cX3_carryOut 22 = .ok (.if_icmp .eq 89, 3) := by decide +kernel
theorem dX3_carryOut_25 : decode cX3_carryOut 25 = .ok (.aload_n 0, 1) := by decide +kernel
theorem dX3_carryOut_26 : decode cX3_carryOut 26 = .ok (.getfield 18, 3) := by decide +kernel
theorem dX3_carryOut_29 : decode cX3_carryOut 29 = .ok (.iload_n 1, 1) := by decide +kernel
theorem dX3_carryOut_30 : decode cX3_carryOut 30 = .ok (.iconst 0, 1) := by decide +kernel
theorem dX3_carryOut_31 : decode cX3_carryOut 31 = .ok (.invokevirtual 149, 3) := by decide +kernel
theorem dX3_carryOut_34 : decode cX3_carryOut 34 = .ok (.iconst (-1), 1) := by decide +kernel
theorem dX3_carryOut_35 : decode cX3_carryOut 35 = .ok (.if_icmp .eq 76, 3) := by decide +kernel
theorem dX3_carryOut_38 : decode cX3_carryOut 38 = .ok (.aload_n 0, 1) := by decide +kernel
theorem dX3_carryOut_39 : decode cX3_carryOut 39 = .ok (.getfield 11, 3) := by decide +kernel
theorem dX3_carryOut_42 : decode cX3_carryOut 42 = .ok (.aload_n 0, 1) := by decide +kernel
theorem dX3_carryOut_43 : decode cX3_carryOut 43 = .ok (.getfield 18, 3) := by decide +kernel
theorem dX3_carryOut_46 : decode cX3_carryOut 46 = .ok (.iload_n 1, 1) := by decide +kernel
theorem dX3_carryOut_47 : decode cX3_carryOut 47 = .ok (.iconst 0, 1) := by decide +kernel
theorem dX3_carryOut_48 : decode cX3_carryOut 48 = .ok (.invokevirtual 149, 3) := by decide +kernel
theorem dX3_carryOut_51 : decode cX3_carryOut 51 = .ok (.aaload, 1) := by decide +kernel
theorem dX3_carryOut_52 : decode cX3_carryOut 52 = .ok (.astore_n 3, 1) := by decide +kernel
theorem dX3_carryOut_53 : decode cX3_carryOut 53 = .ok (.aload_n 3, 1) := by decide +kernel
theorem dX3_carryOut_54 : decode cX3_carryOut 54 = .ok (.iconst 1, 1) := by decide +kernel
theorem dX3_carryOut_55 : decode cX3_carryOut 55 = .ok (.iload_n 2, 1) := by decide +kernel
theorem dX3_carryOut_56 : decode cX3_carryOut 56 = .ok (.ishl, 1) := by decide +kernel
theorem dX3_carryOut_57 : decode cX3_carryOut 57 = .ok (.invokevirtual 107, 3) := by decide +kernel
theorem dX3_carryOut_60 : decode cX3_carryOut 60 = .ok (.ifCond .ne 5, 3) := by decide +kernel
theorem dX3_carryOut_63 : decode cX3_carryOut 63 = .ok (.iconst 0, 1) := by decide +kernel
theorem dX3_carryOut_64 : decode cX3_carryOut 64 = .ok (.ireturn, 1) := by decide +kernel
theorem dX3_carryOut_65 : decode cX3_carryOut 65 = .ok (.aload_n 3, 1) := by decide +kernel
theorem dX3_carryOut_66 : decode cX3_carryOut 66 = .ok (.getfield 238, 3) := by decide +kernel
theorem dX3_carryOut_69 : decode cX3_carryOut 69 = .ok (.iload_n 2, 1) := by decide +kernel
theorem dX3_carryOut_70 : decode cX3_carryOut 70 = .ok (.iaload, 1) := by decide +kernel
theorem dX3_carryOut_71 : decode cX3_carryOut 71 = .ok (.istore_n 2, 1) := by decide +kernel
theorem dX3_carryOut_72 : decode cX3_carryOut 72 = .ok (.aload_n 0, 1) := by decide +kernel
theorem dX3_carryOut_73 : decode cX3_carryOut 73 = .ok (.getfield 29, 3) := by decide +kernel
theorem dX3_carryOut_76 : decode cX3_carryOut 76 = .ok (.aload_n 0, 1) := by decide +kernel
theorem dX3_carryOut_77 : decode cX3_carryOut 77 = .ok (.getfield 179, 3) := by decide +kernel
theorem dX3_carryOut_80 : decode cX3_carryOut 80 = .ok (.iload_n 2, 1) := by decide +kernel
theorem dX3_carryOut_81 : decode cX3_carryOut 81 = .ok (.iastore, 1) := by decide +kernel
theorem dX3_carryOut_82 : decode cX3_carryOut 82 = .ok (.aload_n 0, 1) := by decide +kernel
theorem dX3_carryOut_83 : decode cX3_carryOut 83 = .ok (.dup, 1) := by decide +kernel
theorem dX3_carryOut_84 : decode cX3_carryOut 84 = .ok (.getfield 179, 3) := by decide +kernel
theorem dX3_carryOut_87 : decode cX3_carryOut 87 = .ok (.iconst 1, 1) := by decide +kernel
theorem dX3_carryOut_88 : decode cX3_carryOut 88 = .ok (.iadd, 1) := by decide +kernel
theorem dX3_carryOut_89 : decode cX3_carryOut 89 = .ok (.putfield 179, 3) := by decide +kernel
theorem dX3_carryOut_92 : decode cX3_carryOut 92 = .ok (.aload_n 0, 1) := by decide +kernel
theorem dX3_carryOut_93 : decode cX3_carryOut 93 = .ok (.getfield 18, 3) := by decide +kernel
theorem dX3_carryOut_96 : decode cX3_carryOut 96 = .ok (.iload_n 1, 1) := by decide +kernel
theorem dX3_carryOut_97 : decode cX3_carryOut 97 = .ok (.iconst 1, 1) := by decide +kernel
theorem dX3_carryOut_98 : decode cX3_carryOut 98 = .ok (.aload_n 3, 1) := by decide +kernel
theorem dX3_carryOut_99 : decode cX3_carryOut 99 = .ok (.iload_n 2, 1) := by decide +kernel
theorem dX3_carryOut_100 : decode cX3_carryOut 100 = .ok (.invokevirtual 241, 3) := by decide +kernel
theorem dX3_carryOut_103 : decode cX3_carryOut 103 = .ok (.iadd, 1) := by decide +kernel
theorem dX3_carryOut_104 : decode cX3_carryOut 104 = .ok (.invokevirtual 149, 3) := by decide +kernel
theorem dX3_carryOut_107 : decode cX3_carryOut 107 = .ok (.istore_n 1, 1) := by decide +kernel
theorem dX3_carryOut_108 : decode cX3_carryOut 108 = .ok (.goto (-96), 3) := by decide +kernel
theorem dX3_carryOut_111 : decode cX3_carryOut 111 = .ok (.iload_n 1, 1) := by decide +kernel
theorem dX3_carryOut_112 : decode cX3_carryOut 112 = .ok (.iconst (-1), 1) := by decide +kernel
theorem dX3_carryOut_113 : decode cX3_carryOut 113 = .ok (.if_icmp .eq 31, 3) := by decide +kernel
theorem dX3_carryOut_116 : decode cX3_carryOut 116 = .ok (.aload_n 0, 1) := by decide +kernel
theorem dX3_carryOut_117 : decode cX3_carryOut 117 = .ok (.getfield 18, 3) := by decide +kernel
theorem dX3_carryOut_120 : decode cX3_carryOut 120 = .ok (.iload_n 1, 1) := by decide +kernel
theorem dX3_carryOut_121 : decode cX3_carryOut 121 = .ok (.iconst 0, 1) := by decide +kernel
theorem dX3_carryOut_122 : decode cX3_carryOut 122 = .ok (.invokevirtual 149, 3) := by decide +kernel
theorem dX3_carryOut_125 : decode cX3_carryOut 125 = .ok (.iconst (-1), 1) := by decide +kernel
theorem dX3_carryOut_126 : decode cX3_carryOut 126 = .ok (.if_icmp .ne 18, 3) := by decide +kernel
theorem dX3_carryOut_129 : decode cX3_carryOut 129 = .ok (.iload_n 2, 1) := by decide +kernel
theorem dX3_carryOut_130 : decode cX3_carryOut 130 = .ok (.aload_n 0, 1) := by decide +kernel
theorem dX3_carryOut_131 : decode cX3_carryOut 131 = .ok (.getfield 95, 3) := by decide +kernel
theorem dX3_carryOut_134 : decode cX3_carryOut 134 = .ok (.invokestatic 169, 3) := by decide +kernel
theorem dX3_carryOut_137 : decode cX3_carryOut 137 = .ok (.ifCond .eq 7, 3) := by decide +kernel
theorem dX3_carryOut_140 : decode cX3_carryOut 140 = .ok (.iconst 1, 1) := by decide +kernel
theorem dX3_carryOut_141 : decode cX3_carryOut 141 = .ok (.goto 4, 3) := by decide +kernel
theorem dX3_carryOut_144 : decode cX3_carryOut 144 = .ok (.iconst 0, 1) := by decide +kernel
theorem dX3_carryOut_145 : decode cX3_carryOut 145 = .ok (.ireturn, 1) := by decide +kernel
set_option maxRecDepth 20000 in
theorem ggX3_look_X0_usable : GoodIn wsX3_look wsX0_usable := goodIn_r _ [7, 8, 9, 42, 43, 44, 45, 46] (by decide +kernel) (by decide +kernel)
set_option maxRecDepth 20000 in
theorem gX3_look_X0_usable : GoodIn wsX3_look (wsV RX3 107 RX0 yX0_usable wsX0_usable) := goodIn_app (goodIn_of _ (by decide +kernel)) ggX3_look_X0_usable
set_option maxRecDepth 20000 in
theorem ggX3_look_X1_step : GoodIn wsX3_look wsX1_step := goodIn_r _ [14, 15, 16, 17, 18, 19, 6, 20, 21, 22, 23, 24, 42, 43, 44, 45, 46, 47, 48, 49] (by decide +kernel) (by decide +kernel)
set_option maxRecDepth 20000 in
theorem gX3_look_X1_step : GoodIn wsX3_look (wsV RX3 244 RX1 yX1_step wsX1_step) := goodIn_app (goodIn_of _ (by decide +kernel)) ggX3_look_X1_step
set_option maxRecDepth 20000 in
theorem ggX3_look_X0_after : GoodIn wsX3_look wsX0_after := goodIn_r _ [28, 29, 22, 23, 24, 42, 43, 44, 45, 46] (by decide +kernel) (by decide +kernel)
set_option maxRecDepth 20000 in
theorem gX3_look_X0_after : GoodIn wsX3_look (wsV RX3 116 RX0 yX0_after wsX0_after) := goodIn_app (goodIn_of _ (by decide +kernel)) ggX3_look_X0_after
set_option maxRecDepth 20000 in
theorem ggX3_look_X3_look : GoodIn wsX3_look wsX3_look := goodIn_r _ [0, 1, 2, 3, 4, 5, 6, 7, 8, 9, 10, 11, 12, 13, 14, 15, 16, 17, 18, 19, 20, 21, 22, 23, 24, 25, 26, 27, 28, 29, 30, 31, 32, 33, 34, 35, 36, 37, 38, 39, 40, 41, 42, 43, 44, 45, 46, 47, 48, 49] (by decide +kernel) (by decide +kernel)
set_option maxRecDepth 20000 in
theorem gX3_look_X3_look : GoodIn wsX3_look (wsV RX3 187 RX3 yX3_look wsX3_look) := goodIn_app (goodIn_of _ (by decide +kernel)) ggX3_look_X3_look
theorem dX3_look_0 : decode cX3_look 0 = .ok (.iload_n 2, 1) := by decide +kernel
theorem dX3_look_1 : decode cX3_look 1 = .ok (.iconst 3, 1) := by decide +kernel
theorem dX3_look_2 : decode cX3_look 2 = .ok (.if_icmp .lt 4, 3) := by decide +kernel
theorem dX3_look_5 : decode cX3_look 5 = .ok (.return_, 1) := by decide +kernel
theorem dX3_look_6 : decode cX3_look 6 = .ok (.iconst 0, 1) := by decide +kernel
theorem dX3_look_7 : decode cX3_look 7 = .ok (.istore_n 3, 1) := by decide +kernel
theorem dX3_look_8 : decode cX3_look 8 = .ok (.iload_n 3, 1) := by decide +kernel
theorem dX3_look_9 : decode cX3_look 9 = .ok (.bipush 8, 2) := by decide +kernel
theorem dX3_look_11 : decode cX3_look 11 = .ok (.if_icmp .ge 53, 3) := by decide +kernel
theorem dX3_look_14 : decode cX3_look 14 = .ok (.aload_n 0, 1) := by decide +kernel
theorem dX3_look_15 : decode cX3_look 15 = .ok (.getfield 11, 3) := by decide +kernel
theorem dX3_look_18 : decode cX3_look 18 = .ok (.iload_n 3, 1) := by decide +kernel
theorem dX3_look_19 : decode cX3_look 19 = .ok (.aaload, 1) := by decide +kernel
theorem dX3_look_20 : decode cX3_look 20 = .ok (.iload_n 1, 1) := by decide +kernel
theorem dX3_look_21 : decode cX3_look 21 = .ok (.invokevirtual 107, 3) := by decide +kernel
theorem dX3_look_24 : decode cX3_look 24 = .ok (.ifCond .eq 34, 3) := by decide +kernel
theorem dX3_look_27 : decode cX3_look 27 = .ok (.aload_n 0, 1) := by decide +kernel
theorem dX3_look_28 : decode cX3_look 28 = .ok (.getfield 25, 3) := by decide +kernel
theorem dX3_look_31 : decode cX3_look 31 = .ok (.aload_n 0, 1) := by decide +kernel
theorem dX3_look_32 : decode cX3_look 32 = .ok (.getfield 11, 3) := by decide +kernel
theorem dX3_look_35 : decode cX3_look 35 = .ok (.iload_n 3, 1) := by decide +kernel
theorem dX3_look_36 : decode cX3_look 36 = .ok (.aaload, 1) := by decide +kernel
theorem dX3_look_37 : decode cX3_look 37 = .ok (.iload_n 2, 1) := by decide +kernel
theorem dX3_look_38 : decode cX3_look 38 = .ok (.invokevirtual 244, 3) := by decide +kernel
theorem dX3_look_41 : decode cX3_look 41 = .ok (.aload_n 0, 1) := by decide +kernel
theorem dX3_look_42 : decode cX3_look 42 = .ok (.aload_n 0, 1) := by decide +kernel
theorem dX3_look_43 : decode cX3_look 43 = .ok (.getfield 11, 3) := by decide +kernel
theorem dX3_look_46 : decode cX3_look 46 = .ok (.iload_n 3, 1) := by decide +kernel
theorem dX3_look_47 : decode cX3_look 47 = .ok (.aaload, 1) := by decide +kernel
theorem dX3_look_48 : decode cX3_look 48 = .ok (.iload_n 1, 1) := by decide +kernel
theorem dX3_look_49 : decode cX3_look 49 = .ok (.invokevirtual 116, 3) := by decide +kernel
theorem dX3_look_52 : decode cX3_look 52 = .ok (.iload_n 2, 1) := by decide +kernel
theorem dX3_look_53 : decode cX3_look 53 = .ok (.iconst 1, 1) := by decide +kernel
theorem dX3_look_54 : decode cX3_look 54 = .ok (.iadd, 1) := by decide +kernel
theorem dX3_look_55 : decode cX3_look 55 = .ok (.invokevirtual 187, 3) := by decide +kernel
theorem dX3_look_58 : decode cX3_look 58 = .ok (.iinc 3 1, 3) := by decide +kernel
theorem dX3_look_61 : decode cX3_look 61 = .ok (.goto (-53), 3) := by decide +kernel
theorem dX3_look_64 : decode cX3_look 64 = .ok (.return_, 1) := by decide +kernel
theorem dX4_init_0 : decode cX4_init 0 = .ok (.aload_n 0, 1) := by decide +kernel
theorem dX4_init_1 : decode cX4_init 1 = .ok (.invokespecial 1, 3) := by decide +kernel
theorem dX4_init_4 : decode cX4_init 4 = .ok (.aload_n 0, 1) := by decide +kernel
theorem dX4_init_5 : decode cX4_init 5 = .ok (.bipush 8, 2) := by decide +kernel
theorem dX4_init_7 : decode cX4_init 7 = .ok (.newarray .boolean, 2) := by decide +kernel
theorem dX4_init_9 : decode cX4_init 9 = .ok (.putfield 7, 3) := by decide +kernel
theorem dX4_init_12 : decode cX4_init 12 = .ok (.aload_n 0, 1) := by decide +kernel
theorem dX4_init_13 : decode cX4_init 13 = .ok (.bipush 8, 2) := by decide +kernel
theorem dX4_init_15 : decode cX4_init 15 = .ok (.newarray .int, 2) := by decide +kernel
theorem dX4_init_17 : decode cX4_init 17 = .ok (.putfield 13, 3) := by decide +kernel
theorem dX4_init_20 : decode cX4_init 20 = .ok (.aload_n 0, 1) := by decide +kernel
theorem dX4_init_21 : decode cX4_init 21 = .ok (.bipush 8, 2) := by decide +kernel
theorem dX4_init_23 : decode cX4_init 23 = .ok (.newarray .int, 2) := by decide +kernel
theorem dX4_init_25 : decode cX4_init 25 = .ok (.putfield 17, 3) := by decide +kernel
theorem dX4_init_28 : decode cX4_init 28 = .ok (.aload_n 0, 1) := by decide +kernel
theorem dX4_init_29 : decode cX4_init 29 = .ok (.bipush 8, 2) := by decide +kernel
theorem dX4_init_31 : decode cX4_init 31 = .ok (.newarray .int, 2) := by decide +kernel
theorem dX4_init_33 : decode cX4_init 33 = .ok (.putfield 20, 3) := by decide +kernel
theorem dX4_init_36 : decode cX4_init 36 = .ok (.aload_n 0, 1) := by decide +kernel
theorem dX4_init_37 : decode cX4_init 37 = .ok (.bipush 8, 2) := by decide +kernel
theorem dX4_init_39 : decode cX4_init 39 = .ok (.newarray .int, 2) := by decide +kernel
theorem dX4_init_41 : decode cX4_init 41 = .ok (.putfield 23, 3) := by decide +kernel
theorem dX4_init_44 : decode cX4_init 44 = .ok (.aload_n 0, 1) := by decide +kernel
theorem dX4_init_45 : decode cX4_init 45 = .ok (.bipush 32, 2) := by decide +kernel
theorem dX4_init_47 : decode cX4_init 47 = .ok (.newarray .int, 2) := by decide +kernel
theorem dX4_init_49 : decode cX4_init 49 = .ok (.putfield 26, 3) := by decide +kernel
theorem dX4_init_52 : decode cX4_init 52 = .ok (.aload_n 0, 1) := by decide +kernel
theorem dX4_init_53 : decode cX4_init 53 = .ok (.bipush 32, 2) := by decide +kernel
theorem dX4_init_55 : decode cX4_init 55 = .ok (.newarray .boolean, 2) := by decide +kernel
theorem dX4_init_57 : decode cX4_init 57 = .ok (.putfield 29, 3) := by decide +kernel
theorem dX4_init_60 : decode cX4_init 60 = .ok (.aload_n 0, 1) := by decide +kernel
theorem dX4_init_61 : decode cX4_init 61 = .ok (.bipush 32, 2) := by decide +kernel
theorem dX4_init_63 : decode cX4_init 63 = .ok (.newarray .int, 2) := by decide +kernel
theorem dX4_init_65 : decode cX4_init 65 = .ok (.putfield 32, 3) := by decide +kernel
theorem dX4_init_68 : decode cX4_init 68 = .ok (.aload_n 0, 1) := by decide +kernel
theorem dX4_init_69 : decode cX4_init 69 = .ok (.bipush 32, 2) := by decide +kernel
theorem dX4_init_71 : decode cX4_init 71 = .ok (.newarray .int, 2) := by decide +kernel
theorem dX4_init_73 : decode cX4_init 73 = .ok (.putfield 35, 3) := by decide +kernel
theorem dX4_init_76 : decode cX4_init 76 = .ok (.aload_n 0, 1) := by decide +kernel
theorem dX4_init_77 : decode cX4_init 77 = .ok (.bipush 6, 2) := by decide +kernel
theorem dX4_init_79 : decode cX4_init 79 = .ok (.newarray .int, 2) := by decide +kernel
theorem dX4_init_81 : decode cX4_init 81 = .ok (.putfield 38, 3) := by decide +kernel
theorem dX4_init_84 : decode cX4_init 84 = .ok (.aload_n 0, 1) := by decide +kernel
theorem dX4_init_85 : decode cX4_init 85 = .ok (.bipush 6, 2) := by decide +kernel
theorem dX4_init_87 : decode cX4_init 87 = .ok (.newarray .int, 2) := by decide +kernel
theorem dX4_init_89 : decode cX4_init 89 = .ok (.putfield 41, 3) := by decide +kernel
theorem dX4_init_92 : decode cX4_init 92 = .ok (.aload_n 0, 1) := by decide +kernel
theorem dX4_init_93 : decode cX4_init 93 = .ok (.bipush 32, 2) := by decide +kernel
theorem dX4_init_95 : decode cX4_init 95 = .ok (.newarray .int, 2) := by decide +kernel
theorem dX4_init_97 : decode cX4_init 97 = .ok (.putfield 44, 3) := by decide +kernel
theorem dX4_init_100 : decode cX4_init 100 = .ok (.aload_n 0, 1) := by decide +kernel
theorem dX4_init_101 : decode cX4_init 101 = .ok (.bipush 32, 2) := by decide +kernel
theorem dX4_init_103 : decode cX4_init 103 = .ok (.newarray .int, 2) := by decide +kernel
theorem dX4_init_105 : decode cX4_init 105 = .ok (.putfield 47, 3) := by decide +kernel
theorem dX4_init_108 : decode cX4_init 108 = .ok (.aload_n 0, 1) := by decide +kernel
theorem dX4_init_109 : decode cX4_init 109 = .ok (.bipush 32, 2) := by decide +kernel
theorem dX4_init_111 : decode cX4_init 111 = .ok (.newarray .int, 2) := by decide +kernel
theorem dX4_init_113 : decode cX4_init 113 = .ok (.putfield 50, 3) := by decide +kernel
theorem dX4_init_116 : decode cX4_init 116 = .ok (.aload_n 0, 1) := by decide +kernel
theorem dX4_init_117 : decode cX4_init 117 = .ok (.bipush 6, 2) := by decide +kernel
theorem dX4_init_119 : decode cX4_init 119 = .ok (.newarray .int, 2) := by decide +kernel
theorem dX4_init_121 : decode cX4_init 121 = .ok (.putfield 53, 3) := by decide +kernel
theorem dX4_init_124 : decode cX4_init 124 = .ok (.aload_n 0, 1) := by decide +kernel
theorem dX4_init_125 : decode cX4_init 125 = .ok (.bipush 6, 2) := by decide +kernel
theorem dX4_init_127 : decode cX4_init 127 = .ok (.newarray .int, 2) := by decide +kernel
theorem dX4_init_129 : decode cX4_init 129 = .ok (.putfield 56, 3) := by decide +kernel
theorem dX4_init_132 : decode cX4_init 132 = .ok (.aload_n 0, 1) := by decide +kernel
theorem dX4_init_133 : decode cX4_init 133 = .ok (.bipush 6, 2) := by decide +kernel
theorem dX4_init_135 : decode cX4_init 135 = .ok (.newarray .int, 2) := by decide +kernel
theorem dX4_init_137 : decode cX4_init 137 = .ok (.putfield 59, 3) := by decide +kernel
theorem dX4_init_140 : decode cX4_init 140 = .ok (.aload_n 0, 1) := by decide +kernel
theorem dX4_init_141 : decode cX4_init 141 = .ok (.bipush 64, 2) := by decide +kernel
theorem dX4_init_143 : decode cX4_init 143 = .ok (.newarray .int, 2) := by decide +kernel
theorem dX4_init_145 : decode cX4_init 145 = .ok (.putfield 62, 3) := by decide +kernel
theorem dX4_init_148 : decode cX4_init 148 = .ok (.aload_n 0, 1) := by decide +kernel
theorem dX4_init_149 : decode cX4_init 149 = .ok (.bipush 64, 2) := by decide +kernel
theorem dX4_init_151 : decode cX4_init 151 = .ok (.newarray .int, 2) := by decide +kernel
theorem dX4_init_153 : decode cX4_init 153 = .ok (.putfield 65, 3) := by decide +kernel
theorem dX4_init_156 : decode cX4_init 156 = .ok (.aload_n 0, 1) := by decide +kernel
theorem dX4_init_157 : decode cX4_init 157 = .ok (.bipush 64, 2) := by decide +kernel
theorem dX4_init_159 : decode cX4_init 159 = .ok (.newarray .int, 2) := by decide +kernel
theorem dX4_init_161 : decode cX4_init 161 = .ok (.putfield 68, 3) := by decide +kernel
theorem dX4_init_164 : decode cX4_init 164 = .ok (.aload_n 0, 1) := by decide +kernel
theorem dX4_init_165 : decode cX4_init 165 = .ok (.bipush 64, 2) := by decide +kernel
theorem dX4_init_167 : decode cX4_init 167 = .ok (.newarray .int, 2) := by decide +kernel
theorem dX4_init_169 : decode cX4_init 169 = .ok (.putfield 71, 3) := by decide +kernel
theorem dX4_init_172 : decode cX4_init 172 = .ok (.aload_n 0, 1) := by decide +kernel
theorem dX4_init_173 : decode cX4_init 173 = .ok (.bipush 64, 2) := by decide +kernel
theorem dX4_init_175 : decode cX4_init 175 = .ok (.newarray .int, 2) := by decide +kernel
theorem dX4_init_177 : decode cX4_init 177 = .ok (.putfield 74, 3) := by decide +kernel
theorem dX4_init_180 : decode cX4_init 180 = .ok (.aload_n 0, 1) := by decide +kernel
theorem dX4_init_181 : decode cX4_init 181 = .ok (.bipush 64, 2) := by decide +kernel
theorem dX4_init_183 : decode cX4_init 183 = .ok (.newarray .int, 2) := by decide +kernel
theorem dX4_init_185 : decode cX4_init 185 = .ok (.putfield 77, 3) := by decide +kernel
theorem dX4_init_188 : decode cX4_init 188 = .ok (.aload_n 0, 1) := by decide +kernel
theorem dX4_init_189 : decode cX4_init 189 = .ok (.iconst (-1), 1) := by decide +kernel
theorem dX4_init_190 : decode cX4_init 190 = .ok (.putfield 80, 3) := by decide +kernel
theorem dX4_init_193 : decode cX4_init 193 = .ok (.aload_n 0, 1) := by decide +kernel
theorem dX4_init_194 : decode cX4_init 194 = .ok (.bipush 8, 2) := by decide +kernel
theorem dX4_init_196 : decode cX4_init 196 = .ok (.newarray .int, 2) := by decide +kernel
theorem dX4_init_198 : decode cX4_init 198 = .ok (.putfield 84, 3) := by decide +kernel
theorem dX4_init_201 : decode cX4_init 201 = .ok (.aload_n 0, 1) := by decide +kernel
theorem dX4_init_202 : decode cX4_init 202 = .ok (.bipush 64, 2) := by decide +kernel
theorem dX4_init_204 : decode cX4_init 204 = .ok (.newarray .int, 2) := by decide +kernel
theorem dX4_init_206 : decode cX4_init 206 = .ok (.putfield 87, 3) := by decide +kernel
theorem dX4_init_209 : decode cX4_init 209 = .ok (.aload_n 0, 1) := by decide +kernel
theorem dX4_init_210 : decode cX4_init 210 = .ok (.bipush 16, 2) := by decide +kernel
theorem dX4_init_212 : decode cX4_init 212 = .ok (.newarray .int, 2) := by decide +kernel
theorem dX4_init_214 : decode cX4_init 214 = .ok (.putfield 90, 3) := by decide +kernel
theorem dX4_init_217 : decode cX4_init 217 = .ok (.return_, 1) := by decide +kernel
theorem dX4_thrown_0 : decode cX4_thrown 0 = .ok (.aload_n 0, 1) := by decide +kernel
theorem dX4_thrown_1 : decode cX4_thrown 1 = .ok (.getfield 93, 3) := by decide +kernel
theorem dX4_thrown_4 : decode cX4_thrown 4 = .ok (.ireturn, 1) := by decide +kernel
theorem dX4_fail_0 : decode cX4_fail 0 = .ok (.aload_n 0, 1) := by decide +kernel
theorem dX4_fail_1 : decode cX4_fail 1 = .ok (.iload_n 1, 1) := by decide +kernel
theorem dX4_fail_2 : decode cX4_fail 2 = .ok (.putfield 93, 3) := by decide +kernel
theorem dX4_fail_5 : decode cX4_fail 5 = .ok (.iconst 0, 1) := by decide +kernel
theorem dX4_fail_6 : decode cX4_fail 6 = .ok (.ireturn, 1) := by decide +kernel
theorem dX4_within_0 : decode cX4_within 0 = .ok (.iload_n 0, 1) := by decide +kernel
theorem dX4_within_1 : decode cX4_within 1 = .ok (.iload_n 1, 1) := by decide +kernel
theorem dX4_within_2 : decode cX4_within 2 = .ok (.if_icmp .lt 12, 3) := by decide +kernel
theorem dX4_within_5 : decode cX4_within 5 = .ok (.iload_n 0, 1) := by decide +kernel
theorem dX4_within_6 : decode cX4_within 6 = .ok (.iload_n 2, 1) := by decide +kernel
theorem dX4_within_7 : decode cX4_within 7 = .ok (.if_icmp .gt 7, 3) := by decide +kernel
theorem dX4_within_10 : decode cX4_within 10 = .ok (.iconst 1, 1) := by decide +kernel
theorem dX4_within_11 : decode cX4_within 11 = .ok (.goto 4, 3) := by decide +kernel
theorem dX4_within_14 : decode cX4_within 14 = .ok (.iconst 0, 1) := by decide +kernel
theorem dX4_within_15 : decode cX4_within 15 = .ok (.ireturn, 1) := by decide +kernel
set_option maxRecDepth 20000 in
theorem ggX4_demand_X4_within : GoodIn wsX4_demand wsX4_within := goodIn_r _ [4] (by decide +kernel) (by decide +kernel)
set_option maxRecDepth 20000 in
theorem gX4_demand_X4_within : GoodIn wsX4_demand (va_wsS RX4 96 yX4_within wsX4_within) := goodIn_app (goodIn_of _ (by decide +kernel)) ggX4_demand_X4_within
theorem dX4_demand_0 : decode cX4_demand 0 = .ok (.iload_n 0, 1) := by decide +kernel
theorem dX4_demand_1 : decode cX4_demand 1 = .ok (.iconst 0, 1) := by decide +kernel
theorem dX4_demand_2 : decode cX4_demand 2 = .ok (.bipush 15, 2) := by decide +kernel
theorem dX4_demand_4 : decode cX4_demand 4 = .ok (.invokestatic 96, 3) := by decide +kernel
theorem dX4_demand_7 : decode cX4_demand 7 = .ok (.ifCond .eq 17, 3) := by decide +kernel
theorem dX4_demand_10 : decode cX4_demand 10 = .ok (.iload_n 1, 1) := by decide +kernel
theorem dX4_demand_11 : decode cX4_demand 11 = .ok (.iconst 0, 1) := by decide +kernel
theorem dX4_demand_12 : decode cX4_demand 12 = .ok (.bipush 15, 2) := by decide +kernel
theorem dX4_demand_14 : decode cX4_demand 14 = .ok (.invokestatic 96, 3) := by decide +kernel
theorem dX4_demand_17 : decode cX4_demand 17 = .ok (.ifCond .eq 7, 3) := by decide +kernel
theorem dX4_demand_20 : decode cX4_demand 20 = .ok (.iconst 1, 1) := by decide +kernel
theorem dX4_demand_21 : decode cX4_demand 21 = .ok (.goto 4, 3) := by decide +kernel
theorem dX4_demand_24 : decode cX4_demand 24 = .ok (.iconst 0, 1) := by decide +kernel
theorem dX4_demand_25 : decode cX4_demand 25 = .ok (.ireturn, 1) := by decide +kernel
theorem dX4_holds_0 : decode cX4_holds 0 = .ok (.iload_n 2, 1) := by decide +kernel
theorem dX4_holds_1 : decode cX4_holds 1 = .ok (.iload_n 0, 1) := by decide +kernel
theorem dX4_holds_2 : decode cX4_holds 2 = .ok (.iand, 1) := by decide +kernel
theorem dX4_holds_3 : decode cX4_holds 3 = .ok (.iload_n 1, 1) := by decide +kernel
theorem dX4_holds_4 : decode cX4_holds 4 = .ok (.iload_n 0, 1) := by decide +kernel
theorem dX4_holds_5 : decode cX4_holds 5 = .ok (.iand, 1) := by decide +kernel
theorem dX4_holds_6 : decode cX4_holds 6 = .ok (.if_icmp .ne 7, 3) := by decide +kernel
theorem dX4_holds_9 : decode cX4_holds 9 = .ok (.iconst 1, 1) := by decide +kernel
theorem dX4_holds_10 : decode cX4_holds 10 = .ok (.goto 4, 3) := by decide +kernel
theorem dX4_holds_13 : decode cX4_holds 13 = .ok (.iconst 0, 1) := by decide +kernel
theorem dX4_holds_14 : decode cX4_holds 14 = .ok (.ireturn, 1) := by decide +kernel
theorem dX4_clear_0 : decode cX4_clear 0 = .ok (.aload_n 0, 1) := by decide +kernel
theorem dX4_clear_1 : decode cX4_clear 1 = .ok (.iconst 0, 1) := by decide +kernel
theorem dX4_clear_2 : decode cX4_clear 2 = .ok (.putfield 93, 3) := by decide +kernel
theorem dX4_clear_5 : decode cX4_clear 5 = .ok (.iconst 0, 1) := by decide +kernel
theorem dX4_clear_6 : decode cX4_clear 6 = .ok (.istore_n 1, 1) := by decide +kernel
theorem dX4_clear_7 : decode cX4_clear 7 = .ok (.iconst 0, 1) := by decide +kernel
theorem dX4_clear_8 : decode cX4_clear 8 = .ok (.istore_n 2, 1) := by decide +kernel
theorem dX4_clear_9 : decode cX4_clear 9 = .ok (.iload_n 2, 1) := by decide +kernel
theorem dX4_clear_10 : decode cX4_clear 10 = .ok (.bipush 8, 2) := by decide +kernel
theorem dX4_clear_12 : decode cX4_clear 12 = .ok (.if_icmp .ge 33, 3) := by decide +kernel
theorem dX4_clear_15 : decode cX4_clear 15 = .ok (.iload_n 1, 1) := by decide +kernel
theorem dX4_clear_16 : decode cX4_clear 16 = .ok (.aload_n 0, 1) := by decide +kernel
theorem dX4_clear_17 : decode cX4_clear 17 = .ok (.getfield 7, 3) := by decide +kernel
theorem dX4_clear_20 : decode cX4_clear 20 = .ok (.iload_n 2, 1) := by decide +kernel
theorem dX4_clear_21 : decode cX4_clear 21 = .ok (.baload, 1) := by decide +kernel
theorem dX4_clear_22 : decode cX4_clear 22 = .ok (.ifCond .eq 7, 3) := by decide +kernel
theorem dX4_clear_25 : decode cX4_clear 25 = .ok (.iconst 1, 1) := by decide +kernel
theorem dX4_clear_26 : decode cX4_clear 26 = .ok (.goto 4, 3) := by decide +kernel
theorem dX4_clear_29 : decode cX4_clear 29 = .ok (.iconst 0, 1) := by decide +kernel
theorem dX4_clear_30 : decode cX4_clear 30 = .ok (.iadd, 1) := by decide +kernel
theorem dX4_clear_31 : decode cX4_clear 31 = .ok (.istore_n 1, 1) := by decide +kernel
theorem dX4_clear_32 : decode cX4_clear 32 = .ok (.aload_n 0, 1) := by decide +kernel
theorem dX4_clear_33 : decode cX4_clear 33 = .ok (.getfield 7, 3) := by decide +kernel
theorem dX4_clear_36 : decode cX4_clear 36 = .ok (.iload_n 2, 1) := by decide +kernel
theorem dX4_clear_37 : decode cX4_clear 37 = .ok (.iconst 0, 1) := by decide +kernel
theorem dX4_clear_38 : decode cX4_clear 38 = .ok (.bastore, 1) := by decide +kernel
theorem dX4_clear_39 : decode cX4_clear 39 = .ok (.iinc 2 1, 3) := by decide +kernel
theorem dX4_clear_42 : decode cX4_clear 42 = .ok (.goto (-33), 3) := by decide +kernel
theorem dX4_clear_45 : decode cX4_clear 45 = .ok (.aload_n 0, 1) := by decide +kernel
theorem dX4_clear_46 : decode cX4_clear 46 = .ok (.iconst 0, 1) := by decide +kernel
theorem dX4_clear_47 : decode cX4_clear 47 = .ok (.putfield 100, 3) := by decide +kernel
theorem dX4_clear_50 : decode cX4_clear 50 = .ok (.aload_n 0, 1) := by decide +kernel
theorem dX4_clear_51 : decode cX4_clear 51 = .ok (.iconst 0, 1) := by decide +kernel
theorem dX4_clear_52 : decode cX4_clear 52 = .ok (.putfield 103, 3) := by decide +kernel
theorem dX4_clear_55 : decode cX4_clear 55 = .ok (.aload_n 0, 1) := by decide +kernel
theorem dX4_clear_56 : decode cX4_clear 56 = .ok (.iconst 0, 1) := by decide +kernel
theorem dX4_clear_57 : decode cX4_clear 57 = .ok (.putfield 106, 3) := by decide +kernel
theorem dX4_clear_60 : decode cX4_clear 60 = .ok (.aload_n 0, 1) := by decide +kernel
theorem dX4_clear_61 : decode cX4_clear 61 = .ok (.iconst 0, 1) := by decide +kernel
theorem dX4_clear_62 : decode cX4_clear 62 = .ok (.putfield 109, 3) := by decide +kernel
theorem dX4_clear_65 : decode cX4_clear 65 = .ok (.aload_n 0, 1) := by decide +kernel
theorem dX4_clear_66 : decode cX4_clear 66 = .ok (.iconst (-1), 1) := by decide +kernel
theorem dX4_clear_67 : decode cX4_clear 67 = .ok (.putfield 80, 3) := by decide +kernel
theorem dX4_clear_70 : decode cX4_clear 70 = .ok (.aload_n 0, 1) := by decide +kernel
theorem dX4_clear_71 : decode cX4_clear 71 = .ok (.iconst 0, 1) := by decide +kernel
theorem dX4_clear_72 : decode cX4_clear 72 = .ok (.putfield 112, 3) := by decide +kernel
theorem dX4_clear_75 : decode cX4_clear 75 = .ok (.iload_n 1, 1) := by decide +kernel
theorem dX4_clear_76 : decode cX4_clear 76 = .ok (.ireturn, 1) := by decide +kernel
set_option maxRecDepth 20000 in
theorem ggX4_action_X4_within : GoodIn wsX4_action wsX4_within := goodIn_r _ [10] (by decide +kernel) (by decide +kernel)
set_option maxRecDepth 20000 in
theorem gX4_action_X4_within : GoodIn wsX4_action (va_wsS RX4 96 yX4_within wsX4_within) := goodIn_app (goodIn_of _ (by decide +kernel)) ggX4_action_X4_within
set_option maxRecDepth 20000 in
theorem ggX4_action_X4_fail : GoodIn wsX4_action wsX4_fail := goodIn_r _ [14, 1, 18, 19, 20, 21, 22, 23, 24, 25, 26, 27, 28, 29, 30, 31, 32, 33, 34, 35, 36, 37, 38, 39, 40, 41, 42, 43, 44, 45, 46, 47, 48, 49, 50] (by decide +kernel) (by decide +kernel)
set_option maxRecDepth 20000 in
theorem gX4_action_X4_fail : GoodIn wsX4_action (wsV RX4 115 RX4 yX4_fail wsX4_fail) := goodIn_app (goodIn_of _ (by decide +kernel)) ggX4_action_X4_fail
set_option maxRecDepth 20000 in
theorem ggX4_action_X4_demand : GoodIn wsX4_action wsX4_demand := goodIn_r _ [17, 7, 8, 9, 10] (by decide +kernel) (by decide +kernel)
set_option maxRecDepth 20000 in
theorem gX4_action_X4_demand : GoodIn wsX4_action (va_wsS RX4 119 yX4_demand wsX4_demand) := goodIn_app (goodIn_of _ (by decide +kernel)) ggX4_action_X4_demand
theorem dX4_action_0 : decode cX4_action 0 = .ok (.aload_n 0, 1) := by decide +kernel
theorem dX4_action_1 : decode cX4_action 1 = .ok (.iconst 0, 1) := by decide +kernel
theorem dX4_action_2 : decode cX4_action 2 = .ok (.putfield 93, 3) := by decide +kernel
theorem dX4_action_5 : decode cX4_action 5 = .ok (.iload_n 1, 1) := by decide +kernel
theorem dX4_action_6 : decode cX4_action 6 = .ok (.iconst 0, 1) := by decide +kernel
theorem dX4_action_7 : decode cX4_action 7 = .ok (.bipush 7, 2) := by decide +kernel
theorem dX4_action_9 : decode cX4_action 9 = .ok (.invokestatic 96, 3) := by decide +kernel
theorem dX4_action_12 : decode cX4_action 12 = .ok (.ifCond .ne 17, 3) := by decide +kernel
theorem dX4_action_15 : decode cX4_action 15 = .ok (.aload_n 0, 1) := by decide +kernel
theorem dX4_action_16 : decode cX4_action 16 = .ok (.iconst 1, 1) := by decide +kernel
theorem dX4_action_17 : decode cX4_action 17 = .ok (.invokevirtual 115, 3) := by decide +kernel
theorem dX4_action_20 : decode cX4_action 20 = .ok (.ifCond .le 7, 3) := by decide +kernel
theorem dX4_action_23 : decode cX4_action 23 = .ok (.iconst 1, 1) := by decide +kernel
theorem dX4_action_24 : decode cX4_action 24 = .ok (.goto 4, 3) := by decide +kernel
theorem dX4_action_27 : decode cX4_action 27 = .ok (.iconst 0, 1) := by decide +kernel
theorem dX4_action_28 : decode cX4_action 28 = .ok (.ireturn, 1) := by decide +kernel
theorem dX4_action_29 : decode cX4_action 29 = .ok (.iload_n 2, 1) := by decide +kernel
theorem dX4_action_30 : decode cX4_action 30 = .ok (.iload_n 3, 1) := by decide +kernel
theorem dX4_action_31 : decode cX4_action 31 = .ok (.invokestatic 119, 3) := by decide +kernel
theorem dX4_action_34 : decode cX4_action 34 = .ok (.ifCond .eq 13, 3) := by decide +kernel
theorem dX4_action_37 : decode cX4_action 37 = .ok (.iload 4, 2) := by decide +kernel
theorem dX4_action_39 : decode cX4_action 39 = .ok (.iconst (-1), 1) := by decide +kernel
theorem dX4_action_40 : decode cX4_action 40 = .ok (.iconst 3, 1) := by decide +kernel
theorem dX4_action_41 : decode cX4_action 41 = .ok (.invokestatic 96, 3) := by decide +kernel
theorem dX4_action_44 : decode cX4_action 44 = .ok (.ifCond .ne 17, 3) := by decide +kernel
theorem dX4_action_47 : decode cX4_action 47 = .ok (.aload_n 0, 1) := by decide +kernel
theorem dX4_action_48 : decode cX4_action 48 = .ok (.iconst 2, 1) := by decide +kernel
theorem dX4_action_49 : decode cX4_action 49 = .ok (.invokevirtual 115, 3) := by decide +kernel
theorem dX4_action_52 : decode cX4_action 52 = .ok (.ifCond .le 7, 3) := by decide +kernel
theorem dX4_action_55 : decode cX4_action 55 = .ok (.iconst 1, 1) := by decide +kernel
theorem dX4_action_56 : decode cX4_action 56 = .ok (.goto 4, 3) := by decide +kernel
theorem dX4_action_59 : decode cX4_action 59 = .ok (.iconst 0, 1) := by decide +kernel
theorem dX4_action_60 : decode cX4_action 60 = .ok (.ireturn, 1) := by decide +kernel
theorem dX4_action_61 : decode cX4_action 61 = .ok (.aload_n 0, 1) := by decide +kernel
theorem dX4_action_62 : decode cX4_action 62 = .ok (.getfield 7, 3) := by decide +kernel
theorem dX4_action_65 : decode cX4_action 65 = .ok (.iload_n 1, 1) := by decide +kernel
theorem dX4_action_66 : decode cX4_action 66 = .ok (.baload, 1) := by decide +kernel
theorem dX4_action_67 : decode cX4_action 67 = .ok (.istore 5, 2) := by decide +kernel
theorem dX4_action_69 : decode cX4_action 69 = .ok (.aload_n 0, 1) := by decide +kernel
theorem dX4_action_70 : decode cX4_action 70 = .ok (.getfield 7, 3) := by decide +kernel
theorem dX4_action_73 : decode cX4_action 73 = .ok (.iload_n 1, 1) := by decide +kernel
theorem dX4_action_74 : decode cX4_action 74 = .ok (.iconst 1, 1) := by decide +kernel
theorem dX4_action_75 : decode cX4_action 75 = .ok (.bastore, 1) := by decide +kernel
theorem dX4_action_76 : decode cX4_action 76 = .ok (.aload_n 0, 1) := by decide +kernel
theorem dX4_action_77 : decode cX4_action 77 = .ok (.getfield 13, 3) := by decide +kernel
theorem dX4_action_80 : decode cX4_action 80 = .ok (.iload_n 1, 1) := by decide +kernel
theorem dX4_action_81 : decode cX4_action 81 = .ok (.iload_n 2, 1) := by decide +kernel
theorem dX4_action_82 : decode cX4_action 82 = .ok (.iastore, 1) := by decide +kernel
theorem dX4_action_83 : decode cX4_action 83 = .ok (.aload_n 0, 1) := by decide +kernel
theorem dX4_action_84 : decode cX4_action 84 = .ok (.getfield 17, 3) := by decide +kernel
theorem dX4_action_87 : decode cX4_action 87 = .ok (.iload_n 1, 1) := by decide +kernel
theorem dX4_action_88 : decode cX4_action 88 = .ok (.iload_n 3, 1) := by decide +kernel
theorem dX4_action_89 : decode cX4_action 89 = .ok (.iastore, 1) := by decide +kernel
theorem dX4_action_90 : decode cX4_action 90 = .ok (.aload_n 0, 1) := by decide +kernel
theorem dX4_action_91 : decode cX4_action 91 = .ok (.getfield 20, 3) := by decide +kernel
theorem dX4_action_94 : decode cX4_action 94 = .ok (.iload_n 1, 1) := by decide +kernel
theorem dX4_action_95 : decode cX4_action 95 = .ok (.iload 4, 2) := by decide +kernel
theorem dX4_action_97 : decode cX4_action 97 = .ok (.iastore, 1) := by decide +kernel
theorem dX4_action_98 : decode cX4_action 98 = .ok (.aload_n 0, 1) := by decide +kernel
theorem dX4_action_99 : decode cX4_action 99 = .ok (.getfield 23, 3) := by decide +kernel
theorem dX4_action_102 : decode cX4_action 102 = .ok (.iload_n 1, 1) := by decide +kernel
theorem dX4_action_103 : decode cX4_action 103 = .ok (.iconst 0, 1) := by decide +kernel
theorem dX4_action_104 : decode cX4_action 104 = .ok (.iastore, 1) := by decide +kernel
theorem dX4_action_105 : decode cX4_action 105 = .ok (.iload 5, 2) := by decide +kernel
theorem dX4_action_107 : decode cX4_action 107 = .ok (.ireturn, 1) := by decide +kernel
set_option maxRecDepth 20000 in
theorem ggX4_effect_X4_within : GoodIn wsX4_effect wsX4_within := goodIn_r _ [11] (by decide +kernel) (by decide +kernel)
set_option maxRecDepth 20000 in
theorem gX4_effect_X4_within : GoodIn wsX4_effect (va_wsS RX4 96 yX4_within wsX4_within) := goodIn_app (goodIn_of _ (by decide +kernel)) ggX4_effect_X4_within
set_option maxRecDepth 20000 in
theorem ggX4_effect_X4_fail : GoodIn wsX4_effect wsX4_fail := goodIn_r _ [15, 1, 19, 20, 21, 22, 23, 24, 25, 26, 27, 28, 29, 30, 31, 32, 33, 34, 35, 36, 37, 38, 39, 40, 41, 42, 43, 44, 45, 46, 47, 48, 49, 50, 51] (by decide +kernel) (by decide +kernel)
set_option maxRecDepth 20000 in
theorem gX4_effect_X4_fail : GoodIn wsX4_effect (wsV RX4 115 RX4 yX4_fail wsX4_fail) := goodIn_app (goodIn_of _ (by decide +kernel)) ggX4_effect_X4_fail
set_option maxRecDepth 20000 in
theorem ggX4_effect_X4_demand : GoodIn wsX4_effect wsX4_demand := goodIn_r _ [18, 8, 9, 10, 11] (by decide +kernel) (by decide +kernel)
set_option maxRecDepth 20000 in
theorem gX4_effect_X4_demand : GoodIn wsX4_effect (va_wsS RX4 119 yX4_demand wsX4_demand) := goodIn_app (goodIn_of _ (by decide +kernel)) ggX4_effect_X4_demand
theorem dX4_effect_0 : decode cX4_effect 0 = .ok (.aload_n 0, 1) := by decide +kernel
theorem dX4_effect_1 : decode cX4_effect 1 = .ok (.iconst 0, 1) := by decide +kernel
theorem dX4_effect_2 : decode cX4_effect 2 = .ok (.putfield 93, 3) := by decide +kernel
theorem dX4_effect_5 : decode cX4_effect 5 = .ok (.iload_n 1, 1) := by decide +kernel
theorem dX4_effect_6 : decode cX4_effect 6 = .ok (.iconst 0, 1) := by decide +kernel
theorem dX4_effect_7 : decode cX4_effect 7 = .ok (.bipush 7, 2) := by decide +kernel
theorem dX4_effect_9 : decode cX4_effect 9 = .ok (.invokestatic 96, 3) := by decide +kernel
theorem dX4_effect_12 : decode cX4_effect 12 = .ok (.ifCond .ne 9, 3) := by decide +kernel
theorem dX4_effect_15 : decode cX4_effect 15 = .ok (.aload_n 0, 1) := by decide +kernel
theorem dX4_effect_16 : decode cX4_effect 16 = .ok (.iconst 1, 1) := by decide +kernel
theorem dX4_effect_17 : decode cX4_effect 17 = .ok (.invokevirtual 115, 3) := by decide +kernel
theorem dX4_effect_20 : decode cX4_effect 20 = .ok (.ireturn, 1) := by decide +kernel
theorem dX4_effect_21 : decode cX4_effect 21 = .ok (.aload_n 0, 1) := by decide +kernel
theorem dX4_effect_22 : decode cX4_effect 22 = .ok (.getfield 7, 3) := by decide +kernel
theorem dX4_effect_25 : decode cX4_effect 25 = .ok (.iload_n 1, 1) := by decide +kernel
theorem dX4_effect_26 : decode cX4_effect 26 = .ok (.baload, 1) := by decide +kernel
theorem dX4_effect_27 : decode cX4_effect 27 = .ok (.ifCond .ne 9, 3) := by decide +kernel
theorem dX4_effect_30 : decode cX4_effect 30 = .ok (.aload_n 0, 1) := by decide +kernel
theorem dX4_effect_31 : decode cX4_effect 31 = .ok (.iconst 2, 1) := by decide +kernel
theorem dX4_effect_32 : decode cX4_effect 32 = .ok (.invokevirtual 115, 3) := by decide +kernel
theorem dX4_effect_35 : decode cX4_effect 35 = .ok (.ireturn, 1) := by decide +kernel
theorem dX4_effect_36 : decode cX4_effect 36 = .ok (.iload 4, 2) := by decide +kernel
theorem dX4_effect_38 : decode cX4_effect 38 = .ok (.iload 5, 2) := by decide +kernel
theorem dX4_effect_40 : decode cX4_effect 40 = .ok (.invokestatic 119, 3) := by decide +kernel
theorem dX4_effect_43 : decode cX4_effect 43 = .ok (.ifCond .eq 12, 3) := by decide +kernel
theorem dX4_effect_46 : decode cX4_effect 46 = .ok (.iload_n 2, 1) := by decide +kernel
theorem dX4_effect_47 : decode cX4_effect 47 = .ok (.iconst 0, 1) := by decide +kernel
theorem dX4_effect_48 : decode cX4_effect 48 = .ok (.iconst 3, 1) := by decide +kernel
theorem dX4_effect_49 : decode cX4_effect 49 = .ok (.invokestatic 96, 3) := by decide +kernel
theorem dX4_effect_52 : decode cX4_effect 52 = .ok (.ifCond .ne 9, 3) := by decide +kernel
theorem dX4_effect_55 : decode cX4_effect 55 = .ok (.aload_n 0, 1) := by decide +kernel
theorem dX4_effect_56 : decode cX4_effect 56 = .ok (.iconst 3, 1) := by decide +kernel
theorem dX4_effect_57 : decode cX4_effect 57 = .ok (.invokevirtual 115, 3) := by decide +kernel
theorem dX4_effect_60 : decode cX4_effect 60 = .ok (.ireturn, 1) := by decide +kernel
theorem dX4_effect_61 : decode cX4_effect 61 = .ok (.aload_n 0, 1) := by decide +kernel
theorem dX4_effect_62 : decode cX4_effect 62 = .ok (.getfield 23, 3) := by decide +kernel
theorem dX4_effect_65 : decode cX4_effect 65 = .ok (.iload_n 1, 1) := by decide +kernel
theorem dX4_effect_66 : decode cX4_effect 66 = .ok (.iaload, 1) := by decide +kernel
theorem dX4_effect_67 : decode cX4_effect 67 = .ok (.iconst 4, 1) := by decide +kernel
theorem dX4_effect_68 : decode cX4_effect 68 = .ok (.if_icmp .ne 9, 3) := by decide +kernel
theorem dX4_effect_71 : decode cX4_effect 71 = .ok (.aload_n 0, 1) := by decide +kernel
theorem dX4_effect_72 : decode cX4_effect 72 = .ok (.iconst 4, 1) := by decide +kernel
theorem dX4_effect_73 : decode cX4_effect 73 = .ok (.invokevirtual 115, 3) := by decide +kernel
theorem dX4_effect_76 : decode cX4_effect 76 = .ok (.ireturn, 1) := by decide +kernel
theorem dX4_effect_77 : decode cX4_effect 77 = .ok (.iconst 4, 1) := by decide +kernel
theorem dX4_effect_78 : decode cX4_effect 78 = .ok (.iload_n 1, 1) := by decide +kernel
theorem dX4_effect_79 : decode cX4_effect 79 = .ok (.imul, 1) := by decide +kernel
theorem dX4_effect_80 : decode cX4_effect 80 = .ok (.aload_n 0, 1) := by decide +kernel
theorem dX4_effect_81 : decode cX4_effect 81 = .ok (.getfield 23, 3) := by decide +kernel
theorem dX4_effect_84 : decode cX4_effect 84 = .ok (.iload_n 1, 1) := by decide +kernel
theorem dX4_effect_85 : decode cX4_effect 85 = .ok (.iaload, 1) := by decide +kernel
theorem dX4_effect_86 : decode cX4_effect 86 = .ok (.iadd, 1) := by decide +kernel
theorem dX4_effect_87 : decode cX4_effect 87 = .ok (.istore 6, 2) := by decide +kernel
theorem dX4_effect_89 : decode cX4_effect 89 = .ok (.aload_n 0, 1) := by decide +kernel
theorem dX4_effect_90 : decode cX4_effect 90 = .ok (.getfield 26, 3) := by decide +kernel
theorem dX4_effect_93 : decode cX4_effect 93 = .ok (.iload 6, 2) := by decide +kernel
theorem dX4_effect_95 : decode cX4_effect 95 = .ok (.iload_n 2, 1) := by decide +kernel
theorem dX4_effect_96 : decode cX4_effect 96 = .ok (.iastore, 1) := by decide +kernel
theorem dX4_effect_97 : decode cX4_effect 97 = .ok (.aload_n 0, 1) := by decide +kernel
theorem dX4_effect_98 : decode cX4_effect 98 = .ok (.getfield 29, 3) := by decide +kernel
theorem dX4_effect_101 : decode cX4_effect 101 = .ok (.iload 6, 2) := by decide +kernel
theorem dX4_effect_103 : decode cX4_effect 103 = .ok (.iload_n 3, 1) := by decide +kernel
theorem dX4_effect_104 : decode cX4_effect 104 = .ok (.bastore, 1) := by decide +kernel
theorem dX4_effect_105 : decode cX4_effect 105 = .ok (.aload_n 0, 1) := by decide +kernel
theorem dX4_effect_106 : decode cX4_effect 106 = .ok (.getfield 32, 3) := by decide +kernel
theorem dX4_effect_109 : decode cX4_effect 109 = .ok (.iload 6, 2) := by decide +kernel
theorem dX4_effect_111 : decode cX4_effect 111 = .ok (.iload 4, 2) := by decide +kernel
theorem dX4_effect_113 : decode cX4_effect 113 = .ok (.iastore, 1) := by decide +kernel
theorem dX4_effect_114 : decode cX4_effect 114 = .ok (.aload_n 0, 1) := by decide +kernel
theorem dX4_effect_115 : decode cX4_effect 115 = .ok (.getfield 35, 3) := by decide +kernel
theorem dX4_effect_118 : decode cX4_effect 118 = .ok (.iload 6, 2) := by decide +kernel
theorem dX4_effect_120 : decode cX4_effect 120 = .ok (.iload 5, 2) := by decide +kernel
theorem dX4_effect_122 : decode cX4_effect 122 = .ok (.iastore, 1) := by decide +kernel
theorem dX4_effect_123 : decode cX4_effect 123 = .ok (.aload_n 0, 1) := by decide +kernel
theorem dX4_effect_124 : decode cX4_effect 124 = .ok (.getfield 23, 3) := by decide +kernel
theorem dX4_effect_127 : decode cX4_effect 127 = .ok (.iload_n 1, 1) := by decide +kernel
theorem dX4_effect_128 : decode cX4_effect 128 = .ok (.dup2, 1) := by decide +kernel
theorem dX4_effect_129 : decode cX4_effect 129 = .ok (.iaload, 1) := by decide +kernel
theorem dX4_effect_130 : decode cX4_effect 130 = .ok (.iconst 1, 1) := by decide +kernel
theorem dX4_effect_131 : decode cX4_effect 131 = .ok (.iadd, 1) := by decide +kernel
theorem dX4_effect_132 : decode cX4_effect 132 = .ok (.iastore, 1) := by decide +kernel
theorem dX4_effect_133 : decode cX4_effect 133 = .ok (.aload_n 0, 1) := by decide +kernel
theorem dX4_effect_134 : decode cX4_effect 134 = .ok (.getfield 23, 3) := by decide +kernel
theorem dX4_effect_137 : decode cX4_effect 137 = .ok (.iload_n 1, 1) := by decide +kernel
theorem dX4_effect_138 : decode cX4_effect 138 = .ok (.iaload, 1) := by decide +kernel
theorem dX4_effect_139 : decode cX4_effect 139 = .ok (.ireturn, 1) := by decide +kernel
set_option maxRecDepth 20000 in
theorem ggX4_clause_X4_demand : GoodIn wsX4_clause wsX4_demand := goodIn_r _ [8, 9, 10, 7, 11] (by decide +kernel) (by decide +kernel)
set_option maxRecDepth 20000 in
theorem gX4_clause_X4_demand : GoodIn wsX4_clause (va_wsS RX4 119 yX4_demand wsX4_demand) := goodIn_app (goodIn_of _ (by decide +kernel)) ggX4_clause_X4_demand
set_option maxRecDepth 20000 in
theorem ggX4_clause_X4_fail : GoodIn wsX4_clause wsX4_fail := goodIn_r _ [15, 1, 16, 17, 18, 19, 20, 21, 22, 23, 24, 25, 26, 27, 28, 29, 30, 31, 32, 33, 34, 35, 36, 37, 38, 39, 40, 41, 42, 43, 44, 45, 46, 47, 48] (by decide +kernel) (by decide +kernel)
set_option maxRecDepth 20000 in
theorem gX4_clause_X4_fail : GoodIn wsX4_clause (wsV RX4 115 RX4 yX4_fail wsX4_fail) := goodIn_app (goodIn_of _ (by decide +kernel)) ggX4_clause_X4_fail
theorem dX4_clause_0 : decode cX4_clause 0 = .ok (.aload_n 0, 1) := by decide +kernel
theorem dX4_clause_1 : decode cX4_clause 1 = .ok (.iconst 0, 1) := by decide +kernel
theorem dX4_clause_2 : decode cX4_clause 2 = .ok (.putfield 93, 3) := by decide +kernel
theorem dX4_clause_5 : decode cX4_clause 5 = .ok (.iload_n 1, 1) := by decide +kernel
theorem dX4_clause_6 : decode cX4_clause 6 = .ok (.iload_n 2, 1) := by decide +kernel
theorem dX4_clause_7 : decode cX4_clause 7 = .ok (.invokestatic 119, 3) := by decide +kernel
theorem dX4_clause_10 : decode cX4_clause 10 = .ok (.ifCond .ne 9, 3) := by decide +kernel
theorem dX4_clause_13 : decode cX4_clause 13 = .ok (.aload_n 0, 1) := by decide +kernel
theorem dX4_clause_14 : decode cX4_clause 14 = .ok (.iconst 1, 1) := by decide +kernel
theorem dX4_clause_15 : decode cX4_clause 15 = .ok (.invokevirtual 115, 3) := by decide +kernel
theorem dX4_clause_18 : decode cX4_clause 18 = .ok (.ireturn, 1) := by decide +kernel
theorem dX4_clause_19 : decode cX4_clause 19 = .ok (.aload_n 0, 1) := by decide +kernel
theorem dX4_clause_20 : decode cX4_clause 20 = .ok (.getfield 100, 3) := by decide +kernel
theorem dX4_clause_23 : decode cX4_clause 23 = .ok (.bipush 6, 2) := by decide +kernel
theorem dX4_clause_25 : decode cX4_clause 25 = .ok (.if_icmp .ne 9, 3) := by decide +kernel
theorem dX4_clause_28 : decode cX4_clause 28 = .ok (.aload_n 0, 1) := by decide +kernel
theorem dX4_clause_29 : decode cX4_clause 29 = .ok (.iconst 2, 1) := by decide +kernel
theorem dX4_clause_30 : decode cX4_clause 30 = .ok (.invokevirtual 115, 3) := by decide +kernel
theorem dX4_clause_33 : decode cX4_clause 33 = .ok (.ireturn, 1) := by decide +kernel
theorem dX4_clause_34 : decode cX4_clause 34 = .ok (.aload_n 0, 1) := by decide +kernel
theorem dX4_clause_35 : decode cX4_clause 35 = .ok (.getfield 38, 3) := by decide +kernel
theorem dX4_clause_38 : decode cX4_clause 38 = .ok (.aload_n 0, 1) := by decide +kernel
theorem dX4_clause_39 : decode cX4_clause 39 = .ok (.getfield 100, 3) := by decide +kernel
theorem dX4_clause_42 : decode cX4_clause 42 = .ok (.iload_n 1, 1) := by decide +kernel
theorem dX4_clause_43 : decode cX4_clause 43 = .ok (.iastore, 1) := by decide +kernel
theorem dX4_clause_44 : decode cX4_clause 44 = .ok (.aload_n 0, 1) := by decide +kernel
theorem dX4_clause_45 : decode cX4_clause 45 = .ok (.getfield 41, 3) := by decide +kernel
theorem dX4_clause_48 : decode cX4_clause 48 = .ok (.aload_n 0, 1) := by decide +kernel
theorem dX4_clause_49 : decode cX4_clause 49 = .ok (.getfield 100, 3) := by decide +kernel
theorem dX4_clause_52 : decode cX4_clause 52 = .ok (.iload_n 2, 1) := by decide +kernel
theorem dX4_clause_53 : decode cX4_clause 53 = .ok (.iastore, 1) := by decide +kernel
theorem dX4_clause_54 : decode cX4_clause 54 = .ok (.aload_n 0, 1) := by decide +kernel
theorem dX4_clause_55 : decode cX4_clause 55 = .ok (.dup, 1) := by decide +kernel
theorem dX4_clause_56 : decode cX4_clause 56 = .ok (.getfield 100, 3) := by decide +kernel
theorem dX4_clause_59 : decode cX4_clause 59 = .ok (.iconst 1, 1) := by decide +kernel
theorem dX4_clause_60 : decode cX4_clause 60 = .ok (.iadd, 1) := by decide +kernel
theorem dX4_clause_61 : decode cX4_clause 61 = .ok (.putfield 100, 3) := by decide +kernel
theorem dX4_clause_64 : decode cX4_clause 64 = .ok (.aload_n 0, 1) := by decide +kernel
theorem dX4_clause_65 : decode cX4_clause 65 = .ok (.getfield 100, 3) := by decide +kernel
theorem dX4_clause_68 : decode cX4_clause 68 = .ok (.ireturn, 1) := by decide +kernel
set_option maxRecDepth 20000 in
theorem ggX4_goal_X4_demand : GoodIn wsX4_goal wsX4_demand := goodIn_r _ [7, 8, 9, 6, 10] (by decide +kernel) (by decide +kernel)
set_option maxRecDepth 20000 in
theorem gX4_goal_X4_demand : GoodIn wsX4_goal (va_wsS RX4 119 yX4_demand wsX4_demand) := goodIn_app (goodIn_of _ (by decide +kernel)) ggX4_goal_X4_demand
set_option maxRecDepth 20000 in
theorem ggX4_goal_X4_fail : GoodIn wsX4_goal wsX4_fail := goodIn_r _ [14, 1, 18, 19, 20, 21, 22, 23, 24, 25, 26, 27, 28, 29, 30, 31, 32, 33, 34, 35, 36, 37, 38, 39, 40, 41, 42, 43, 44, 45, 46, 47, 48, 49, 50] (by decide +kernel) (by decide +kernel)
set_option maxRecDepth 20000 in
theorem gX4_goal_X4_fail : GoodIn wsX4_goal (wsV RX4 115 RX4 yX4_fail wsX4_fail) := goodIn_app (goodIn_of _ (by decide +kernel)) ggX4_goal_X4_fail
set_option maxRecDepth 20000 in
theorem ggX4_goal_X4_holds : GoodIn wsX4_goal wsX4_holds := goodIn_r _ [17] (by decide +kernel) (by decide +kernel)
set_option maxRecDepth 20000 in
theorem gX4_goal_X4_holds : GoodIn wsX4_goal (va_wsS RX4 123 yX4_holds wsX4_holds) := goodIn_app (goodIn_of _ (by decide +kernel)) ggX4_goal_X4_holds
theorem dX4_goal_0 : decode cX4_goal 0 = .ok (.aload_n 0, 1) := by decide +kernel
theorem dX4_goal_1 : decode cX4_goal 1 = .ok (.iconst 0, 1) := by decide +kernel
theorem dX4_goal_2 : decode cX4_goal 2 = .ok (.putfield 93, 3) := by decide +kernel
theorem dX4_goal_5 : decode cX4_goal 5 = .ok (.iload_n 1, 1) := by decide +kernel
theorem dX4_goal_6 : decode cX4_goal 6 = .ok (.iload_n 2, 1) := by decide +kernel
theorem dX4_goal_7 : decode cX4_goal 7 = .ok (.invokestatic 119, 3) := by decide +kernel
theorem dX4_goal_10 : decode cX4_goal 10 = .ok (.ifCond .ne 9, 3) := by decide +kernel
theorem dX4_goal_13 : decode cX4_goal 13 = .ok (.aload_n 0, 1) := by decide +kernel
theorem dX4_goal_14 : decode cX4_goal 14 = .ok (.iconst 1, 1) := by decide +kernel
theorem dX4_goal_15 : decode cX4_goal 15 = .ok (.invokevirtual 115, 3) := by decide +kernel
theorem dX4_goal_18 : decode cX4_goal 18 = .ok (.ireturn, 1) := by decide +kernel
theorem dX4_goal_19 : decode cX4_goal 19 = .ok (.aload_n 0, 1) := by decide +kernel
theorem dX4_goal_20 : decode cX4_goal 20 = .ok (.iload_n 1, 1) := by decide +kernel
theorem dX4_goal_21 : decode cX4_goal 21 = .ok (.putfield 103, 3) := by decide +kernel
theorem dX4_goal_24 : decode cX4_goal 24 = .ok (.aload_n 0, 1) := by decide +kernel
theorem dX4_goal_25 : decode cX4_goal 25 = .ok (.iload_n 2, 1) := by decide +kernel
theorem dX4_goal_26 : decode cX4_goal 26 = .ok (.putfield 106, 3) := by decide +kernel
theorem dX4_goal_29 : decode cX4_goal 29 = .ok (.iconst 0, 1) := by decide +kernel
theorem dX4_goal_30 : decode cX4_goal 30 = .ok (.istore_n 3, 1) := by decide +kernel
theorem dX4_goal_31 : decode cX4_goal 31 = .ok (.iconst 0, 1) := by decide +kernel
theorem dX4_goal_32 : decode cX4_goal 32 = .ok (.istore 4, 2) := by decide +kernel
theorem dX4_goal_34 : decode cX4_goal 34 = .ok (.iload 4, 2) := by decide +kernel
theorem dX4_goal_36 : decode cX4_goal 36 = .ok (.bipush 16, 2) := by decide +kernel
theorem dX4_goal_38 : decode cX4_goal 38 = .ok (.if_icmp .ge 27, 3) := by decide +kernel
theorem dX4_goal_41 : decode cX4_goal 41 = .ok (.iload_n 3, 1) := by decide +kernel
theorem dX4_goal_42 : decode cX4_goal 42 = .ok (.iload_n 1, 1) := by decide +kernel
theorem dX4_goal_43 : decode cX4_goal 43 = .ok (.iload_n 2, 1) := by decide +kernel
theorem dX4_goal_44 : decode cX4_goal 44 = .ok (.iload 4, 2) := by decide +kernel
theorem dX4_goal_46 : decode cX4_goal 46 = .ok (.invokestatic 123, 3) := by decide +kernel
theorem dX4_goal_49 : decode cX4_goal 49 = .ok (.ifCond .eq 7, 3) := by decide +kernel
theorem dX4_goal_52 : decode cX4_goal 52 = .ok (.iconst 1, 1) := by decide +kernel
theorem dX4_goal_53 : decode cX4_goal 53 = .ok (.goto 4, 3) := by decide +kernel
theorem dX4_goal_56 : decode cX4_goal 56 = .ok (.iconst 0, 1) := by decide +kernel
theorem dX4_goal_57 : decode cX4_goal 57 = .ok (.iadd, 1) := by decide +kernel
theorem dX4_goal_58 : decode cX4_goal 58 = .ok (.istore_n 3, 1) := by decide +kernel
theorem dX4_goal_59 : decode cX4_goal 59 = .ok (.iinc 4 1, 3) := by decide +kernel
theorem dX4_goal_62 : decode cX4_goal 62 = .ok (.goto (-28), 3) := by decide +kernel
theorem dX4_goal_65 : decode cX4_goal 65 = .ok (.iload_n 3, 1) := by decide +kernel
theorem dX4_goal_66 : decode cX4_goal 66 = .ok (.ireturn, 1) := by decide +kernel
theorem dX4_startBelief_0 : decode cX4_startBelief 0 = .ok (.iconst 0, 1) := by decide +kernel
theorem dX4_startBelief_1 : decode cX4_startBelief 1 = .ok (.istore_n 1, 1) := by decide +kernel
theorem dX4_startBelief_2 : decode cX4_startBelief 2 = .ok (.iconst 0, 1) := by decide +kernel
theorem dX4_startBelief_3 : decode cX4_startBelief 3 = .ok (.istore_n 2, 1) := by decide +kernel
theorem dX4_startBelief_4 : decode cX4_startBelief 4 = .ok (.iload_n 2, 1) := by decide +kernel
theorem dX4_startBelief_5 : decode cX4_startBelief 5 = .ok (.bipush 16, 2) := by decide +kernel
theorem dX4_startBelief_7 : decode cX4_startBelief 7 = .ok (.if_icmp .ge 79, 3) := by decide +kernel
theorem dX4_startBelief_10 : decode cX4_startBelief 10 = .ok (.iconst 1, 1) := by decide +kernel
theorem dX4_startBelief_11 : decode cX4_startBelief 11 = .ok (.istore_n 3, 1) := by decide +kernel
theorem dX4_startBelief_12 : decode cX4_startBelief 12 = .ok (.iconst 0, 1) := by decide +kernel
theorem dX4_startBelief_13 : decode cX4_startBelief 13 = .ok (.istore 4, 2) := by decide +kernel
theorem dX4_startBelief_15 : decode cX4_startBelief 15 = .ok (.iload 4, 2) := by decide +kernel
theorem dX4_startBelief_17 : decode cX4_startBelief 17 = .ok (.aload_n 0, 1) := by decide +kernel
theorem dX4_startBelief_18 : decode cX4_startBelief 18 = .ok (.getfield 100, 3) := by decide +kernel
theorem dX4_startBelief_21 : decode cX4_startBelief 21 = .ok (.if_icmp .ge 45, 3) := by decide +kernel
theorem dX4_startBelief_24 : decode cX4_startBelief 24 = .ok (.iload_n 3, 1) := by decide +kernel
theorem dX4_startBelief_25 : decode cX4_startBelief 25 = .ok (.ifCond .eq 33, 3) := by decide +kernel
theorem dX4_startBelief_28 : decode cX4_startBelief 28 = .ok (.iload_n 2, 1) := by decide +kernel
theorem dX4_startBelief_29 : decode cX4_startBelief 29 = .ok (.aload_n 0, 1) := by decide +kernel
theorem dX4_startBelief_30 : decode cX4_startBelief 30 = .ok (.getfield 38, 3) := by decide +kernel
theorem dX4_startBelief_33 : decode cX4_startBelief 33 = .ok (.iload 4, 2) := by decide +kernel
theorem dX4_startBelief_35 : decode cX4_startBelief 35 = .ok (.iaload, 1) := by decide +kernel
theorem dX4_startBelief_36 : decode cX4_startBelief 36 = .ok (.iand, 1) := by decide +kernel
theorem dX4_startBelief_37 : decode cX4_startBelief 37 = .ok (.ifCond .ne 17, 3) := by decide +kernel
theorem dX4_startBelief_40 : decode cX4_startBelief 40 = .ok (.iload_n 2, 1) := by decide +kernel
theorem dX4_startBelief_41 : decode cX4_startBelief 41 = .ok (.iconst (-1), 1) := by decide +kernel
theorem dX4_startBelief_42 : decode cX4_startBelief 42 = .ok (.ixor, 1) := by decide +kernel
theorem dX4_startBelief_43 : decode cX4_startBelief 43 = .ok (.aload_n 0, 1) := by decide +kernel
theorem dX4_startBelief_44 : decode cX4_startBelief 44 = .ok (.getfield 41, 3) := by decide +kernel
theorem dX4_startBelief_47 : decode cX4_startBelief 47 = .ok (.iload 4, 2) := by decide +kernel
theorem dX4_startBelief_49 : decode cX4_startBelief 49 = .ok (.iaload, 1) := by decide +kernel
theorem dX4_startBelief_50 : decode cX4_startBelief 50 = .ok (.iand, 1) := by decide +kernel
theorem dX4_startBelief_51 : decode cX4_startBelief 51 = .ok (.ifCond .eq 7, 3) := by decide +kernel
theorem dX4_startBelief_54 : decode cX4_startBelief 54 = .ok (.iconst 1, 1) := by decide +kernel
theorem dX4_startBelief_55 : decode cX4_startBelief 55 = .ok (.goto 4, 3) := by decide +kernel
theorem dX4_startBelief_58 : decode cX4_startBelief 58 = .ok (.iconst 0, 1) := by decide +kernel
theorem dX4_startBelief_59 : decode cX4_startBelief 59 = .ok (.istore_n 3, 1) := by decide +kernel
theorem dX4_startBelief_60 : decode cX4_startBelief 60 = .ok (.iinc 4 1, 3) := by decide +kernel
theorem dX4_startBelief_63 : decode cX4_startBelief 63 = .ok (.goto (-48), 3) := by decide +kernel
theorem dX4_startBelief_66 : decode cX4_startBelief 66 = .ok (.iload_n 1, 1) := by decide +kernel
theorem dX4_startBelief_67 : decode cX4_startBelief 67 = .ok (.iload_n 3, 1) := by decide +kernel
theorem dX4_startBelief_68 : decode cX4_startBelief 68 = .ok (.ifCond .eq 9, 3) := by decide +kernel
theorem dX4_startBelief_71 : decode cX4_startBelief 71 = .ok (.iconst 1, 1) := by decide +kernel
theorem dX4_startBelief_72 : decode cX4_startBelief 72 = .ok (.iload_n 2, 1) := by decide +kernel
theorem dX4_startBelief_73 : decode cX4_startBelief 73 = .ok (.ishl, 1) := by decide +kernel
theorem dX4_startBelief_74 : decode cX4_startBelief 74 = .ok (.goto 4, 3) := by decide +kernel
theorem dX4_startBelief_77 : decode cX4_startBelief 77 = .ok (.iconst 0, 1) := by decide +kernel
theorem dX4_startBelief_78 : decode cX4_startBelief 78 = .ok (.ior, 1) := by decide +kernel
theorem dX4_startBelief_79 : decode cX4_startBelief 79 = .ok (.istore_n 1, 1) := by decide +kernel
theorem dX4_startBelief_80 : decode cX4_startBelief 80 = .ok (.iinc 2 1, 3) := by decide +kernel
theorem dX4_startBelief_83 : decode cX4_startBelief 83 = .ok (.goto (-79), 3) := by decide +kernel
theorem dX4_startBelief_86 : decode cX4_startBelief 86 = .ok (.iload_n 1, 1) := by decide +kernel
theorem dX4_startBelief_87 : decode cX4_startBelief 87 = .ok (.ireturn, 1) := by decide +kernel
set_option maxRecDepth 20000 in
theorem ggX4_start_X4_startBelief : GoodIn wsX4_start wsX4_startBelief := goodIn_r _ [6, 7, 8, 9, 10, 11, 12, 13, 14, 15, 16, 17, 18, 19, 20, 21, 22, 23, 24, 25, 26, 27, 28, 29, 30, 31, 32, 33, 34, 35, 36, 37, 38, 39, 40, 41, 42] (by decide +kernel) (by decide +kernel)
set_option maxRecDepth 20000 in
theorem gX4_start_X4_startBelief : GoodIn wsX4_start (wsV RX4 126 RX4 yX4_startBelief wsX4_startBelief) := goodIn_app (goodIn_of _ (by decide +kernel)) ggX4_start_X4_startBelief
theorem dX4_start_0 : decode cX4_start 0 = .ok (.aload_n 0, 1) := by decide +kernel
theorem dX4_start_1 : decode cX4_start 1 = .ok (.iconst 0, 1) := by decide +kernel
theorem dX4_start_2 : decode cX4_start 2 = .ok (.putfield 93, 3) := by decide +kernel
theorem dX4_start_5 : decode cX4_start 5 = .ok (.aload_n 0, 1) := by decide +kernel
theorem dX4_start_6 : decode cX4_start 6 = .ok (.invokevirtual 126, 3) := by decide +kernel
theorem dX4_start_9 : decode cX4_start 9 = .ok (.ireturn, 1) := by decide +kernel
set_option maxRecDepth 20000 in
theorem ggX4_usable_X4_holds : GoodIn wsX4_usable wsX4_holds := goodIn_r _ [7] (by decide +kernel) (by decide +kernel)
set_option maxRecDepth 20000 in
theorem gX4_usable_X4_holds : GoodIn wsX4_usable (va_wsS RX4 123 yX4_holds wsX4_holds) := goodIn_app (goodIn_of _ (by decide +kernel)) ggX4_usable_X4_holds
theorem dX4_usable_0 : decode cX4_usable 0 = .ok (.aload_n 0, 1) := by decide +kernel
theorem dX4_usable_1 : decode cX4_usable 1 = .ok (.getfield 7, 3) := by decide +kernel
theorem dX4_usable_4 : decode cX4_usable 4 = .ok (.iload_n 1, 1) := by decide +kernel
theorem dX4_usable_5 : decode cX4_usable 5 = .ok (.baload, 1) := by decide +kernel
theorem dX4_usable_6 : decode cX4_usable 6 = .ok (.istore_n 3, 1) := by decide +kernel
theorem dX4_usable_7 : decode cX4_usable 7 = .ok (.iconst 0, 1) := by decide +kernel
theorem dX4_usable_8 : decode cX4_usable 8 = .ok (.istore 4, 2) := by decide +kernel
theorem dX4_usable_10 : decode cX4_usable 10 = .ok (.iload 4, 2) := by decide +kernel
theorem dX4_usable_12 : decode cX4_usable 12 = .ok (.bipush 16, 2) := by decide +kernel
theorem dX4_usable_14 : decode cX4_usable 14 = .ok (.if_icmp .ge 48, 3) := by decide +kernel
theorem dX4_usable_17 : decode cX4_usable 17 = .ok (.iload_n 3, 1) := by decide +kernel
theorem dX4_usable_18 : decode cX4_usable 18 = .ok (.ifCond .eq 44, 3) := by decide +kernel
theorem dX4_usable_21 : decode cX4_usable 21 = .ok (.iload_n 2, 1) := by decide +kernel
theorem dX4_usable_22 : decode cX4_usable 22 = .ok (.iload 4, 2) := by decide +kernel
theorem dX4_usable_24 : decode cX4_usable 24 = .ok (.ishr, 1) := by decide +kernel
theorem dX4_usable_25 : decode cX4_usable 25 = .ok (.iconst 1, 1) := by decide +kernel
theorem dX4_usable_26 : decode cX4_usable 26 = .ok (.iand, 1) := by decide +kernel
theorem dX4_usable_27 : decode cX4_usable 27 = .ok (.ifCond .eq 23, 3) := by decide +kernel
theorem dX4_usable_30 : decode cX4_usable 30 = .ok (.aload_n 0, 1) := by decide +kernel
theorem dX4_usable_31 : decode cX4_usable 31 = .ok (.getfield 13, 3) := by decide +kernel
theorem dX4_usable_34 : decode cX4_usable 34 = .ok (.iload_n 1, 1) := by decide +kernel
theorem dX4_usable_35 : decode cX4_usable 35 = .ok (.iaload, 1) := by decide +kernel
theorem dX4_usable_36 : decode cX4_usable 36 = .ok (.aload_n 0, 1) := by decide +kernel
theorem dX4_usable_37 : decode cX4_usable 37 = .ok (.getfield 17, 3) := by decide +kernel
theorem dX4_usable_40 : decode cX4_usable 40 = .ok (.iload_n 1, 1) := by decide +kernel
theorem dX4_usable_41 : decode cX4_usable 41 = .ok (.iaload, 1) := by decide +kernel
theorem dX4_usable_42 : decode cX4_usable 42 = .ok (.iload 4, 2) := by decide +kernel
theorem dX4_usable_44 : decode cX4_usable 44 = .ok (.invokestatic 123, 3) := by decide +kernel
theorem dX4_usable_47 : decode cX4_usable 47 = .ok (.ifCond .eq 7, 3) := by decide +kernel
theorem dX4_usable_50 : decode cX4_usable 50 = .ok (.iconst 1, 1) := by decide +kernel
theorem dX4_usable_51 : decode cX4_usable 51 = .ok (.goto 4, 3) := by decide +kernel
theorem dX4_usable_54 : decode cX4_usable 54 = .ok (.iconst 0, 1) := by decide +kernel
theorem dX4_usable_55 : decode cX4_usable 55 = .ok (.istore_n 3, 1) := by decide +kernel
theorem dX4_usable_56 : decode cX4_usable 56 = .ok (.iinc 4 1, 3) := by decide +kernel
theorem dX4_usable_59 : decode cX4_usable 59 = .ok (.goto (-49), 3) := by decide +kernel
theorem dX4_usable_62 : decode cX4_usable 62 = .ok (.iload_n 3, 1) := by decide +kernel
theorem dX4_usable_63 : decode cX4_usable 63 = .ok (.ireturn, 1) := by decide +kernel
set_option maxRecDepth 20000 in
theorem ggX4_next_X4_holds : GoodIn wsX4_next wsX4_holds := goodIn_r _ [9] (by decide +kernel) (by decide +kernel)
set_option maxRecDepth 20000 in
theorem gX4_next_X4_holds : GoodIn wsX4_next (va_wsS RX4 123 yX4_holds wsX4_holds) := goodIn_app (goodIn_of _ (by decide +kernel)) ggX4_next_X4_holds
theorem dX4_next_0 : decode cX4_next 0 = .ok (.iload_n 2, 1) := by decide +kernel
theorem dX4_next_1 : decode cX4_next 1 = .ok (.istore_n 3, 1) := by decide +kernel
theorem dX4_next_2 : decode cX4_next 2 = .ok (.iconst 4, 1) := by decide +kernel
theorem dX4_next_3 : decode cX4_next 3 = .ok (.iload_n 1, 1) := by decide +kernel
theorem dX4_next_4 : decode cX4_next 4 = .ok (.imul, 1) := by decide +kernel
theorem dX4_next_5 : decode cX4_next 5 = .ok (.istore 4, 2) := by decide +kernel
theorem dX4_next_7 : decode cX4_next 7 = .ok (.iload 4, 2) := by decide +kernel
theorem dX4_next_9 : decode cX4_next 9 = .ok (.iconst 4, 1) := by decide +kernel
theorem dX4_next_10 : decode cX4_next 10 = .ok (.iload_n 1, 1) := by decide +kernel
theorem dX4_next_11 : decode cX4_next 11 = .ok (.imul, 1) := by decide +kernel
theorem dX4_next_12 : decode cX4_next 12 = .ok (.aload_n 0, 1) := by decide +kernel
theorem dX4_next_13 : decode cX4_next 13 = .ok (.getfield 23, 3) := by decide +kernel
theorem dX4_next_16 : decode cX4_next 16 = .ok (.iload_n 1, 1) := by decide +kernel
theorem dX4_next_17 : decode cX4_next 17 = .ok (.iaload, 1) := by decide +kernel
theorem dX4_next_18 : decode cX4_next 18 = .ok (.iadd, 1) := by decide +kernel
theorem dX4_next_19 : decode cX4_next 19 = .ok (.if_icmp .ge 68, 3) := by decide +kernel
theorem dX4_next_22 : decode cX4_next 22 = .ok (.aload_n 0, 1) := by decide +kernel
theorem dX4_next_23 : decode cX4_next 23 = .ok (.getfield 32, 3) := by decide +kernel
theorem dX4_next_26 : decode cX4_next 26 = .ok (.iload 4, 2) := by decide +kernel
theorem dX4_next_28 : decode cX4_next 28 = .ok (.iaload, 1) := by decide +kernel
theorem dX4_next_29 : decode cX4_next 29 = .ok (.aload_n 0, 1) := by decide +kernel
theorem dX4_next_30 : decode cX4_next 30 = .ok (.getfield 35, 3) := by decide +kernel
theorem dX4_next_33 : decode cX4_next 33 = .ok (.iload 4, 2) := by decide +kernel
theorem dX4_next_35 : decode cX4_next 35 = .ok (.iaload, 1) := by decide +kernel
theorem dX4_next_36 : decode cX4_next 36 = .ok (.iload_n 2, 1) := by decide +kernel
theorem dX4_next_37 : decode cX4_next 37 = .ok (.invokestatic 123, 3) := by decide +kernel
theorem dX4_next_40 : decode cX4_next 40 = .ok (.ifCond .eq 41, 3) := by decide +kernel
theorem dX4_next_43 : decode cX4_next 43 = .ok (.aload_n 0, 1) := by decide +kernel
theorem dX4_next_44 : decode cX4_next 44 = .ok (.getfield 29, 3) := by decide +kernel
theorem dX4_next_47 : decode cX4_next 47 = .ok (.iload 4, 2) := by decide +kernel
theorem dX4_next_49 : decode cX4_next 49 = .ok (.baload, 1) := by decide +kernel
theorem dX4_next_50 : decode cX4_next 50 = .ok (.ifCond .eq 17, 3) := by decide +kernel
theorem dX4_next_53 : decode cX4_next 53 = .ok (.iload_n 3, 1) := by decide +kernel
theorem dX4_next_54 : decode cX4_next 54 = .ok (.iconst 1, 1) := by decide +kernel
theorem dX4_next_55 : decode cX4_next 55 = .ok (.aload_n 0, 1) := by decide +kernel
theorem dX4_next_56 : decode cX4_next 56 = .ok (.getfield 26, 3) := by decide +kernel
theorem dX4_next_59 : decode cX4_next 59 = .ok (.iload 4, 2) := by decide +kernel
theorem dX4_next_61 : decode cX4_next 61 = .ok (.iaload, 1) := by decide +kernel
theorem dX4_next_62 : decode cX4_next 62 = .ok (.ishl, 1) := by decide +kernel
theorem dX4_next_63 : decode cX4_next 63 = .ok (.ior, 1) := by decide +kernel
theorem dX4_next_64 : decode cX4_next 64 = .ok (.goto 16, 3) := by decide +kernel
theorem dX4_next_67 : decode cX4_next 67 = .ok (.iload_n 3, 1) := by decide +kernel
theorem dX4_next_68 : decode cX4_next 68 = .ok (.iconst 1, 1) := by decide +kernel
theorem dX4_next_69 : decode cX4_next 69 = .ok (.aload_n 0, 1) := by decide +kernel
theorem dX4_next_70 : decode cX4_next 70 = .ok (.getfield 26, 3) := by decide +kernel
theorem dX4_next_73 : decode cX4_next 73 = .ok (.iload 4, 2) := by decide +kernel
theorem dX4_next_75 : decode cX4_next 75 = .ok (.iaload, 1) := by decide +kernel
theorem dX4_next_76 : decode cX4_next 76 = .ok (.ishl, 1) := by decide +kernel
theorem dX4_next_77 : decode cX4_next 77 = .ok (.iconst (-1), 1) := by decide +kernel
theorem dX4_next_78 : decode cX4_next 78 = .ok (.ixor, 1) := by decide +kernel
theorem dX4_next_79 : decode cX4_next 79 = .ok (.iand, 1) := by decide +kernel
theorem dX4_next_80 : decode cX4_next 80 = .ok (.istore_n 3, 1) := by decide +kernel
theorem dX4_next_81 : decode cX4_next 81 = .ok (.iinc 4 1, 3) := by decide +kernel
theorem dX4_next_84 : decode cX4_next 84 = .ok (.goto (-77), 3) := by decide +kernel
theorem dX4_next_87 : decode cX4_next 87 = .ok (.iload_n 3, 1) := by decide +kernel
theorem dX4_next_88 : decode cX4_next 88 = .ok (.ireturn, 1) := by decide +kernel
set_option maxRecDepth 20000 in
theorem ggX4_after_X4_next : GoodIn wsX4_after wsX4_next := goodIn_r _ [5, 6, 7, 8, 9, 10, 11, 12, 4, 13, 14, 15, 16, 17, 18, 19, 20, 21, 22, 23, 24, 25, 26, 27, 28, 29, 30, 31, 32, 33, 34, 35, 36, 37, 38, 39, 40, 41, 42, 43, 44, 45, 46] (by decide +kernel) (by decide +kernel)
set_option maxRecDepth 20000 in
theorem gX4_after_X4_next : GoodIn wsX4_after (wsV RX4 130 RX4 yX4_next wsX4_next) := goodIn_app (goodIn_of _ (by decide +kernel)) ggX4_after_X4_next
theorem dX4_after_0 : decode cX4_after 0 = .ok (.iconst 0, 1) := by decide +kernel
theorem dX4_after_1 : decode cX4_after 1 = .ok (.istore_n 3, 1) := by decide +kernel
theorem dX4_after_2 : decode cX4_after 2 = .ok (.iconst 0, 1) := by decide +kernel
theorem dX4_after_3 : decode cX4_after 3 = .ok (.istore 4, 2) := by decide +kernel
theorem dX4_after_5 : decode cX4_after 5 = .ok (.iload 4, 2) := by decide +kernel
theorem dX4_after_7 : decode cX4_after 7 = .ok (.bipush 16, 2) := by decide +kernel
theorem dX4_after_9 : decode cX4_after 9 = .ok (.if_icmp .ge 35, 3) := by decide +kernel
theorem dX4_after_12 : decode cX4_after 12 = .ok (.iload_n 3, 1) := by decide +kernel
theorem dX4_after_13 : decode cX4_after 13 = .ok (.iload_n 2, 1) := by decide +kernel
theorem dX4_after_14 : decode cX4_after 14 = .ok (.iload 4, 2) := by decide +kernel
theorem dX4_after_16 : decode cX4_after 16 = .ok (.ishr, 1) := by decide +kernel
theorem dX4_after_17 : decode cX4_after 17 = .ok (.iconst 1, 1) := by decide +kernel
theorem dX4_after_18 : decode cX4_after 18 = .ok (.iand, 1) := by decide +kernel
theorem dX4_after_19 : decode cX4_after 19 = .ok (.iconst 1, 1) := by decide +kernel
theorem dX4_after_20 : decode cX4_after 20 = .ok (.if_icmp .ne 15, 3) := by decide +kernel
theorem dX4_after_23 : decode cX4_after 23 = .ok (.iconst 1, 1) := by decide +kernel
theorem dX4_after_24 : decode cX4_after 24 = .ok (.aload_n 0, 1) := by decide +kernel
theorem dX4_after_25 : decode cX4_after 25 = .ok (.iload_n 1, 1) := by decide +kernel
theorem dX4_after_26 : decode cX4_after 26 = .ok (.iload 4, 2) := by decide +kernel
theorem dX4_after_28 : decode cX4_after 28 = .ok (.invokevirtual 130, 3) := by decide +kernel
theorem dX4_after_31 : decode cX4_after 31 = .ok (.ishl, 1) := by decide +kernel
theorem dX4_after_32 : decode cX4_after 32 = .ok (.goto 4, 3) := by decide +kernel
theorem dX4_after_35 : decode cX4_after 35 = .ok (.iconst 0, 1) := by decide +kernel
theorem dX4_after_36 : decode cX4_after 36 = .ok (.ior, 1) := by decide +kernel
theorem dX4_after_37 : decode cX4_after 37 = .ok (.istore_n 3, 1) := by decide +kernel
theorem dX4_after_38 : decode cX4_after 38 = .ok (.iinc 4 1, 3) := by decide +kernel
theorem dX4_after_41 : decode cX4_after 41 = .ok (.goto (-36), 3) := by decide +kernel
theorem dX4_after_44 : decode cX4_after 44 = .ok (.iload_n 3, 1) := by decide +kernel
theorem dX4_after_45 : decode cX4_after 45 = .ok (.ireturn, 1) := by decide +kernel
set_option maxRecDepth 20000 in
theorem ggX4_part_X4_after : GoodIn wsX4_part wsX4_after := goodIn_r _ [6, 7, 8, 9, 5, 10, 11, 12, 13, 14, 15, 16, 17, 18, 19, 20, 21, 22, 23, 24, 25, 26, 27, 28, 29, 30, 31, 32, 33, 34, 35, 36, 37, 38, 39, 40, 41, 42, 43, 44, 45, 46, 47, 48, 49, 50, 51] (by decide +kernel) (by decide +kernel)
set_option maxRecDepth 20000 in
theorem gX4_part_X4_after : GoodIn wsX4_part (wsV RX4 134 RX4 yX4_after wsX4_after) := goodIn_app (goodIn_of _ (by decide +kernel)) ggX4_part_X4_after
theorem dX4_part_0 : decode cX4_part 0 = .ok (.aload_n 0, 1) := by decide +kernel
theorem dX4_part_1 : decode cX4_part 1 = .ok (.iload_n 1, 1) := by decide +kernel
theorem dX4_part_2 : decode cX4_part 2 = .ok (.iload_n 2, 1) := by decide +kernel
theorem dX4_part_3 : decode cX4_part 3 = .ok (.invokevirtual 134, 3) := by decide +kernel
theorem dX4_part_6 : decode cX4_part 6 = .ok (.istore 4, 2) := by decide +kernel
theorem dX4_part_8 : decode cX4_part 8 = .ok (.aload_n 0, 1) := by decide +kernel
theorem dX4_part_9 : decode cX4_part 9 = .ok (.getfield 20, 3) := by decide +kernel
theorem dX4_part_12 : decode cX4_part 12 = .ok (.iload_n 1, 1) := by decide +kernel
theorem dX4_part_13 : decode cX4_part 13 = .ok (.iaload, 1) := by decide +kernel
theorem dX4_part_14 : decode cX4_part 14 = .ok (.ifCond .ge 14, 3) := by decide +kernel
theorem dX4_part_17 : decode cX4_part 17 = .ok (.iload_n 3, 1) := by decide +kernel
theorem dX4_part_18 : decode cX4_part 18 = .ok (.ifCond .ne 8, 3) := by decide +kernel
theorem dX4_part_21 : decode cX4_part 21 = .ok (.iload 4, 2) := by decide +kernel
theorem dX4_part_23 : decode cX4_part 23 = .ok (.goto 4, 3) := by decide +kernel
theorem dX4_part_26 : decode cX4_part 26 = .ok (.iconst 0, 1) := by decide +kernel
theorem dX4_part_27 : decode cX4_part 27 = .ok (.ireturn, 1) := by decide +kernel
theorem dX4_part_28 : decode cX4_part 28 = .ok (.iconst 0, 1) := by decide +kernel
theorem dX4_part_29 : decode cX4_part 29 = .ok (.istore 5, 2) := by decide +kernel
theorem dX4_part_31 : decode cX4_part 31 = .ok (.iconst 0, 1) := by decide +kernel
theorem dX4_part_32 : decode cX4_part 32 = .ok (.istore 6, 2) := by decide +kernel
theorem dX4_part_34 : decode cX4_part 34 = .ok (.iload 6, 2) := by decide +kernel
theorem dX4_part_36 : decode cX4_part 36 = .ok (.bipush 16, 2) := by decide +kernel
theorem dX4_part_38 : decode cX4_part 38 = .ok (.if_icmp .ge 40, 3) := by decide +kernel
theorem dX4_part_41 : decode cX4_part 41 = .ok (.iload 5, 2) := by decide +kernel
theorem dX4_part_43 : decode cX4_part 43 = .ok (.iload 6, 2) := by decide +kernel
theorem dX4_part_45 : decode cX4_part 45 = .ok (.aload_n 0, 1) := by decide +kernel
theorem dX4_part_46 : decode cX4_part 46 = .ok (.getfield 20, 3) := by decide +kernel
theorem dX4_part_49 : decode cX4_part 49 = .ok (.iload_n 1, 1) := by decide +kernel
theorem dX4_part_50 : decode cX4_part 50 = .ok (.iaload, 1) := by decide +kernel
theorem dX4_part_51 : decode cX4_part 51 = .ok (.ishr, 1) := by decide +kernel
theorem dX4_part_52 : decode cX4_part 52 = .ok (.iconst 1, 1) := by decide +kernel
theorem dX4_part_53 : decode cX4_part 53 = .ok (.iand, 1) := by decide +kernel
theorem dX4_part_54 : decode cX4_part 54 = .ok (.iload_n 3, 1) := by decide +kernel
theorem dX4_part_55 : decode cX4_part 55 = .ok (.if_icmp .ne 13, 3) := by decide +kernel
theorem dX4_part_58 : decode cX4_part 58 = .ok (.iload 4, 2) := by decide +kernel
theorem dX4_part_60 : decode cX4_part 60 = .ok (.iconst 1, 1) := by decide +kernel
theorem dX4_part_61 : decode cX4_part 61 = .ok (.iload 6, 2) := by decide +kernel
theorem dX4_part_63 : decode cX4_part 63 = .ok (.ishl, 1) := by decide +kernel
theorem dX4_part_64 : decode cX4_part 64 = .ok (.iand, 1) := by decide +kernel
theorem dX4_part_65 : decode cX4_part 65 = .ok (.goto 4, 3) := by decide +kernel
theorem dX4_part_68 : decode cX4_part 68 = .ok (.iconst 0, 1) := by decide +kernel
theorem dX4_part_69 : decode cX4_part 69 = .ok (.ior, 1) := by decide +kernel
theorem dX4_part_70 : decode cX4_part 70 = .ok (.istore 5, 2) := by decide +kernel
theorem dX4_part_72 : decode cX4_part 72 = .ok (.iinc 6 1, 3) := by decide +kernel
theorem dX4_part_75 : decode cX4_part 75 = .ok (.goto (-41), 3) := by decide +kernel
theorem dX4_part_78 : decode cX4_part 78 = .ok (.iload 5, 2) := by decide +kernel
theorem dX4_part_80 : decode cX4_part 80 = .ok (.ireturn, 1) := by decide +kernel
set_option maxRecDepth 20000 in
theorem ggX4_behind_X4_within : GoodIn wsX4_behind wsX4_within := goodIn_r _ [7] (by decide +kernel) (by decide +kernel)
set_option maxRecDepth 20000 in
theorem gX4_behind_X4_within : GoodIn wsX4_behind (va_wsS RX4 96 yX4_within wsX4_within) := goodIn_app (goodIn_of _ (by decide +kernel)) ggX4_behind_X4_within
set_option maxRecDepth 20000 in
theorem ggX4_behind_X4_fail : GoodIn wsX4_behind wsX4_fail := goodIn_r _ [11, 1, 34, 35, 36, 37, 38, 39, 40, 41, 42, 43, 44, 45, 46, 47, 48, 49, 50, 51, 52, 53, 54, 55, 56, 57, 58, 59, 60, 61, 62, 63, 64, 65, 66] (by decide +kernel) (by decide +kernel)
set_option maxRecDepth 20000 in
theorem gX4_behind_X4_fail : GoodIn wsX4_behind (wsV RX4 115 RX4 yX4_fail wsX4_fail) := goodIn_app (goodIn_of _ (by decide +kernel)) ggX4_behind_X4_fail
set_option maxRecDepth 20000 in
theorem ggX4_behind_X4_usable : GoodIn wsX4_behind wsX4_usable := goodIn_r _ [15, 2, 16, 17, 18, 19, 6, 20, 34, 35, 36, 37, 38, 39, 40, 41, 42, 43, 44, 45, 46, 47, 48, 49, 50, 51, 52, 53, 54, 55, 56, 57, 58, 59, 60, 61, 62, 63, 64, 65, 66] (by decide +kernel) (by decide +kernel)
set_option maxRecDepth 20000 in
theorem gX4_behind_X4_usable : GoodIn wsX4_behind (wsV RX4 138 RX4 yX4_usable wsX4_usable) := goodIn_app (goodIn_of _ (by decide +kernel)) ggX4_behind_X4_usable
set_option maxRecDepth 20000 in
theorem ggX4_behind_X4_after : GoodIn wsX4_behind wsX4_after := goodIn_r _ [24, 25, 26, 27, 6, 28, 29, 30, 31, 32, 33, 18, 19, 20, 34, 35, 36, 37, 38, 39, 40, 41, 42, 43, 44, 45, 46, 47, 48, 49, 50, 51, 52, 53, 54, 55, 56, 57, 58, 59, 60, 61, 62, 63, 64, 65, 66] (by decide +kernel) (by decide +kernel)
set_option maxRecDepth 20000 in
theorem gX4_behind_X4_after : GoodIn wsX4_behind (wsV RX4 134 RX4 yX4_after wsX4_after) := goodIn_app (goodIn_of _ (by decide +kernel)) ggX4_behind_X4_after
theorem dX4_behind_0 : decode cX4_behind 0 = .ok (.aload_n 0, 1) := by decide +kernel
theorem dX4_behind_1 : decode cX4_behind 1 = .ok (.iconst 0, 1) := by decide +kernel
theorem dX4_behind_2 : decode cX4_behind 2 = .ok (.putfield 93, 3) := by decide +kernel
theorem dX4_behind_5 : decode cX4_behind 5 = .ok (.iload_n 1, 1) := by decide +kernel
theorem dX4_behind_6 : decode cX4_behind 6 = .ok (.iconst 0, 1) := by decide +kernel
theorem dX4_behind_7 : decode cX4_behind 7 = .ok (.bipush 7, 2) := by decide +kernel
theorem dX4_behind_9 : decode cX4_behind 9 = .ok (.invokestatic 96, 3) := by decide +kernel
theorem dX4_behind_12 : decode cX4_behind 12 = .ok (.ifCond .ne 9, 3) := by decide +kernel
theorem dX4_behind_15 : decode cX4_behind 15 = .ok (.aload_n 0, 1) := by decide +kernel
theorem dX4_behind_16 : decode cX4_behind 16 = .ok (.iconst 1, 1) := by decide +kernel
theorem dX4_behind_17 : decode cX4_behind 17 = .ok (.invokevirtual 115, 3) := by decide +kernel
theorem dX4_behind_20 : decode cX4_behind 20 = .ok (.ireturn, 1) := by decide +kernel
theorem dX4_behind_21 : decode cX4_behind 21 = .ok (.aload_n 0, 1) := by decide +kernel
theorem dX4_behind_22 : decode cX4_behind 22 = .ok (.getfield 7, 3) := by decide +kernel
theorem dX4_behind_25 : decode cX4_behind 25 = .ok (.iload_n 1, 1) := by decide +kernel
theorem dX4_behind_26 : decode cX4_behind 26 = .ok (.baload, 1) := by decide +kernel
theorem dX4_behind_27 : decode cX4_behind 27 = .ok (.ifCond .ne 9, 3) := by decide +kernel
theorem dX4_behind_30 : decode cX4_behind 30 = .ok (.aload_n 0, 1) := by decide +kernel
theorem dX4_behind_31 : decode cX4_behind 31 = .ok (.iconst 2, 1) := by decide +kernel
theorem dX4_behind_32 : decode cX4_behind 32 = .ok (.invokevirtual 115, 3) := by decide +kernel
theorem dX4_behind_35 : decode cX4_behind 35 = .ok (.ireturn, 1) := by decide +kernel
theorem dX4_behind_36 : decode cX4_behind 36 = .ok (.iload_n 2, 1) := by decide +kernel
theorem dX4_behind_37 : decode cX4_behind 37 = .ok (.iconst 0, 1) := by decide +kernel
theorem dX4_behind_38 : decode cX4_behind 38 = .ok (.ldc 137, 2) := by decide +kernel
theorem dX4_behind_40 : decode cX4_behind 40 = .ok (.invokestatic 96, 3) := by decide +kernel
theorem dX4_behind_43 : decode cX4_behind 43 = .ok (.ifCond .ne 9, 3) := by decide +kernel
theorem dX4_behind_46 : decode cX4_behind 46 = .ok (.aload_n 0, 1) := by decide +kernel
theorem dX4_behind_47 : decode cX4_behind 47 = .ok (.iconst 3, 1) := by decide +kernel
theorem dX4_behind_48 : decode cX4_behind 48 = .ok (.invokevirtual 115, 3) := by decide +kernel
theorem dX4_behind_51 : decode cX4_behind 51 = .ok (.ireturn, 1) := by decide +kernel
theorem dX4_behind_52 : decode cX4_behind 52 = .ok (.aload_n 0, 1) := by decide +kernel
theorem dX4_behind_53 : decode cX4_behind 53 = .ok (.iload_n 1, 1) := by decide +kernel
theorem dX4_behind_54 : decode cX4_behind 54 = .ok (.iload_n 2, 1) := by decide +kernel
theorem dX4_behind_55 : decode cX4_behind 55 = .ok (.invokevirtual 138, 3) := by decide +kernel
theorem dX4_behind_58 : decode cX4_behind 58 = .ok (.ifCond .eq 12, 3) := by decide +kernel
theorem dX4_behind_61 : decode cX4_behind 61 = .ok (.aload_n 0, 1) := by decide +kernel
theorem dX4_behind_62 : decode cX4_behind 62 = .ok (.iload_n 1, 1) := by decide +kernel
theorem dX4_behind_63 : decode cX4_behind 63 = .ok (.iload_n 2, 1) := by decide +kernel
theorem dX4_behind_64 : decode cX4_behind 64 = .ok (.invokevirtual 134, 3) := by decide +kernel
theorem dX4_behind_67 : decode cX4_behind 67 = .ok (.goto 8, 3) := by decide +kernel
theorem dX4_behind_70 : decode cX4_behind 70 = .ok (.aload_n 0, 1) := by decide +kernel
theorem dX4_behind_71 : decode cX4_behind 71 = .ok (.iconst 4, 1) := by decide +kernel
theorem dX4_behind_72 : decode cX4_behind 72 = .ok (.invokevirtual 115, 3) := by decide +kernel
theorem dX4_behind_75 : decode cX4_behind 75 = .ok (.ireturn, 1) := by decide +kernel
set_option maxRecDepth 20000 in
theorem ggX4_reached_X4_holds : GoodIn wsX4_reached wsX4_holds := goodIn_r _ [6] (by decide +kernel) (by decide +kernel)
set_option maxRecDepth 20000 in
theorem gX4_reached_X4_holds : GoodIn wsX4_reached (va_wsS RX4 123 yX4_holds wsX4_holds) := goodIn_app (goodIn_of _ (by decide +kernel)) ggX4_reached_X4_holds
theorem dX4_reached_0 : decode cX4_reached 0 = .ok (.iconst 1, 1) := by decide +kernel
theorem dX4_reached_1 : decode cX4_reached 1 = .ok (.istore_n 2, 1) := by decide +kernel
theorem dX4_reached_2 : decode cX4_reached 2 = .ok (.iconst 0, 1) := by decide +kernel
theorem dX4_reached_3 : decode cX4_reached 3 = .ok (.istore_n 3, 1) := by decide +kernel
theorem dX4_reached_4 : decode cX4_reached 4 = .ok (.iload_n 3, 1) := by decide +kernel
theorem dX4_reached_5 : decode cX4_reached 5 = .ok (.bipush 16, 2) := by decide +kernel
theorem dX4_reached_7 : decode cX4_reached 7 = .ok (.if_icmp .ge 42, 3) := by decide +kernel
theorem dX4_reached_10 : decode cX4_reached 10 = .ok (.iload_n 2, 1) := by decide +kernel
theorem dX4_reached_11 : decode cX4_reached 11 = .ok (.ifCond .eq 30, 3) := by decide +kernel
theorem dX4_reached_14 : decode cX4_reached 14 = .ok (.iload_n 1, 1) := by decide +kernel
theorem dX4_reached_15 : decode cX4_reached 15 = .ok (.iload_n 3, 1) := by decide +kernel
theorem dX4_reached_16 : decode cX4_reached 16 = .ok (.ishr, 1) := by decide +kernel
theorem dX4_reached_17 : decode cX4_reached 17 = .ok (.iconst 1, 1) := by decide +kernel
theorem dX4_reached_18 : decode cX4_reached 18 = .ok (.iand, 1) := by decide +kernel
theorem dX4_reached_19 : decode cX4_reached 19 = .ok (.ifCond .eq 18, 3) := by decide +kernel
theorem dX4_reached_22 : decode cX4_reached 22 = .ok (.aload_n 0, 1) := by decide +kernel
theorem dX4_reached_23 : decode cX4_reached 23 = .ok (.getfield 103, 3) := by decide +kernel
theorem dX4_reached_26 : decode cX4_reached 26 = .ok (.aload_n 0, 1) := by decide +kernel
theorem dX4_reached_27 : decode cX4_reached 27 = .ok (.getfield 106, 3) := by decide +kernel
theorem dX4_reached_30 : decode cX4_reached 30 = .ok (.iload_n 3, 1) := by decide +kernel
theorem dX4_reached_31 : decode cX4_reached 31 = .ok (.invokestatic 123, 3) := by decide +kernel
theorem dX4_reached_34 : decode cX4_reached 34 = .ok (.ifCond .eq 7, 3) := by decide +kernel
theorem dX4_reached_37 : decode cX4_reached 37 = .ok (.iconst 1, 1) := by decide +kernel
theorem dX4_reached_38 : decode cX4_reached 38 = .ok (.goto 4, 3) := by decide +kernel
theorem dX4_reached_41 : decode cX4_reached 41 = .ok (.iconst 0, 1) := by decide +kernel
theorem dX4_reached_42 : decode cX4_reached 42 = .ok (.istore_n 2, 1) := by decide +kernel
theorem dX4_reached_43 : decode cX4_reached 43 = .ok (.iinc 3 1, 3) := by decide +kernel
theorem dX4_reached_46 : decode cX4_reached 46 = .ok (.goto (-42), 3) := by decide +kernel
theorem dX4_reached_49 : decode cX4_reached 49 = .ok (.iload_n 2, 1) := by decide +kernel
theorem dX4_reached_50 : decode cX4_reached 50 = .ok (.ireturn, 1) := by decide +kernel
set_option maxRecDepth 20000 in
theorem ggX4_solved_X4_reached : GoodIn wsX4_solved wsX4_reached := goodIn_r _ [8, 9, 10, 11, 12, 7, 13, 39, 40, 41, 42, 43, 44, 45, 46, 47, 48, 49, 50, 51, 52, 53, 54, 55, 56, 57, 58, 59, 60, 61, 62, 63, 64, 65, 66, 67, 68, 69, 70, 71] (by decide +kernel) (by decide +kernel)
set_option maxRecDepth 20000 in
theorem gX4_solved_X4_reached : GoodIn wsX4_solved (wsV RX4 141 RX4 yX4_reached wsX4_reached) := goodIn_app (goodIn_of _ (by decide +kernel)) ggX4_solved_X4_reached
set_option maxRecDepth 20000 in
theorem ggX4_solved_X4_usable : GoodIn wsX4_solved wsX4_usable := goodIn_r _ [17, 18, 19, 20, 11, 12, 7, 13, 39, 40, 41, 42, 43, 44, 45, 46, 47, 48, 49, 50, 51, 52, 53, 54, 55, 56, 57, 58, 59, 60, 61, 62, 63, 64, 65, 66, 67, 68, 69, 70, 71] (by decide +kernel) (by decide +kernel)
set_option maxRecDepth 20000 in
theorem gX4_solved_X4_usable : GoodIn wsX4_solved (wsV RX4 138 RX4 yX4_usable wsX4_usable) := goodIn_app (goodIn_of _ (by decide +kernel)) ggX4_solved_X4_usable
set_option maxRecDepth 20000 in
theorem ggX4_solved_X4_part : GoodIn wsX4_solved wsX4_part := goodIn_r _ [24, 25, 26, 27, 28, 7, 29, 30, 31, 32, 33, 34, 35, 36, 37, 38, 11, 12, 13, 39, 40, 41, 42, 43, 44, 45, 46, 47, 48, 49, 50, 51, 52, 53, 54, 55, 56, 57, 58, 59, 60, 61, 62, 63, 64, 65, 66, 67, 68, 69, 70, 71] (by decide +kernel) (by decide +kernel)
set_option maxRecDepth 20000 in
theorem gX4_solved_X4_part : GoodIn wsX4_solved (wsV RX4 145 RX4 yX4_part wsX4_part) := goodIn_app (goodIn_of _ (by decide +kernel)) ggX4_solved_X4_part
theorem dX4_solved_0 : decode cX4_solved 0 = .ok (.iconst 0, 1) := by decide +kernel
theorem dX4_solved_1 : decode cX4_solved 1 = .ok (.istore_n 3, 1) := by decide +kernel
theorem dX4_solved_2 : decode cX4_solved 2 = .ok (.aload_n 0, 1) := by decide +kernel
theorem dX4_solved_3 : decode cX4_solved 3 = .ok (.getfield 53, 3) := by decide +kernel
theorem dX4_solved_6 : decode cX4_solved 6 = .ok (.iconst 0, 1) := by decide +kernel
theorem dX4_solved_7 : decode cX4_solved 7 = .ok (.iload_n 1, 1) := by decide +kernel
theorem dX4_solved_8 : decode cX4_solved 8 = .ok (.iastore, 1) := by decide +kernel
theorem dX4_solved_9 : decode cX4_solved 9 = .ok (.aload_n 0, 1) := by decide +kernel
theorem dX4_solved_10 : decode cX4_solved 10 = .ok (.getfield 56, 3) := by decide +kernel
theorem dX4_solved_13 : decode cX4_solved 13 = .ok (.iconst 0, 1) := by decide +kernel
theorem dX4_solved_14 : decode cX4_solved 14 = .ok (.iconst (-1), 1) := by decide +kernel
theorem dX4_solved_15 : decode cX4_solved 15 = .ok (.iastore, 1) := by decide +kernel
theorem dX4_solved_16 : decode cX4_solved 16 = .ok (.iconst 0, 1) := by decide +kernel
theorem dX4_solved_17 : decode cX4_solved 17 = .ok (.istore 4, 2) := by decide +kernel
theorem dX4_solved_19 : decode cX4_solved 19 = .ok (.iload_n 3, 1) := by decide +kernel
theorem dX4_solved_20 : decode cX4_solved 20 = .ok (.ifCond .lt 265, 3) := by decide +kernel
theorem dX4_solved_23 : decode cX4_solved 23 = .ok (.iload 4, 2) := by decide +kernel
theorem dX4_solved_25 : decode cX4_solved 25 = .ok (.ifCond .ne 56, 3) := by decide +kernel
theorem dX4_solved_28 : decode cX4_solved 28 = .ok (.aload_n 0, 1) := by decide +kernel
theorem dX4_solved_29 : decode cX4_solved 29 = .ok (.getfield 56, 3) := by decide +kernel
theorem dX4_solved_32 : decode cX4_solved 32 = .ok (.iload_n 3, 1) := by decide +kernel
theorem dX4_solved_33 : decode cX4_solved 33 = .ok (.iaload, 1) := by decide +kernel
theorem dX4_solved_34 : decode cX4_solved 34 = .ok (.ifCond .ge 47, 3) := by decide +kernel
theorem dX4_solved_37 : decode cX4_solved 37 = .ok (.aload_n 0, 1) := by decide +kernel
theorem dX4_solved_38 : decode cX4_solved 38 = .ok (.aload_n 0, 1) := by decide +kernel
theorem dX4_solved_39 : decode cX4_solved 39 = .ok (.getfield 53, 3) := by decide +kernel
theorem dX4_solved_42 : decode cX4_solved 42 = .ok (.iload_n 3, 1) := by decide +kernel
theorem dX4_solved_43 : decode cX4_solved 43 = .ok (.iaload, 1) := by decide +kernel
theorem dX4_solved_44 : decode cX4_solved 44 = .ok (.invokevirtual 141, 3) := by decide +kernel
theorem dX4_solved_47 : decode cX4_solved 47 = .ok (.ifCond .ne 8, 3) := by decide +kernel
theorem dX4_solved_50 : decode cX4_solved 50 = .ok (.iload_n 3, 1) := by decide +kernel
theorem dX4_solved_51 : decode cX4_solved 51 = .ok (.iload_n 2, 1) := by decide +kernel
theorem dX4_solved_52 : decode cX4_solved 52 = .ok (.if_icmp .ne 29, 3) := by decide +kernel
theorem dX4_solved_55 : decode cX4_solved 55 = .ok (.aload_n 0, 1) := by decide +kernel
theorem dX4_solved_56 : decode cX4_solved 56 = .ok (.aload_n 0, 1) := by decide +kernel
theorem dX4_solved_57 : decode cX4_solved 57 = .ok (.getfield 53, 3) := by decide +kernel
theorem dX4_solved_60 : decode cX4_solved 60 = .ok (.iload_n 3, 1) := by decide +kernel
theorem dX4_solved_61 : decode cX4_solved 61 = .ok (.iaload, 1) := by decide +kernel
theorem dX4_solved_62 : decode cX4_solved 62 = .ok (.invokevirtual 141, 3) := by decide +kernel
theorem dX4_solved_65 : decode cX4_solved 65 = .ok (.ifCond .eq 7, 3) := by decide +kernel
theorem dX4_solved_68 : decode cX4_solved 68 = .ok (.iconst 1, 1) := by decide +kernel
theorem dX4_solved_69 : decode cX4_solved 69 = .ok (.goto 4, 3) := by decide +kernel
theorem dX4_solved_72 : decode cX4_solved 72 = .ok (.iconst 2, 1) := by decide +kernel
theorem dX4_solved_73 : decode cX4_solved 73 = .ok (.istore 4, 2) := by decide +kernel
theorem dX4_solved_75 : decode cX4_solved 75 = .ok (.iinc 3 (-1), 3) := by decide +kernel
theorem dX4_solved_78 : decode cX4_solved 78 = .ok (.goto (-59), 3) := by decide +kernel
theorem dX4_solved_81 : decode cX4_solved 81 = .ok (.iload 4, 2) := by decide +kernel
theorem dX4_solved_83 : decode cX4_solved 83 = .ok (.iconst 1, 1) := by decide +kernel
theorem dX4_solved_84 : decode cX4_solved 84 = .ok (.if_icmp .ne 19, 3) := by decide +kernel
theorem dX4_solved_87 : decode cX4_solved 87 = .ok (.aload_n 0, 1) := by decide +kernel
theorem dX4_solved_88 : decode cX4_solved 88 = .ok (.getfield 59, 3) := by decide +kernel
theorem dX4_solved_91 : decode cX4_solved 91 = .ok (.iload_n 3, 1) := by decide +kernel
theorem dX4_solved_92 : decode cX4_solved 92 = .ok (.iaload, 1) := by decide +kernel
theorem dX4_solved_93 : decode cX4_solved 93 = .ok (.iconst 1, 1) := by decide +kernel
theorem dX4_solved_94 : decode cX4_solved 94 = .ok (.if_icmp .ne 9, 3) := by decide +kernel
theorem dX4_solved_97 : decode cX4_solved 97 = .ok (.iinc 3 (-1), 3) := by decide +kernel
theorem dX4_solved_100 : decode cX4_solved 100 = .ok (.goto (-81), 3) := by decide +kernel
theorem dX4_solved_103 : decode cX4_solved 103 = .ok (.iload 4, 2) := by decide +kernel
theorem dX4_solved_105 : decode cX4_solved 105 = .ok (.iconst 1, 1) := by decide +kernel
theorem dX4_solved_106 : decode cX4_solved 106 = .ok (.if_icmp .ne 13, 3) := by decide +kernel
theorem dX4_solved_109 : decode cX4_solved 109 = .ok (.aload_n 0, 1) := by decide +kernel
theorem dX4_solved_110 : decode cX4_solved 110 = .ok (.getfield 59, 3) := by decide +kernel
theorem dX4_solved_113 : decode cX4_solved 113 = .ok (.iload_n 3, 1) := by decide +kernel
theorem dX4_solved_114 : decode cX4_solved 114 = .ok (.iconst 1, 1) := by decide +kernel
theorem dX4_solved_115 : decode cX4_solved 115 = .ok (.iastore, 1) := by decide +kernel
theorem dX4_solved_116 : decode cX4_solved 116 = .ok (.goto 63, 3) := by decide +kernel
theorem dX4_solved_119 : decode cX4_solved 119 = .ok (.aload_n 0, 1) := by decide +kernel
theorem dX4_solved_120 : decode cX4_solved 120 = .ok (.getfield 56, 3) := by decide +kernel
theorem dX4_solved_123 : decode cX4_solved 123 = .ok (.iload_n 3, 1) := by decide +kernel
theorem dX4_solved_124 : decode cX4_solved 124 = .ok (.dup2, 1) := by decide +kernel
theorem dX4_solved_125 : decode cX4_solved 125 = .ok (.iaload, 1) := by decide +kernel
theorem dX4_solved_126 : decode cX4_solved 126 = .ok (.iconst 1, 1) := by decide +kernel
theorem dX4_solved_127 : decode cX4_solved 127 = .ok (.iadd, 1) := by decide +kernel
theorem dX4_solved_128 : decode cX4_solved 128 = .ok (.iastore, 1) := by decide +kernel
theorem dX4_solved_129 : decode cX4_solved 129 = .ok (.aload_n 0, 1) := by decide +kernel
theorem dX4_solved_130 : decode cX4_solved 130 = .ok (.getfield 59, 3) := by decide +kernel
theorem dX4_solved_133 : decode cX4_solved 133 = .ok (.iload_n 3, 1) := by decide +kernel
theorem dX4_solved_134 : decode cX4_solved 134 = .ok (.iconst 0, 1) := by decide +kernel
theorem dX4_solved_135 : decode cX4_solved 135 = .ok (.iastore, 1) := by decide +kernel
theorem dX4_solved_136 : decode cX4_solved 136 = .ok (.aload_n 0, 1) := by decide +kernel
theorem dX4_solved_137 : decode cX4_solved 137 = .ok (.getfield 56, 3) := by decide +kernel
theorem dX4_solved_140 : decode cX4_solved 140 = .ok (.iload_n 3, 1) := by decide +kernel
theorem dX4_solved_141 : decode cX4_solved 141 = .ok (.iaload, 1) := by decide +kernel
theorem dX4_solved_142 : decode cX4_solved 142 = .ok (.bipush 8, 2) := by decide +kernel
theorem dX4_solved_144 : decode cX4_solved 144 = .ok (.if_icmp .ge 35, 3) := by decide +kernel
theorem dX4_solved_147 : decode cX4_solved 147 = .ok (.aload_n 0, 1) := by decide +kernel
theorem dX4_solved_148 : decode cX4_solved 148 = .ok (.aload_n 0, 1) := by decide +kernel
theorem dX4_solved_149 : decode cX4_solved 149 = .ok (.getfield 56, 3) := by decide +kernel
theorem dX4_solved_152 : decode cX4_solved 152 = .ok (.iload_n 3, 1) := by decide +kernel
theorem dX4_solved_153 : decode cX4_solved 153 = .ok (.iaload, 1) := by decide +kernel
theorem dX4_solved_154 : decode cX4_solved 154 = .ok (.aload_n 0, 1) := by decide +kernel
theorem dX4_solved_155 : decode cX4_solved 155 = .ok (.getfield 53, 3) := by decide +kernel
theorem dX4_solved_158 : decode cX4_solved 158 = .ok (.iload_n 3, 1) := by decide +kernel
theorem dX4_solved_159 : decode cX4_solved 159 = .ok (.iaload, 1) := by decide +kernel
theorem dX4_solved_160 : decode cX4_solved 160 = .ok (.invokevirtual 138, 3) := by decide +kernel
theorem dX4_solved_163 : decode cX4_solved 163 = .ok (.ifCond .ne 16, 3) := by decide +kernel
theorem dX4_solved_166 : decode cX4_solved 166 = .ok (.aload_n 0, 1) := by decide +kernel
theorem dX4_solved_167 : decode cX4_solved 167 = .ok (.getfield 56, 3) := by decide +kernel
theorem dX4_solved_170 : decode cX4_solved 170 = .ok (.iload_n 3, 1) := by decide +kernel
theorem dX4_solved_171 : decode cX4_solved 171 = .ok (.dup2, 1) := by decide +kernel
theorem dX4_solved_172 : decode cX4_solved 172 = .ok (.iaload, 1) := by decide +kernel
theorem dX4_solved_173 : decode cX4_solved 173 = .ok (.iconst 1, 1) := by decide +kernel
theorem dX4_solved_174 : decode cX4_solved 174 = .ok (.iadd, 1) := by decide +kernel
theorem dX4_solved_175 : decode cX4_solved 175 = .ok (.iastore, 1) := by decide +kernel
theorem dX4_solved_176 : decode cX4_solved 176 = .ok (.goto (-40), 3) := by decide +kernel
theorem dX4_solved_179 : decode cX4_solved 179 = .ok (.aload_n 0, 1) := by decide +kernel
theorem dX4_solved_180 : decode cX4_solved 180 = .ok (.getfield 56, 3) := by decide +kernel
theorem dX4_solved_183 : decode cX4_solved 183 = .ok (.iload_n 3, 1) := by decide +kernel
theorem dX4_solved_184 : decode cX4_solved 184 = .ok (.iaload, 1) := by decide +kernel
theorem dX4_solved_185 : decode cX4_solved 185 = .ok (.bipush 8, 2) := by decide +kernel
theorem dX4_solved_187 : decode cX4_solved 187 = .ok (.if_icmp .ne 7, 3) := by decide +kernel
theorem dX4_solved_190 : decode cX4_solved 190 = .ok (.iconst 2, 1) := by decide +kernel
theorem dX4_solved_191 : decode cX4_solved 191 = .ok (.goto 4, 3) := by decide +kernel
theorem dX4_solved_194 : decode cX4_solved 194 = .ok (.iconst 0, 1) := by decide +kernel
theorem dX4_solved_195 : decode cX4_solved 195 = .ok (.istore 4, 2) := by decide +kernel
theorem dX4_solved_197 : decode cX4_solved 197 = .ok (.iload 4, 2) := by decide +kernel
theorem dX4_solved_199 : decode cX4_solved 199 = .ok (.iconst 2, 1) := by decide +kernel
theorem dX4_solved_200 : decode cX4_solved 200 = .ok (.if_icmp .ne 9, 3) := by decide +kernel
theorem dX4_solved_203 : decode cX4_solved 203 = .ok (.iinc 3 (-1), 3) := by decide +kernel
theorem dX4_solved_206 : decode cX4_solved 206 = .ok (.goto (-187), 3) := by decide +kernel
theorem dX4_solved_209 : decode cX4_solved 209 = .ok (.aload_n 0, 1) := by decide +kernel
theorem dX4_solved_210 : decode cX4_solved 210 = .ok (.aload_n 0, 1) := by decide +kernel
theorem dX4_solved_211 : decode cX4_solved 211 = .ok (.getfield 56, 3) := by decide +kernel
theorem dX4_solved_214 : decode cX4_solved 214 = .ok (.iload_n 3, 1) := by decide +kernel
theorem dX4_solved_215 : decode cX4_solved 215 = .ok (.iaload, 1) := by decide +kernel
theorem dX4_solved_216 : decode cX4_solved 216 = .ok (.aload_n 0, 1) := by decide +kernel
theorem dX4_solved_217 : decode cX4_solved 217 = .ok (.getfield 53, 3) := by decide +kernel
theorem dX4_solved_220 : decode cX4_solved 220 = .ok (.iload_n 3, 1) := by decide +kernel
theorem dX4_solved_221 : decode cX4_solved 221 = .ok (.iaload, 1) := by decide +kernel
theorem dX4_solved_222 : decode cX4_solved 222 = .ok (.aload_n 0, 1) := by decide +kernel
theorem dX4_solved_223 : decode cX4_solved 223 = .ok (.getfield 59, 3) := by decide +kernel
theorem dX4_solved_226 : decode cX4_solved 226 = .ok (.iload_n 3, 1) := by decide +kernel
theorem dX4_solved_227 : decode cX4_solved 227 = .ok (.iaload, 1) := by decide +kernel
theorem dX4_solved_228 : decode cX4_solved 228 = .ok (.invokevirtual 145, 3) := by decide +kernel
theorem dX4_solved_231 : decode cX4_solved 231 = .ok (.ifCond .ne 9, 3) := by decide +kernel
theorem dX4_solved_234 : decode cX4_solved 234 = .ok (.iconst 1, 1) := by decide +kernel
theorem dX4_solved_235 : decode cX4_solved 235 = .ok (.istore 4, 2) := by decide +kernel
theorem dX4_solved_237 : decode cX4_solved 237 = .ok (.goto (-218), 3) := by decide +kernel
theorem dX4_solved_240 : decode cX4_solved 240 = .ok (.aload_n 0, 1) := by decide +kernel
theorem dX4_solved_241 : decode cX4_solved 241 = .ok (.getfield 53, 3) := by decide +kernel
theorem dX4_solved_244 : decode cX4_solved 244 = .ok (.iload_n 3, 1) := by decide +kernel
theorem dX4_solved_245 : decode cX4_solved 245 = .ok (.iconst 1, 1) := by decide +kernel
theorem dX4_solved_246 : decode cX4_solved 246 = .ok (.iadd, 1) := by decide +kernel
theorem dX4_solved_247 : decode cX4_solved 247 = .ok (.aload_n 0, 1) := by decide +kernel
theorem dX4_solved_248 : decode cX4_solved 248 = .ok (.aload_n 0, 1) := by decide +kernel
theorem dX4_solved_249 : decode cX4_solved 249 = .ok (.getfield 56, 3) := by decide +kernel
theorem dX4_solved_252 : decode cX4_solved 252 = .ok (.iload_n 3, 1) := by decide +kernel
theorem dX4_solved_253 : decode cX4_solved 253 = .ok (.iaload, 1) := by decide +kernel
theorem dX4_solved_254 : decode cX4_solved 254 = .ok (.aload_n 0, 1) := by decide +kernel
theorem dX4_solved_255 : decode cX4_solved 255 = .ok (.getfield 53, 3) := by decide +kernel
theorem dX4_solved_258 : decode cX4_solved 258 = .ok (.iload_n 3, 1) := by decide +kernel
theorem dX4_solved_259 : decode cX4_solved 259 = .ok (.iaload, 1) := by decide +kernel
theorem dX4_solved_260 : decode cX4_solved 260 = .ok (.aload_n 0, 1) := by decide +kernel
theorem dX4_solved_261 : decode cX4_solved 261 = .ok (.getfield 59, 3) := by decide +kernel
theorem dX4_solved_264 : decode cX4_solved 264 = .ok (.iload_n 3, 1) := by decide +kernel
theorem dX4_solved_265 : decode cX4_solved 265 = .ok (.iaload, 1) := by decide +kernel
theorem dX4_solved_266 : decode cX4_solved 266 = .ok (.invokevirtual 145, 3) := by decide +kernel
theorem dX4_solved_269 : decode cX4_solved 269 = .ok (.iastore, 1) := by decide +kernel
theorem dX4_solved_270 : decode cX4_solved 270 = .ok (.aload_n 0, 1) := by decide +kernel
theorem dX4_solved_271 : decode cX4_solved 271 = .ok (.getfield 56, 3) := by decide +kernel
theorem dX4_solved_274 : decode cX4_solved 274 = .ok (.iload_n 3, 1) := by decide +kernel
theorem dX4_solved_275 : decode cX4_solved 275 = .ok (.iconst 1, 1) := by decide +kernel
theorem dX4_solved_276 : decode cX4_solved 276 = .ok (.iadd, 1) := by decide +kernel
theorem dX4_solved_277 : decode cX4_solved 277 = .ok (.iconst (-1), 1) := by decide +kernel
theorem dX4_solved_278 : decode cX4_solved 278 = .ok (.iastore, 1) := by decide +kernel
theorem dX4_solved_279 : decode cX4_solved 279 = .ok (.iinc 3 1, 3) := by decide +kernel
theorem dX4_solved_282 : decode cX4_solved 282 = .ok (.goto (-263), 3) := by decide +kernel
theorem dX4_solved_285 : decode cX4_solved 285 = .ok (.iload 4, 2) := by decide +kernel
theorem dX4_solved_287 : decode cX4_solved 287 = .ok (.iconst 1, 1) := by decide +kernel
theorem dX4_solved_288 : decode cX4_solved 288 = .ok (.if_icmp .ne 7, 3) := by decide +kernel
theorem dX4_solved_291 : decode cX4_solved 291 = .ok (.iconst 1, 1) := by decide +kernel
theorem dX4_solved_292 : decode cX4_solved 292 = .ok (.goto 4, 3) := by decide +kernel
theorem dX4_solved_295 : decode cX4_solved 295 = .ok (.iconst 0, 1) := by decide +kernel
theorem dX4_solved_296 : decode cX4_solved 296 = .ok (.ireturn, 1) := by decide +kernel
set_option maxRecDepth 20000 in
theorem ggX4_leastFor_X4_solved : GoodIn wsX4_leastFor wsX4_solved := goodIn_r _ [5, 6, 7, 8, 9, 10, 11, 4, 12, 13, 14, 15, 16, 17, 18, 19, 20, 21, 22, 23, 24, 25, 26, 27, 28, 29, 30, 31, 32, 33, 34, 35, 36, 37, 38, 39, 40, 41, 42, 43, 44, 45, 46, 47, 48, 49, 50, 51, 52, 53, 54, 55, 56, 57, 58, 59, 60, 61, 62, 63, 64, 65, 66, 67, 68, 69, 70, 71, 72, 73, 74, 75] (by decide +kernel) (by decide +kernel)
set_option maxRecDepth 20000 in
theorem gX4_leastFor_X4_solved : GoodIn wsX4_leastFor (wsV RX4 149 RX4 yX4_solved wsX4_solved) := goodIn_app (goodIn_of _ (by decide +kernel)) ggX4_leastFor_X4_solved
theorem dX4_leastFor_0 : decode cX4_leastFor 0 = .ok (.iconst 0, 1) := by decide +kernel
theorem dX4_leastFor_1 : decode cX4_leastFor 1 = .ok (.istore_n 3, 1) := by decide +kernel
theorem dX4_leastFor_2 : decode cX4_leastFor 2 = .ok (.iload_n 3, 1) := by decide +kernel
theorem dX4_leastFor_3 : decode cX4_leastFor 3 = .ok (.iload_n 2, 1) := by decide +kernel
theorem dX4_leastFor_4 : decode cX4_leastFor 4 = .ok (.if_icmp .gt 20, 3) := by decide +kernel
theorem dX4_leastFor_7 : decode cX4_leastFor 7 = .ok (.aload_n 0, 1) := by decide +kernel
theorem dX4_leastFor_8 : decode cX4_leastFor 8 = .ok (.iload_n 1, 1) := by decide +kernel
theorem dX4_leastFor_9 : decode cX4_leastFor 9 = .ok (.iload_n 3, 1) := by decide +kernel
theorem dX4_leastFor_10 : decode cX4_leastFor 10 = .ok (.invokevirtual 149, 3) := by decide +kernel
theorem dX4_leastFor_13 : decode cX4_leastFor 13 = .ok (.ifCond .eq 5, 3) := by decide +kernel
theorem dX4_leastFor_16 : decode cX4_leastFor 16 = .ok (.iload_n 3, 1) := by decide +kernel
theorem dX4_leastFor_17 : decode cX4_leastFor 17 = .ok (.ireturn, 1) := by decide +kernel
theorem dX4_leastFor_18 : decode cX4_leastFor 18 = .ok (.iinc 3 1, 3) := by decide +kernel
theorem dX4_leastFor_21 : decode cX4_leastFor 21 = .ok (.goto (-19), 3) := by decide +kernel
theorem dX4_leastFor_24 : decode cX4_leastFor 24 = .ok (.iconst (-1), 1) := by decide +kernel
theorem dX4_leastFor_25 : decode cX4_leastFor 25 = .ok (.ireturn, 1) := by decide +kernel
set_option maxRecDepth 20000 in
theorem ggX4_least_X4_within : GoodIn wsX4_least wsX4_within := goodIn_r _ [6] (by decide +kernel) (by decide +kernel)
set_option maxRecDepth 20000 in
theorem gX4_least_X4_within : GoodIn wsX4_least (va_wsS RX4 96 yX4_within wsX4_within) := goodIn_app (goodIn_of _ (by decide +kernel)) ggX4_least_X4_within
set_option maxRecDepth 20000 in
theorem ggX4_least_X4_fail : GoodIn wsX4_least wsX4_fail := goodIn_r _ [10, 1, 56, 57, 58, 59, 60, 61, 62, 63, 64, 65, 66, 67, 68, 69, 70, 71, 72, 73, 74, 75, 76, 77, 78, 79, 80, 81, 82, 83, 84, 85, 86, 87, 88] (by decide +kernel) (by decide +kernel)
set_option maxRecDepth 20000 in
theorem gX4_least_X4_fail : GoodIn wsX4_least (wsV RX4 115 RX4 yX4_fail wsX4_fail) := goodIn_app (goodIn_of _ (by decide +kernel)) ggX4_least_X4_fail
set_option maxRecDepth 20000 in
theorem ggX4_least_X4_leastFor : GoodIn wsX4_least wsX4_leastFor := goodIn_r _ [14, 15, 16, 17, 5, 18, 19, 20, 21, 22, 23, 24, 25, 26, 27, 28, 29, 30, 31, 32, 33, 34, 35, 36, 37, 38, 39, 40, 41, 42, 43, 44, 45, 46, 47, 48, 49, 50, 51, 52, 53, 54, 55, 56, 57, 58, 59, 60, 61, 62, 63, 64, 65, 66, 67, 68, 69, 70, 71, 72, 73, 74, 75, 76, 77, 78, 79, 80, 81, 82, 83, 84, 85, 86, 87, 88] (by decide +kernel) (by decide +kernel)
set_option maxRecDepth 20000 in
theorem gX4_least_X4_leastFor : GoodIn wsX4_least (wsV RX4 152 RX4 yX4_leastFor wsX4_leastFor) := goodIn_app (goodIn_of _ (by decide +kernel)) ggX4_least_X4_leastFor
theorem dX4_least_0 : decode cX4_least 0 = .ok (.aload_n 0, 1) := by decide +kernel
theorem dX4_least_1 : decode cX4_least 1 = .ok (.iconst 0, 1) := by decide +kernel
theorem dX4_least_2 : decode cX4_least 2 = .ok (.putfield 93, 3) := by decide +kernel
theorem dX4_least_5 : decode cX4_least 5 = .ok (.iload_n 1, 1) := by decide +kernel
theorem dX4_least_6 : decode cX4_least 6 = .ok (.iconst 1, 1) := by decide +kernel
theorem dX4_least_7 : decode cX4_least 7 = .ok (.ldc 137, 2) := by decide +kernel
theorem dX4_least_9 : decode cX4_least 9 = .ok (.invokestatic 96, 3) := by decide +kernel
theorem dX4_least_12 : decode cX4_least 12 = .ok (.ifCond .eq 12, 3) := by decide +kernel
theorem dX4_least_15 : decode cX4_least 15 = .ok (.iload_n 2, 1) := by decide +kernel
theorem dX4_least_16 : decode cX4_least 16 = .ok (.iconst 0, 1) := by decide +kernel
theorem dX4_least_17 : decode cX4_least 17 = .ok (.iconst 4, 1) := by decide +kernel
theorem dX4_least_18 : decode cX4_least 18 = .ok (.invokestatic 96, 3) := by decide +kernel
theorem dX4_least_21 : decode cX4_least 21 = .ok (.ifCond .ne 9, 3) := by decide +kernel
theorem dX4_least_24 : decode cX4_least 24 = .ok (.aload_n 0, 1) := by decide +kernel
theorem dX4_least_25 : decode cX4_least 25 = .ok (.iconst 1, 1) := by decide +kernel
theorem dX4_least_26 : decode cX4_least 26 = .ok (.invokevirtual 115, 3) := by decide +kernel
theorem dX4_least_29 : decode cX4_least 29 = .ok (.ireturn, 1) := by decide +kernel
theorem dX4_least_30 : decode cX4_least 30 = .ok (.aload_n 0, 1) := by decide +kernel
theorem dX4_least_31 : decode cX4_least 31 = .ok (.iload_n 1, 1) := by decide +kernel
theorem dX4_least_32 : decode cX4_least 32 = .ok (.iload_n 2, 1) := by decide +kernel
theorem dX4_least_33 : decode cX4_least 33 = .ok (.invokevirtual 152, 3) := by decide +kernel
theorem dX4_least_36 : decode cX4_least 36 = .ok (.istore_n 3, 1) := by decide +kernel
theorem dX4_least_37 : decode cX4_least 37 = .ok (.iload_n 3, 1) := by decide +kernel
theorem dX4_least_38 : decode cX4_least 38 = .ok (.ifCond .ge 11, 3) := by decide +kernel
theorem dX4_least_41 : decode cX4_least 41 = .ok (.aload_n 0, 1) := by decide +kernel
theorem dX4_least_42 : decode cX4_least 42 = .ok (.iconst 2, 1) := by decide +kernel
theorem dX4_least_43 : decode cX4_least 43 = .ok (.invokevirtual 115, 3) := by decide +kernel
theorem dX4_least_46 : decode cX4_least 46 = .ok (.goto 4, 3) := by decide +kernel
theorem dX4_least_49 : decode cX4_least 49 = .ok (.iload_n 3, 1) := by decide +kernel
theorem dX4_least_50 : decode cX4_least 50 = .ok (.ireturn, 1) := by decide +kernel
set_option maxRecDepth 20000 in
theorem ggX4_partSolved_X4_part : GoodIn wsX4_partSolved wsX4_part := goodIn_r _ [5, 6, 7, 8, 9, 4, 10, 11, 12, 13, 14, 15, 16, 17, 18, 19, 20, 21, 22, 43, 44, 45, 46, 47, 48, 49, 50, 51, 52, 53, 54, 55, 56, 57, 58, 59, 60, 61, 62, 63, 64, 65, 66, 67, 68, 69, 70, 71, 72, 73, 74, 75] (by decide +kernel) (by decide +kernel)
set_option maxRecDepth 20000 in
theorem gX4_partSolved_X4_part : GoodIn wsX4_partSolved (wsV RX4 145 RX4 yX4_part wsX4_part) := goodIn_app (goodIn_of _ (by decide +kernel)) ggX4_partSolved_X4_part
set_option maxRecDepth 20000 in
theorem ggX4_partSolved_X4_solved : GoodIn wsX4_partSolved wsX4_solved := goodIn_r _ [26, 27, 28, 29, 30, 31, 32, 4, 33, 34, 35, 20, 21, 22, 36, 37, 38, 39, 40, 41, 42, 1, 2, 3, 5, 6, 7, 8, 9, 10, 11, 12, 13, 14, 15, 16, 17, 18, 19, 43, 44, 45, 46, 47, 48, 49, 50, 51, 52, 53, 54, 55, 56, 57, 58, 59, 60, 61, 62, 63, 64, 65, 66, 67, 68, 69, 70, 71, 72, 73, 74, 75] (by decide +kernel) (by decide +kernel)
set_option maxRecDepth 20000 in
theorem gX4_partSolved_X4_solved : GoodIn wsX4_partSolved (wsV RX4 149 RX4 yX4_solved wsX4_solved) := goodIn_app (goodIn_of _ (by decide +kernel)) ggX4_partSolved_X4_solved
theorem dX4_partSolved_0 : decode cX4_partSolved 0 = .ok (.aload_n 0, 1) := by decide +kernel
theorem dX4_partSolved_1 : decode cX4_partSolved 1 = .ok (.iload_n 1, 1) := by decide +kernel
theorem dX4_partSolved_2 : decode cX4_partSolved 2 = .ok (.iload_n 2, 1) := by decide +kernel
theorem dX4_partSolved_3 : decode cX4_partSolved 3 = .ok (.iload_n 3, 1) := by decide +kernel
theorem dX4_partSolved_4 : decode cX4_partSolved 4 = .ok (.invokevirtual 145, 3) := by decide +kernel
theorem dX4_partSolved_7 : decode cX4_partSolved 7 = .ok (.istore 5, 2) := by decide +kernel
theorem dX4_partSolved_9 : decode cX4_partSolved 9 = .ok (.iload 5, 2) := by decide +kernel
theorem dX4_partSolved_11 : decode cX4_partSolved 11 = .ok (.ifCond .eq 14, 3) := by decide +kernel
theorem dX4_partSolved_14 : decode cX4_partSolved 14 = .ok (.aload_n 0, 1) := by decide +kernel
theorem dX4_partSolved_15 : decode cX4_partSolved 15 = .ok (.iload 5, 2) := by decide +kernel
theorem dX4_partSolved_17 : decode cX4_partSolved 17 = .ok (.iload 4, 2) := by decide +kernel
theorem dX4_partSolved_19 : decode cX4_partSolved 19 = .ok (.invokevirtual 149, 3) := by decide +kernel
theorem dX4_partSolved_22 : decode cX4_partSolved 22 = .ok (.ifCond .eq 7, 3) := by decide +kernel
theorem dX4_partSolved_25 : decode cX4_partSolved 25 = .ok (.iconst 1, 1) := by decide +kernel
theorem dX4_partSolved_26 : decode cX4_partSolved 26 = .ok (.goto 4, 3) := by decide +kernel
theorem dX4_partSolved_29 : decode cX4_partSolved 29 = .ok (.iconst 0, 1) := by decide +kernel
theorem dX4_partSolved_30 : decode cX4_partSolved 30 = .ok (.ireturn, 1) := by decide +kernel
set_option maxRecDepth 20000 in
theorem ggX4_choose_X4_reached : GoodIn wsX4_choose wsX4_reached := goodIn_r _ [7, 8, 9, 10, 11, 6, 12, 49, 50, 51, 52, 53, 54, 55, 56, 57, 58, 59, 60, 61, 62, 63, 64, 65, 66, 67, 68, 69, 70, 71, 72, 73, 74, 75, 76, 77, 78, 79, 80, 81] (by decide +kernel) (by decide +kernel)
set_option maxRecDepth 20000 in
theorem gX4_choose_X4_reached : GoodIn wsX4_choose (wsV RX4 141 RX4 yX4_reached wsX4_reached) := goodIn_app (goodIn_of _ (by decide +kernel)) ggX4_choose_X4_reached
set_option maxRecDepth 20000 in
theorem ggX4_choose_X4_usable : GoodIn wsX4_choose wsX4_usable := goodIn_r _ [16, 17, 18, 19, 10, 11, 6, 12, 49, 50, 51, 52, 53, 54, 55, 56, 57, 58, 59, 60, 61, 62, 63, 64, 65, 66, 67, 68, 69, 70, 71, 72, 73, 74, 75, 76, 77, 78, 79, 80, 81] (by decide +kernel) (by decide +kernel)
set_option maxRecDepth 20000 in
theorem gX4_choose_X4_usable : GoodIn wsX4_choose (wsV RX4 138 RX4 yX4_usable wsX4_usable) := goodIn_app (goodIn_of _ (by decide +kernel)) ggX4_choose_X4_usable
set_option maxRecDepth 20000 in
theorem ggX4_choose_X4_partSolved : GoodIn wsX4_choose wsX4_partSolved := goodIn_r _ [23, 24, 25, 26, 6, 27, 28, 29, 30, 31, 32, 33, 34, 35, 36, 37, 38, 39, 40, 41, 10, 11, 12, 42, 43, 44, 45, 46, 47, 48, 3, 4, 5, 7, 8, 9, 13, 14, 15, 16, 17, 18, 19, 49, 50, 51, 52, 53, 54, 55, 56, 57, 58, 59, 60, 61, 62, 63, 64, 65, 66, 67, 68, 69, 70, 71, 72, 73, 74, 75, 76, 77, 78, 79, 80, 81] (by decide +kernel) (by decide +kernel)
set_option maxRecDepth 20000 in
theorem gX4_choose_X4_partSolved : GoodIn wsX4_choose (wsV RX4 155 RX4 yX4_partSolved wsX4_partSolved) := goodIn_app (goodIn_of _ (by decide +kernel)) ggX4_choose_X4_partSolved
set_option maxRecDepth 20000 in
theorem ggX4_choose_X4_part : GoodIn wsX4_choose wsX4_part := goodIn_r _ [27, 28, 29, 30, 31, 6, 32, 33, 34, 35, 36, 37, 38, 39, 40, 41, 10, 11, 12, 49, 50, 51, 52, 53, 54, 55, 56, 57, 58, 59, 60, 61, 62, 63, 64, 65, 66, 67, 68, 69, 70, 71, 72, 73, 74, 75, 76, 77, 78, 79, 80, 81] (by decide +kernel) (by decide +kernel)
set_option maxRecDepth 20000 in
theorem gX4_choose_X4_part : GoodIn wsX4_choose (wsV RX4 145 RX4 yX4_part wsX4_part) := goodIn_app (goodIn_of _ (by decide +kernel)) ggX4_choose_X4_part
theorem dX4_choose_0 : decode cX4_choose 0 = .ok (.aload_n 0, 1) := by decide +kernel
theorem dX4_choose_1 : decode cX4_choose 1 = .ok (.getfield 62, 3) := by decide +kernel
theorem dX4_choose_4 : decode cX4_choose 4 = .ok (.iload_n 1, 1) := by decide +kernel
theorem dX4_choose_5 : decode cX4_choose 5 = .ok (.iaload, 1) := by decide +kernel
theorem dX4_choose_6 : decode cX4_choose 6 = .ok (.istore_n 3, 1) := by decide +kernel
theorem dX4_choose_7 : decode cX4_choose 7 = .ok (.aload_n 0, 1) := by decide +kernel
theorem dX4_choose_8 : decode cX4_choose 8 = .ok (.getfield 65, 3) := by decide +kernel
theorem dX4_choose_11 : decode cX4_choose 11 = .ok (.iload_n 1, 1) := by decide +kernel
theorem dX4_choose_12 : decode cX4_choose 12 = .ok (.iconst (-1), 1) := by decide +kernel
theorem dX4_choose_13 : decode cX4_choose 13 = .ok (.iastore, 1) := by decide +kernel
theorem dX4_choose_14 : decode cX4_choose 14 = .ok (.aload_n 0, 1) := by decide +kernel
theorem dX4_choose_15 : decode cX4_choose 15 = .ok (.getfield 62, 3) := by decide +kernel
theorem dX4_choose_18 : decode cX4_choose 18 = .ok (.iconst 2, 1) := by decide +kernel
theorem dX4_choose_19 : decode cX4_choose 19 = .ok (.iload_n 1, 1) := by decide +kernel
theorem dX4_choose_20 : decode cX4_choose 20 = .ok (.imul, 1) := by decide +kernel
theorem dX4_choose_21 : decode cX4_choose 21 = .ok (.iconst 0, 1) := by decide +kernel
theorem dX4_choose_22 : decode cX4_choose 22 = .ok (.iastore, 1) := by decide +kernel
theorem dX4_choose_23 : decode cX4_choose 23 = .ok (.aload_n 0, 1) := by decide +kernel
theorem dX4_choose_24 : decode cX4_choose 24 = .ok (.getfield 62, 3) := by decide +kernel
theorem dX4_choose_27 : decode cX4_choose 27 = .ok (.iconst 2, 1) := by decide +kernel
theorem dX4_choose_28 : decode cX4_choose 28 = .ok (.iload_n 1, 1) := by decide +kernel
theorem dX4_choose_29 : decode cX4_choose 29 = .ok (.imul, 1) := by decide +kernel
theorem dX4_choose_30 : decode cX4_choose 30 = .ok (.iconst 1, 1) := by decide +kernel
theorem dX4_choose_31 : decode cX4_choose 31 = .ok (.iadd, 1) := by decide +kernel
theorem dX4_choose_32 : decode cX4_choose 32 = .ok (.iconst 0, 1) := by decide +kernel
theorem dX4_choose_33 : decode cX4_choose 33 = .ok (.iastore, 1) := by decide +kernel
theorem dX4_choose_34 : decode cX4_choose 34 = .ok (.iload_n 3, 1) := by decide +kernel
theorem dX4_choose_35 : decode cX4_choose 35 = .ok (.ifCond .eq 11, 3) := by decide +kernel
theorem dX4_choose_38 : decode cX4_choose 38 = .ok (.aload_n 0, 1) := by decide +kernel
theorem dX4_choose_39 : decode cX4_choose 39 = .ok (.iload_n 3, 1) := by decide +kernel
theorem dX4_choose_40 : decode cX4_choose 40 = .ok (.invokevirtual 141, 3) := by decide +kernel
theorem dX4_choose_43 : decode cX4_choose 43 = .ok (.ifCond .eq 4, 3) := by decide +kernel
theorem dX4_choose_46 : decode cX4_choose 46 = .ok (.return_, 1) := by decide +kernel
theorem dX4_choose_47 : decode cX4_choose 47 = .ok (.iconst 0, 1) := by decide +kernel
theorem dX4_choose_48 : decode cX4_choose 48 = .ok (.istore 4, 2) := by decide +kernel
theorem dX4_choose_50 : decode cX4_choose 50 = .ok (.aload_n 0, 1) := by decide +kernel
theorem dX4_choose_51 : decode cX4_choose 51 = .ok (.iload 4, 2) := by decide +kernel
theorem dX4_choose_53 : decode cX4_choose 53 = .ok (.iload_n 3, 1) := by decide +kernel
theorem dX4_choose_54 : decode cX4_choose 54 = .ok (.invokevirtual 138, 3) := by decide +kernel
theorem dX4_choose_57 : decode cX4_choose 57 = .ok (.ifCond .eq 31, 3) := by decide +kernel
theorem dX4_choose_60 : decode cX4_choose 60 = .ok (.aload_n 0, 1) := by decide +kernel
theorem dX4_choose_61 : decode cX4_choose 61 = .ok (.iload 4, 2) := by decide +kernel
theorem dX4_choose_63 : decode cX4_choose 63 = .ok (.iload_n 3, 1) := by decide +kernel
theorem dX4_choose_64 : decode cX4_choose 64 = .ok (.iconst 0, 1) := by decide +kernel
theorem dX4_choose_65 : decode cX4_choose 65 = .ok (.iload_n 2, 1) := by decide +kernel
theorem dX4_choose_66 : decode cX4_choose 66 = .ok (.iconst 1, 1) := by decide +kernel
theorem dX4_choose_67 : decode cX4_choose 67 = .ok (.isub, 1) := by decide +kernel
theorem dX4_choose_68 : decode cX4_choose 68 = .ok (.invokevirtual 155, 3) := by decide +kernel
theorem dX4_choose_71 : decode cX4_choose 71 = .ok (.ifCond .eq 17, 3) := by decide +kernel
theorem dX4_choose_74 : decode cX4_choose 74 = .ok (.aload_n 0, 1) := by decide +kernel
theorem dX4_choose_75 : decode cX4_choose 75 = .ok (.iload 4, 2) := by decide +kernel
theorem dX4_choose_77 : decode cX4_choose 77 = .ok (.iload_n 3, 1) := by decide +kernel
theorem dX4_choose_78 : decode cX4_choose 78 = .ok (.iconst 1, 1) := by decide +kernel
theorem dX4_choose_79 : decode cX4_choose 79 = .ok (.iload_n 2, 1) := by decide +kernel
theorem dX4_choose_80 : decode cX4_choose 80 = .ok (.iconst 1, 1) := by decide +kernel
theorem dX4_choose_81 : decode cX4_choose 81 = .ok (.isub, 1) := by decide +kernel
theorem dX4_choose_82 : decode cX4_choose 82 = .ok (.invokevirtual 155, 3) := by decide +kernel
theorem dX4_choose_85 : decode cX4_choose 85 = .ok (.ifCond .ne 9, 3) := by decide +kernel
theorem dX4_choose_88 : decode cX4_choose 88 = .ok (.iinc 4 1, 3) := by decide +kernel
theorem dX4_choose_91 : decode cX4_choose 91 = .ok (.goto (-41), 3) := by decide +kernel
theorem dX4_choose_94 : decode cX4_choose 94 = .ok (.aload_n 0, 1) := by decide +kernel
theorem dX4_choose_95 : decode cX4_choose 95 = .ok (.getfield 65, 3) := by decide +kernel
theorem dX4_choose_98 : decode cX4_choose 98 = .ok (.iload_n 1, 1) := by decide +kernel
theorem dX4_choose_99 : decode cX4_choose 99 = .ok (.iload 4, 2) := by decide +kernel
theorem dX4_choose_101 : decode cX4_choose 101 = .ok (.iastore, 1) := by decide +kernel
theorem dX4_choose_102 : decode cX4_choose 102 = .ok (.aload_n 0, 1) := by decide +kernel
theorem dX4_choose_103 : decode cX4_choose 103 = .ok (.getfield 62, 3) := by decide +kernel
theorem dX4_choose_106 : decode cX4_choose 106 = .ok (.iconst 2, 1) := by decide +kernel
theorem dX4_choose_107 : decode cX4_choose 107 = .ok (.iload_n 1, 1) := by decide +kernel
theorem dX4_choose_108 : decode cX4_choose 108 = .ok (.imul, 1) := by decide +kernel
theorem dX4_choose_109 : decode cX4_choose 109 = .ok (.aload_n 0, 1) := by decide +kernel
theorem dX4_choose_110 : decode cX4_choose 110 = .ok (.iload 4, 2) := by decide +kernel
theorem dX4_choose_112 : decode cX4_choose 112 = .ok (.iload_n 3, 1) := by decide +kernel
theorem dX4_choose_113 : decode cX4_choose 113 = .ok (.iconst 0, 1) := by decide +kernel
theorem dX4_choose_114 : decode cX4_choose 114 = .ok (.invokevirtual 145, 3) := by decide +kernel
theorem dX4_choose_117 : decode cX4_choose 117 = .ok (.iastore, 1) := by decide +kernel
theorem dX4_choose_118 : decode cX4_choose 118 = .ok (.aload_n 0, 1) := by decide +kernel
theorem dX4_choose_119 : decode cX4_choose 119 = .ok (.getfield 62, 3) := by decide +kernel
theorem dX4_choose_122 : decode cX4_choose 122 = .ok (.iconst 2, 1) := by decide +kernel
theorem dX4_choose_123 : decode cX4_choose 123 = .ok (.iload_n 1, 1) := by decide +kernel
theorem dX4_choose_124 : decode cX4_choose 124 = .ok (.imul, 1) := by decide +kernel
theorem dX4_choose_125 : decode cX4_choose 125 = .ok (.iconst 1, 1) := by decide +kernel
theorem dX4_choose_126 : decode cX4_choose 126 = .ok (.iadd, 1) := by decide +kernel
theorem dX4_choose_127 : decode cX4_choose 127 = .ok (.aload_n 0, 1) := by decide +kernel
theorem dX4_choose_128 : decode cX4_choose 128 = .ok (.iload 4, 2) := by decide +kernel
theorem dX4_choose_130 : decode cX4_choose 130 = .ok (.iload_n 3, 1) := by decide +kernel
theorem dX4_choose_131 : decode cX4_choose 131 = .ok (.iconst 1, 1) := by decide +kernel
theorem dX4_choose_132 : decode cX4_choose 132 = .ok (.invokevirtual 145, 3) := by decide +kernel
theorem dX4_choose_135 : decode cX4_choose 135 = .ok (.iastore, 1) := by decide +kernel
theorem dX4_choose_136 : decode cX4_choose 136 = .ok (.return_, 1) := by decide +kernel
theorem dX4_depthOf_0 : decode cX4_depthOf 0 = .ok (.iconst 0, 1) := by decide +kernel
theorem dX4_depthOf_1 : decode cX4_depthOf 1 = .ok (.istore_n 1, 1) := by decide +kernel
theorem dX4_depthOf_2 : decode cX4_depthOf 2 = .ok (.iload_n 0, 1) := by decide +kernel
theorem dX4_depthOf_3 : decode cX4_depthOf 3 = .ok (.istore_n 2, 1) := by decide +kernel
theorem dX4_depthOf_4 : decode cX4_depthOf 4 = .ok (.iload_n 2, 1) := by decide +kernel
theorem dX4_depthOf_5 : decode cX4_depthOf 5 = .ok (.iconst 1, 1) := by decide +kernel
theorem dX4_depthOf_6 : decode cX4_depthOf 6 = .ok (.if_icmp .le 13, 3) := by decide +kernel
theorem dX4_depthOf_9 : decode cX4_depthOf 9 = .ok (.iinc 1 1, 3) := by decide +kernel
theorem dX4_depthOf_12 : decode cX4_depthOf 12 = .ok (.iload_n 2, 1) := by decide +kernel
theorem dX4_depthOf_13 : decode cX4_depthOf 13 = .ok (.iconst 2, 1) := by decide +kernel
theorem dX4_depthOf_14 : decode cX4_depthOf 14 = .ok (.idiv, 1) := by decide +kernel
theorem dX4_depthOf_15 : decode cX4_depthOf 15 = .ok (.istore_n 2, 1) := by decide +kernel
theorem dX4_depthOf_16 : decode cX4_depthOf 16 = .ok (.goto (-12), 3) := by decide +kernel
theorem dX4_depthOf_19 : decode cX4_depthOf 19 = .ok (.iload_n 1, 1) := by decide +kernel
theorem dX4_depthOf_20 : decode cX4_depthOf 20 = .ok (.ireturn, 1) := by decide +kernel
set_option maxRecDepth 20000 in
theorem ggX4_equal_X4_classOf : GoodIn wsX4_equal wsX4_classOf := goodIn_r _ [7, 1, 8, 9, 10, 11, 12, 13, 14, 15, 16, 17, 18, 19, 20, 21, 22, 23, 24, 25, 26, 27, 28, 29, 30, 31, 32, 33, 34, 35, 36, 37, 38, 39, 40, 41] (by decide +kernel) (by decide +kernel)
set_option maxRecDepth 20000 in
theorem gX4_equal_X4_classOf : GoodIn wsX4_equal (wsV RX4 159 RX4 yX4_classOf wsX4_classOf) := goodIn_app (goodIn_of _ (by decide +kernel)) ggX4_equal_X4_classOf
theorem dX4_equal_0 : decode cX4_equal 0 = .ok (.aload_n 0, 1) := by decide +kernel
theorem dX4_equal_1 : decode cX4_equal 1 = .ok (.getfield 62, 3) := by decide +kernel
theorem dX4_equal_4 : decode cX4_equal 4 = .ok (.iload_n 1, 1) := by decide +kernel
theorem dX4_equal_5 : decode cX4_equal 5 = .ok (.iaload, 1) := by decide +kernel
theorem dX4_equal_6 : decode cX4_equal 6 = .ok (.ifCond .eq 12, 3) := by decide +kernel
theorem dX4_equal_9 : decode cX4_equal 9 = .ok (.aload_n 0, 1) := by decide +kernel
theorem dX4_equal_10 : decode cX4_equal 10 = .ok (.getfield 62, 3) := by decide +kernel
theorem dX4_equal_13 : decode cX4_equal 13 = .ok (.iload_n 2, 1) := by decide +kernel
theorem dX4_equal_14 : decode cX4_equal 14 = .ok (.iaload, 1) := by decide +kernel
theorem dX4_equal_15 : decode cX4_equal 15 = .ok (.ifCond .ne 24, 3) := by decide +kernel
theorem dX4_equal_18 : decode cX4_equal 18 = .ok (.aload_n 0, 1) := by decide +kernel
theorem dX4_equal_19 : decode cX4_equal 19 = .ok (.getfield 62, 3) := by decide +kernel
theorem dX4_equal_22 : decode cX4_equal 22 = .ok (.iload_n 1, 1) := by decide +kernel
theorem dX4_equal_23 : decode cX4_equal 23 = .ok (.iaload, 1) := by decide +kernel
theorem dX4_equal_24 : decode cX4_equal 24 = .ok (.aload_n 0, 1) := by decide +kernel
theorem dX4_equal_25 : decode cX4_equal 25 = .ok (.getfield 62, 3) := by decide +kernel
theorem dX4_equal_28 : decode cX4_equal 28 = .ok (.iload_n 2, 1) := by decide +kernel
theorem dX4_equal_29 : decode cX4_equal 29 = .ok (.iaload, 1) := by decide +kernel
theorem dX4_equal_30 : decode cX4_equal 30 = .ok (.if_icmp .ne 7, 3) := by decide +kernel
theorem dX4_equal_33 : decode cX4_equal 33 = .ok (.iconst 1, 1) := by decide +kernel
theorem dX4_equal_34 : decode cX4_equal 34 = .ok (.goto 4, 3) := by decide +kernel
theorem dX4_equal_37 : decode cX4_equal 37 = .ok (.iconst 0, 1) := by decide +kernel
theorem dX4_equal_38 : decode cX4_equal 38 = .ok (.ireturn, 1) := by decide +kernel
theorem dX4_equal_39 : decode cX4_equal 39 = .ok (.aload_n 0, 1) := by decide +kernel
theorem dX4_equal_40 : decode cX4_equal 40 = .ok (.getfield 65, 3) := by decide +kernel
theorem dX4_equal_43 : decode cX4_equal 43 = .ok (.iload_n 1, 1) := by decide +kernel
theorem dX4_equal_44 : decode cX4_equal 44 = .ok (.iaload, 1) := by decide +kernel
theorem dX4_equal_45 : decode cX4_equal 45 = .ok (.aload_n 0, 1) := by decide +kernel
theorem dX4_equal_46 : decode cX4_equal 46 = .ok (.getfield 65, 3) := by decide +kernel
theorem dX4_equal_49 : decode cX4_equal 49 = .ok (.iload_n 2, 1) := by decide +kernel
theorem dX4_equal_50 : decode cX4_equal 50 = .ok (.iaload, 1) := by decide +kernel
theorem dX4_equal_51 : decode cX4_equal 51 = .ok (.if_icmp .eq 5, 3) := by decide +kernel
theorem dX4_equal_54 : decode cX4_equal 54 = .ok (.iconst 0, 1) := by decide +kernel
theorem dX4_equal_55 : decode cX4_equal 55 = .ok (.ireturn, 1) := by decide +kernel
theorem dX4_equal_56 : decode cX4_equal 56 = .ok (.aload_n 0, 1) := by decide +kernel
theorem dX4_equal_57 : decode cX4_equal 57 = .ok (.getfield 65, 3) := by decide +kernel
theorem dX4_equal_60 : decode cX4_equal 60 = .ok (.iload_n 1, 1) := by decide +kernel
theorem dX4_equal_61 : decode cX4_equal 61 = .ok (.iaload, 1) := by decide +kernel
theorem dX4_equal_62 : decode cX4_equal 62 = .ok (.ifCond .lt 41, 3) := by decide +kernel
theorem dX4_equal_65 : decode cX4_equal 65 = .ok (.aload_n 0, 1) := by decide +kernel
theorem dX4_equal_66 : decode cX4_equal 66 = .ok (.iconst 2, 1) := by decide +kernel
theorem dX4_equal_67 : decode cX4_equal 67 = .ok (.iload_n 1, 1) := by decide +kernel
theorem dX4_equal_68 : decode cX4_equal 68 = .ok (.imul, 1) := by decide +kernel
theorem dX4_equal_69 : decode cX4_equal 69 = .ok (.invokevirtual 159, 3) := by decide +kernel
theorem dX4_equal_72 : decode cX4_equal 72 = .ok (.aload_n 0, 1) := by decide +kernel
theorem dX4_equal_73 : decode cX4_equal 73 = .ok (.iconst 2, 1) := by decide +kernel
theorem dX4_equal_74 : decode cX4_equal 74 = .ok (.iload_n 2, 1) := by decide +kernel
theorem dX4_equal_75 : decode cX4_equal 75 = .ok (.imul, 1) := by decide +kernel
theorem dX4_equal_76 : decode cX4_equal 76 = .ok (.invokevirtual 159, 3) := by decide +kernel
theorem dX4_equal_79 : decode cX4_equal 79 = .ok (.if_icmp .ne 28, 3) := by decide +kernel
theorem dX4_equal_82 : decode cX4_equal 82 = .ok (.aload_n 0, 1) := by decide +kernel
theorem dX4_equal_83 : decode cX4_equal 83 = .ok (.iconst 2, 1) := by decide +kernel
theorem dX4_equal_84 : decode cX4_equal 84 = .ok (.iload_n 1, 1) := by decide +kernel
theorem dX4_equal_85 : decode cX4_equal 85 = .ok (.imul, 1) := by decide +kernel
theorem dX4_equal_86 : decode cX4_equal 86 = .ok (.iconst 1, 1) := by decide +kernel
theorem dX4_equal_87 : decode cX4_equal 87 = .ok (.iadd, 1) := by decide +kernel
theorem dX4_equal_88 : decode cX4_equal 88 = .ok (.invokevirtual 159, 3) := by decide +kernel
theorem dX4_equal_91 : decode cX4_equal 91 = .ok (.aload_n 0, 1) := by decide +kernel
theorem dX4_equal_92 : decode cX4_equal 92 = .ok (.iconst 2, 1) := by decide +kernel
theorem dX4_equal_93 : decode cX4_equal 93 = .ok (.iload_n 2, 1) := by decide +kernel
theorem dX4_equal_94 : decode cX4_equal 94 = .ok (.imul, 1) := by decide +kernel
theorem dX4_equal_95 : decode cX4_equal 95 = .ok (.iconst 1, 1) := by decide +kernel
theorem dX4_equal_96 : decode cX4_equal 96 = .ok (.iadd, 1) := by decide +kernel
theorem dX4_equal_97 : decode cX4_equal 97 = .ok (.invokevirtual 159, 3) := by decide +kernel
theorem dX4_equal_100 : decode cX4_equal 100 = .ok (.if_icmp .ne 7, 3) := by decide +kernel
theorem dX4_equal_103 : decode cX4_equal 103 = .ok (.iconst 1, 1) := by decide +kernel
theorem dX4_equal_104 : decode cX4_equal 104 = .ok (.goto 4, 3) := by decide +kernel
theorem dX4_equal_107 : decode cX4_equal 107 = .ok (.iconst 0, 1) := by decide +kernel
theorem dX4_equal_108 : decode cX4_equal 108 = .ok (.ireturn, 1) := by decide +kernel
theorem dX4_classOf_0 : decode cX4_classOf 0 = .ok (.aload_n 0, 1) := by decide +kernel
theorem dX4_classOf_1 : decode cX4_classOf 1 = .ok (.getfield 62, 3) := by decide +kernel
theorem dX4_classOf_4 : decode cX4_classOf 4 = .ok (.iload_n 1, 1) := by decide +kernel
theorem dX4_classOf_5 : decode cX4_classOf 5 = .ok (.iaload, 1) := by decide +kernel
theorem dX4_classOf_6 : decode cX4_classOf 6 = .ok (.ifCond .ne 7, 3) := by decide +kernel
theorem dX4_classOf_9 : decode cX4_classOf 9 = .ok (.iconst 0, 1) := by decide +kernel
theorem dX4_classOf_10 : decode cX4_classOf 10 = .ok (.goto 9, 3) := by decide +kernel
theorem dX4_classOf_13 : decode cX4_classOf 13 = .ok (.aload_n 0, 1) := by decide +kernel
theorem dX4_classOf_14 : decode cX4_classOf 14 = .ok (.getfield 68, 3) := by decide +kernel
theorem dX4_classOf_17 : decode cX4_classOf 17 = .ok (.iload_n 1, 1) := by decide +kernel
theorem dX4_classOf_18 : decode cX4_classOf 18 = .ok (.iaload, 1) := by decide +kernel
theorem dX4_classOf_19 : decode cX4_classOf 19 = .ok (.ireturn, 1) := by decide +kernel
set_option maxRecDepth 20000 in
theorem ggX4_build_X4_depthOf : GoodIn wsX4_build wsX4_depthOf := goodIn_r _ [7] (by decide +kernel) (by decide +kernel)
set_option maxRecDepth 20000 in
theorem gX4_build_X4_depthOf : GoodIn wsX4_build (va_wsS RX4 162 yX4_depthOf wsX4_depthOf) := goodIn_app (goodIn_of _ (by decide +kernel)) ggX4_build_X4_depthOf
set_option maxRecDepth 20000 in
theorem ggX4_build_X4_choose : GoodIn wsX4_build wsX4_choose := goodIn_r _ [11, 1, 12, 13, 14, 15, 6, 16, 17, 18, 19, 20, 21, 22, 23, 24, 25, 26, 27, 28, 29, 30, 31, 32, 33, 34, 35, 36, 37, 38, 39, 40, 41, 42, 43, 44, 45, 46, 47, 48, 49, 50, 51, 52, 53, 54, 55, 56, 57, 75, 76, 77, 78, 79, 80, 81, 82, 83, 84, 85, 86, 87, 88, 89, 90, 91, 92, 93, 94, 95, 96, 97, 98, 99, 100, 101, 102, 103, 104, 105, 106, 107] (by decide +kernel) (by decide +kernel)
set_option maxRecDepth 20000 in
theorem gX4_build_X4_choose : GoodIn wsX4_build (wsV RX4 165 RX4 yX4_choose wsX4_choose) := goodIn_app (goodIn_of _ (by decide +kernel)) ggX4_build_X4_choose
set_option maxRecDepth 20000 in
theorem ggX4_build_X4_equal : GoodIn wsX4_build wsX4_equal := goodIn_r _ [61, 1, 12, 62, 63, 64, 6, 65, 3, 75, 76, 77, 78, 79, 80, 81, 82, 83, 84, 85, 86, 87, 88, 89, 90, 91, 92, 93, 94, 95, 96, 97, 98, 99, 100, 101, 102, 103, 104, 105, 106, 107] (by decide +kernel) (by decide +kernel)
set_option maxRecDepth 20000 in
theorem gX4_build_X4_equal : GoodIn wsX4_build (wsV RX4 169 RX4 yX4_equal wsX4_equal) := goodIn_app (goodIn_of _ (by decide +kernel)) ggX4_build_X4_equal
set_option maxRecDepth 20000 in
theorem ggX4_build_X4_number : GoodIn wsX4_build wsX4_number := goodIn_r _ [69, 70, 71, 3, 1, 2, 72, 12, 73, 74, 75, 76, 77, 78, 79, 80, 81, 82, 83, 84, 85, 86, 87, 88, 89, 90, 91, 92, 93, 94, 95, 96, 97, 98, 99, 100, 101, 102, 103, 104, 105, 106, 107] (by decide +kernel) (by decide +kernel)
set_option maxRecDepth 20000 in
theorem gX4_build_X4_number : GoodIn wsX4_build (wsV RX4 172 RX4 yX4_number wsX4_number) := goodIn_app (goodIn_of _ (by decide +kernel)) ggX4_build_X4_number
theorem dX4_build_0 : decode cX4_build 0 = .ok (.aload_n 0, 1) := by decide +kernel
theorem dX4_build_1 : decode cX4_build 1 = .ok (.getfield 62, 3) := by decide +kernel
theorem dX4_build_4 : decode cX4_build 4 = .ok (.iconst 1, 1) := by decide +kernel
theorem dX4_build_5 : decode cX4_build 5 = .ok (.iload_n 1, 1) := by decide +kernel
theorem dX4_build_6 : decode cX4_build 6 = .ok (.iastore, 1) := by decide +kernel
theorem dX4_build_7 : decode cX4_build 7 = .ok (.iconst 1, 1) := by decide +kernel
theorem dX4_build_8 : decode cX4_build 8 = .ok (.istore_n 3, 1) := by decide +kernel
theorem dX4_build_9 : decode cX4_build 9 = .ok (.iload_n 3, 1) := by decide +kernel
theorem dX4_build_10 : decode cX4_build 10 = .ok (.bipush 32, 2) := by decide +kernel
