set_option maxRecDepth 20000 in
theorem ggX5_clearOf_X5_loudOf : GoodIn wsX5_clearOf wsX5_loudOf := goodIn_r _ [6, 1, 7, 8, 5, 9, 10, 11, 12, 13, 14, 15, 16, 17, 18, 19, 20, 21, 22, 23, 24, 25, 26, 27, 28, 29, 30, 31, 32, 33, 34, 35, 36, 37, 38, 39, 40, 41, 42, 43, 44] (by decide +kernel) (by decide +kernel)
set_option maxRecDepth 20000 in
theorem gX5_clearOf_X5_loudOf : GoodIn wsX5_clearOf (wsV RX5 125 RX5 yX5_loudOf wsX5_loudOf) := goodIn_app (goodIn_of _ (by decide +kernel)) ggX5_clearOf_X5_loudOf
set_option maxRecDepth 20000 in
theorem ggX5_clearOf_X5_has : GoodIn wsX5_clearOf wsX5_has := goodIn_r _ [9] (by decide +kernel) (by decide +kernel)
set_option maxRecDepth 20000 in
theorem gX5_clearOf_X5_has : GoodIn wsX5_clearOf (va_wsS RX5 121 yX5_has wsX5_has) := goodIn_app (goodIn_of _ (by decide +kernel)) ggX5_clearOf_X5_has
set_option maxRecDepth 20000 in
theorem ggX5_clearOf_X5_strengthOf : GoodIn wsX5_clearOf wsX5_strengthOf := goodIn_r _ [13, 1, 14, 15, 16, 17, 5, 18, 19, 20, 21, 22, 23, 24, 25, 26, 27, 28, 29, 30, 31, 32, 33, 34, 35, 36, 37, 38, 39, 40, 41, 42, 43, 44] (by decide +kernel) (by decide +kernel)
set_option maxRecDepth 20000 in
theorem gX5_clearOf_X5_strengthOf : GoodIn wsX5_clearOf (wsV RX5 115 RX5 yX5_strengthOf wsX5_strengthOf) := goodIn_app (goodIn_of _ (by decide +kernel)) ggX5_clearOf_X5_strengthOf
theorem dX5_clearOf_0 : decode cX5_clearOf 0 = .ok (.aload_n 0, 1) := by decide +kernel
theorem dX5_clearOf_1 : decode cX5_clearOf 1 = .ok (.iload_n 1, 1) := by decide +kernel
theorem dX5_clearOf_2 : decode cX5_clearOf 2 = .ok (.iload_n 2, 1) := by decide +kernel
theorem dX5_clearOf_3 : decode cX5_clearOf 3 = .ok (.invokevirtual 125, 3) := by decide +kernel
theorem dX5_clearOf_6 : decode cX5_clearOf 6 = .ok (.istore_n 3, 1) := by decide +kernel
theorem dX5_clearOf_7 : decode cX5_clearOf 7 = .ok (.bipush (-9), 2) := by decide +kernel
theorem dX5_clearOf_9 : decode cX5_clearOf 9 = .ok (.istore 4, 2) := by decide +kernel
theorem dX5_clearOf_11 : decode cX5_clearOf 11 = .ok (.iconst 0, 1) := by decide +kernel
theorem dX5_clearOf_12 : decode cX5_clearOf 12 = .ok (.istore 5, 2) := by decide +kernel
theorem dX5_clearOf_14 : decode cX5_clearOf 14 = .ok (.iload 5, 2) := by decide +kernel
theorem dX5_clearOf_16 : decode cX5_clearOf 16 = .ok (.aload_n 0, 1) := by decide +kernel
theorem dX5_clearOf_17 : decode cX5_clearOf 17 = .ok (.getfield 20, 3) := by decide +kernel
theorem dX5_clearOf_20 : decode cX5_clearOf 20 = .ok (.iconst 1, 1) := by decide +kernel
theorem dX5_clearOf_21 : decode cX5_clearOf 21 = .ok (.iaload, 1) := by decide +kernel
theorem dX5_clearOf_22 : decode cX5_clearOf 22 = .ok (.if_icmp .ge 40, 3) := by decide +kernel
theorem dX5_clearOf_25 : decode cX5_clearOf 25 = .ok (.iload_n 1, 1) := by decide +kernel
theorem dX5_clearOf_26 : decode cX5_clearOf 26 = .ok (.iload 5, 2) := by decide +kernel
theorem dX5_clearOf_28 : decode cX5_clearOf 28 = .ok (.invokestatic 121, 3) := by decide +kernel
theorem dX5_clearOf_31 : decode cX5_clearOf 31 = .ok (.ifCond .eq 21, 3) := by decide +kernel
theorem dX5_clearOf_34 : decode cX5_clearOf 34 = .ok (.iconst 2, 1) := by decide +kernel
theorem dX5_clearOf_35 : decode cX5_clearOf 35 = .ok (.aload_n 0, 1) := by decide +kernel
theorem dX5_clearOf_36 : decode cX5_clearOf 36 = .ok (.iload 5, 2) := by decide +kernel
theorem dX5_clearOf_38 : decode cX5_clearOf 38 = .ok (.iload_n 2, 1) := by decide +kernel
theorem dX5_clearOf_39 : decode cX5_clearOf 39 = .ok (.invokevirtual 115, 3) := by decide +kernel
theorem dX5_clearOf_42 : decode cX5_clearOf 42 = .ok (.imul, 1) := by decide +kernel
theorem dX5_clearOf_43 : decode cX5_clearOf 43 = .ok (.iload_n 3, 1) := by decide +kernel
theorem dX5_clearOf_44 : decode cX5_clearOf 44 = .ok (.if_icmp .le 8, 3) := by decide +kernel
theorem dX5_clearOf_47 : decode cX5_clearOf 47 = .ok (.iload 5, 2) := by decide +kernel
theorem dX5_clearOf_49 : decode cX5_clearOf 49 = .ok (.goto 5, 3) := by decide +kernel
theorem dX5_clearOf_52 : decode cX5_clearOf 52 = .ok (.iload 4, 2) := by decide +kernel
theorem dX5_clearOf_54 : decode cX5_clearOf 54 = .ok (.istore 4, 2) := by decide +kernel
theorem dX5_clearOf_56 : decode cX5_clearOf 56 = .ok (.iinc 5 1, 3) := by decide +kernel
theorem dX5_clearOf_59 : decode cX5_clearOf 59 = .ok (.goto (-45), 3) := by decide +kernel
theorem dX5_clearOf_62 : decode cX5_clearOf 62 = .ok (.iload 4, 2) := by decide +kernel
theorem dX5_clearOf_64 : decode cX5_clearOf 64 = .ok (.ireturn, 1) := by decide +kernel
set_option maxRecDepth 20000 in
theorem ggX5_lastOf_X5_strengthOf : GoodIn wsX5_lastOf wsX5_strengthOf := goodIn_r _ [5, 6, 7, 8, 9, 10, 4, 11, 12, 13, 14, 15, 16, 17, 18, 19, 20, 21, 22, 23, 24, 25, 26, 27, 28, 29, 30, 31, 32, 33, 34, 35, 36, 37] (by decide +kernel) (by decide +kernel)
set_option maxRecDepth 20000 in
theorem gX5_lastOf_X5_strengthOf : GoodIn wsX5_lastOf (wsV RX5 115 RX5 yX5_strengthOf wsX5_strengthOf) := goodIn_app (goodIn_of _ (by decide +kernel)) ggX5_lastOf_X5_strengthOf
theorem dX5_lastOf_0 : decode cX5_lastOf 0 = .ok (.iconst 0, 1) := by decide +kernel
theorem dX5_lastOf_1 : decode cX5_lastOf 1 = .ok (.istore_n 2, 1) := by decide +kernel
theorem dX5_lastOf_2 : decode cX5_lastOf 2 = .ok (.iload_n 2, 1) := by decide +kernel
theorem dX5_lastOf_3 : decode cX5_lastOf 3 = .ok (.sipush 999, 3) := by decide +kernel
theorem dX5_lastOf_6 : decode cX5_lastOf 6 = .ok (.if_icmp .gt 20, 3) := by decide +kernel
theorem dX5_lastOf_9 : decode cX5_lastOf 9 = .ok (.aload_n 0, 1) := by decide +kernel
theorem dX5_lastOf_10 : decode cX5_lastOf 10 = .ok (.iload_n 1, 1) := by decide +kernel
theorem dX5_lastOf_11 : decode cX5_lastOf 11 = .ok (.iload_n 2, 1) := by decide +kernel
theorem dX5_lastOf_12 : decode cX5_lastOf 12 = .ok (.invokevirtual 115, 3) := by decide +kernel
theorem dX5_lastOf_15 : decode cX5_lastOf 15 = .ok (.ifCond .ne 5, 3) := by decide +kernel
theorem dX5_lastOf_18 : decode cX5_lastOf 18 = .ok (.iload_n 2, 1) := by decide +kernel
theorem dX5_lastOf_19 : decode cX5_lastOf 19 = .ok (.ireturn, 1) := by decide +kernel
theorem dX5_lastOf_20 : decode cX5_lastOf 20 = .ok (.iinc 2 1, 3) := by decide +kernel
theorem dX5_lastOf_23 : decode cX5_lastOf 23 = .ok (.goto (-21), 3) := by decide +kernel
theorem dX5_lastOf_26 : decode cX5_lastOf 26 = .ok (.bipush (-9), 2) := by decide +kernel
theorem dX5_lastOf_28 : decode cX5_lastOf 28 = .ok (.ireturn, 1) := by decide +kernel
set_option maxRecDepth 20000 in
theorem ggX5_quietOf_X5_soundsOf : GoodIn wsX5_quietOf wsX5_soundsOf := goodIn_r _ [5, 6, 7, 8, 9, 4, 10, 11, 12, 13, 14, 15, 16, 17, 18, 19, 20, 21, 22, 23, 24, 25, 26, 27, 28, 29, 30, 31, 32, 33, 34, 35, 36, 37, 38, 39, 40, 41, 42, 43, 44, 45, 46, 47, 48, 49, 50, 51, 52, 53] (by decide +kernel) (by decide +kernel)
set_option maxRecDepth 20000 in
theorem gX5_quietOf_X5_soundsOf : GoodIn wsX5_quietOf (wsV RX5 128 RX5 yX5_soundsOf wsX5_soundsOf) := goodIn_app (goodIn_of _ (by decide +kernel)) ggX5_quietOf_X5_soundsOf
theorem dX5_quietOf_0 : decode cX5_quietOf 0 = .ok (.iconst 0, 1) := by decide +kernel
theorem dX5_quietOf_1 : decode cX5_quietOf 1 = .ok (.istore_n 2, 1) := by decide +kernel
theorem dX5_quietOf_2 : decode cX5_quietOf 2 = .ok (.iload_n 2, 1) := by decide +kernel
theorem dX5_quietOf_3 : decode cX5_quietOf 3 = .ok (.bipush 99, 2) := by decide +kernel
theorem dX5_quietOf_5 : decode cX5_quietOf 5 = .ok (.if_icmp .gt 20, 3) := by decide +kernel
theorem dX5_quietOf_8 : decode cX5_quietOf 8 = .ok (.aload_n 0, 1) := by decide +kernel
theorem dX5_quietOf_9 : decode cX5_quietOf 9 = .ok (.iload_n 1, 1) := by decide +kernel
theorem dX5_quietOf_10 : decode cX5_quietOf 10 = .ok (.iload_n 2, 1) := by decide +kernel
theorem dX5_quietOf_11 : decode cX5_quietOf 11 = .ok (.invokevirtual 128, 3) := by decide +kernel
theorem dX5_quietOf_14 : decode cX5_quietOf 14 = .ok (.ifCond .ne 5, 3) := by decide +kernel
theorem dX5_quietOf_17 : decode cX5_quietOf 17 = .ok (.iload_n 2, 1) := by decide +kernel
theorem dX5_quietOf_18 : decode cX5_quietOf 18 = .ok (.ireturn, 1) := by decide +kernel
theorem dX5_quietOf_19 : decode cX5_quietOf 19 = .ok (.iinc 2 1, 3) := by decide +kernel
theorem dX5_quietOf_22 : decode cX5_quietOf 22 = .ok (.goto (-20), 3) := by decide +kernel
theorem dX5_quietOf_25 : decode cX5_quietOf 25 = .ok (.bipush (-9), 2) := by decide +kernel
theorem dX5_quietOf_27 : decode cX5_quietOf 27 = .ok (.ireturn, 1) := by decide +kernel
set_option maxRecDepth 20000 in
theorem ggX5_saying_X5_isSaying : GoodIn wsX5_saying wsX5_isSaying := goodIn_r _ [6, 1, 7, 8, 5, 9, 40, 41, 42, 43, 44, 45, 46, 47, 48, 49, 50, 51, 52, 53, 54, 55, 56, 57, 58, 59, 60] (by decide +kernel) (by decide +kernel)
set_option maxRecDepth 20000 in
theorem gX5_saying_X5_isSaying : GoodIn wsX5_saying (wsV RX5 131 RX5 yX5_isSaying wsX5_isSaying) := goodIn_app (goodIn_of _ (by decide +kernel)) ggX5_saying_X5_isSaying
set_option maxRecDepth 20000 in
theorem ggX5_saying_X5_placeOf : GoodIn wsX5_saying wsX5_placeOf := goodIn_r _ [13, 1, 14, 15, 16, 5, 17, 18, 19, 20, 21, 22, 23, 24, 25, 26, 40, 41, 42, 43, 44, 45, 46, 47, 48, 49, 50, 51, 52, 53, 54, 55, 56, 57, 58, 59, 60] (by decide +kernel) (by decide +kernel)
set_option maxRecDepth 20000 in
theorem gX5_saying_X5_placeOf : GoodIn wsX5_saying (wsV RX5 118 RX5 yX5_placeOf wsX5_placeOf) := goodIn_app (goodIn_of _ (by decide +kernel)) ggX5_saying_X5_placeOf
set_option maxRecDepth 20000 in
theorem ggX5_saying_X5_lapsOf : GoodIn wsX5_saying wsX5_lapsOf := goodIn_r _ [30, 1, 26, 14, 15, 16, 5, 17, 40, 41, 42, 43, 44, 45, 46, 47, 48, 49, 50, 51, 52, 53, 54, 55, 56, 57, 58, 59, 60] (by decide +kernel) (by decide +kernel)
set_option maxRecDepth 20000 in
theorem gX5_saying_X5_lapsOf : GoodIn wsX5_saying (wsV RX5 112 RX5 yX5_lapsOf wsX5_lapsOf) := goodIn_app (goodIn_of _ (by decide +kernel)) ggX5_saying_X5_lapsOf
set_option maxRecDepth 20000 in
theorem ggX5_saying_X5_strengthOf : GoodIn wsX5_saying wsX5_strengthOf := goodIn_r _ [34, 1, 35, 27, 28, 29, 5, 30, 26, 14, 15, 16, 17, 40, 41, 42, 43, 44, 45, 46, 47, 48, 49, 50, 51, 52, 53, 54, 55, 56, 57, 58, 59, 60] (by decide +kernel) (by decide +kernel)
set_option maxRecDepth 20000 in
theorem gX5_saying_X5_strengthOf : GoodIn wsX5_saying (wsV RX5 115 RX5 yX5_strengthOf wsX5_strengthOf) := goodIn_app (goodIn_of _ (by decide +kernel)) ggX5_saying_X5_strengthOf
set_option maxRecDepth 20000 in
theorem ggX5_saying_X5_lastOf : GoodIn wsX5_saying wsX5_lastOf := goodIn_r _ [39, 31, 32, 33, 5, 34, 1, 35, 27, 28, 29, 30, 26, 14, 15, 16, 17, 40, 41, 42, 43, 44, 45, 46, 47, 48, 49, 50, 51, 52, 53, 54, 55, 56, 57, 58, 59, 60] (by decide +kernel) (by decide +kernel)
set_option maxRecDepth 20000 in
theorem gX5_saying_X5_lastOf : GoodIn wsX5_saying (wsV RX5 135 RX5 yX5_lastOf wsX5_lastOf) := goodIn_app (goodIn_of _ (by decide +kernel)) ggX5_saying_X5_lastOf
theorem dX5_saying_0 : decode cX5_saying 0 = .ok (.aload_n 0, 1) := by decide +kernel
theorem dX5_saying_1 : decode cX5_saying 1 = .ok (.iload_n 1, 1) := by decide +kernel
theorem dX5_saying_2 : decode cX5_saying 2 = .ok (.invokevirtual 131, 3) := by decide +kernel
theorem dX5_saying_5 : decode cX5_saying 5 = .ok (.ifCond .ne 5, 3) := by decide +kernel
theorem dX5_saying_8 : decode cX5_saying 8 = .ok (.iconst (-1), 1) := by decide +kernel
theorem dX5_saying_9 : decode cX5_saying 9 = .ok (.ireturn, 1) := by decide +kernel
theorem dX5_saying_10 : decode cX5_saying 10 = .ok (.iload_n 2, 1) := by decide +kernel
theorem dX5_saying_11 : decode cX5_saying 11 = .ok (.tableswitch 125 0 8 #[49, 58, 68, 78, 88, 95, 102, 109, 119], 49) := by decide +kernel
theorem dX5_saying_60 : decode cX5_saying 60 = .ok (.aload_n 0, 1) := by decide +kernel
theorem dX5_saying_61 : decode cX5_saying 61 = .ok (.getfield 20, 3) := by decide +kernel
theorem dX5_saying_64 : decode cX5_saying 64 = .ok (.iconst 2, 1) := by decide +kernel
theorem dX5_saying_65 : decode cX5_saying 65 = .ok (.iload_n 1, 1) := by decide +kernel
theorem dX5_saying_66 : decode cX5_saying 66 = .ok (.iadd, 1) := by decide +kernel
theorem dX5_saying_67 : decode cX5_saying 67 = .ok (.iaload, 1) := by decide +kernel
theorem dX5_saying_68 : decode cX5_saying 68 = .ok (.ireturn, 1) := by decide +kernel
theorem dX5_saying_69 : decode cX5_saying 69 = .ok (.aload_n 0, 1) := by decide +kernel
theorem dX5_saying_70 : decode cX5_saying 70 = .ok (.getfield 20, 3) := by decide +kernel
theorem dX5_saying_73 : decode cX5_saying 73 = .ok (.bipush 10, 2) := by decide +kernel
theorem dX5_saying_75 : decode cX5_saying 75 = .ok (.iload_n 1, 1) := by decide +kernel
theorem dX5_saying_76 : decode cX5_saying 76 = .ok (.iadd, 1) := by decide +kernel
theorem dX5_saying_77 : decode cX5_saying 77 = .ok (.iaload, 1) := by decide +kernel
theorem dX5_saying_78 : decode cX5_saying 78 = .ok (.ireturn, 1) := by decide +kernel
theorem dX5_saying_79 : decode cX5_saying 79 = .ok (.aload_n 0, 1) := by decide +kernel
theorem dX5_saying_80 : decode cX5_saying 80 = .ok (.getfield 20, 3) := by decide +kernel
theorem dX5_saying_83 : decode cX5_saying 83 = .ok (.bipush 18, 2) := by decide +kernel
theorem dX5_saying_85 : decode cX5_saying 85 = .ok (.iload_n 1, 1) := by decide +kernel
theorem dX5_saying_86 : decode cX5_saying 86 = .ok (.iadd, 1) := by decide +kernel
theorem dX5_saying_87 : decode cX5_saying 87 = .ok (.iaload, 1) := by decide +kernel
theorem dX5_saying_88 : decode cX5_saying 88 = .ok (.ireturn, 1) := by decide +kernel
theorem dX5_saying_89 : decode cX5_saying 89 = .ok (.aload_n 0, 1) := by decide +kernel
theorem dX5_saying_90 : decode cX5_saying 90 = .ok (.getfield 20, 3) := by decide +kernel
theorem dX5_saying_93 : decode cX5_saying 93 = .ok (.bipush 26, 2) := by decide +kernel
theorem dX5_saying_95 : decode cX5_saying 95 = .ok (.iload_n 1, 1) := by decide +kernel
theorem dX5_saying_96 : decode cX5_saying 96 = .ok (.iadd, 1) := by decide +kernel
theorem dX5_saying_97 : decode cX5_saying 97 = .ok (.iaload, 1) := by decide +kernel
theorem dX5_saying_98 : decode cX5_saying 98 = .ok (.ireturn, 1) := by decide +kernel
theorem dX5_saying_99 : decode cX5_saying 99 = .ok (.aload_n 0, 1) := by decide +kernel
theorem dX5_saying_100 : decode cX5_saying 100 = .ok (.iload_n 1, 1) := by decide +kernel
theorem dX5_saying_101 : decode cX5_saying 101 = .ok (.iconst 0, 1) := by decide +kernel
theorem dX5_saying_102 : decode cX5_saying 102 = .ok (.invokevirtual 118, 3) := by decide +kernel
theorem dX5_saying_105 : decode cX5_saying 105 = .ok (.ireturn, 1) := by decide +kernel
theorem dX5_saying_106 : decode cX5_saying 106 = .ok (.aload_n 0, 1) := by decide +kernel
theorem dX5_saying_107 : decode cX5_saying 107 = .ok (.iload_n 1, 1) := by decide +kernel
theorem dX5_saying_108 : decode cX5_saying 108 = .ok (.iconst 0, 1) := by decide +kernel
theorem dX5_saying_109 : decode cX5_saying 109 = .ok (.invokevirtual 112, 3) := by decide +kernel
theorem dX5_saying_112 : decode cX5_saying 112 = .ok (.ireturn, 1) := by decide +kernel
theorem dX5_saying_113 : decode cX5_saying 113 = .ok (.aload_n 0, 1) := by decide +kernel
theorem dX5_saying_114 : decode cX5_saying 114 = .ok (.iload_n 1, 1) := by decide +kernel
theorem dX5_saying_115 : decode cX5_saying 115 = .ok (.iconst 0, 1) := by decide +kernel
theorem dX5_saying_116 : decode cX5_saying 116 = .ok (.invokevirtual 115, 3) := by decide +kernel
theorem dX5_saying_119 : decode cX5_saying 119 = .ok (.ireturn, 1) := by decide +kernel
theorem dX5_saying_120 : decode cX5_saying 120 = .ok (.aload_n 0, 1) := by decide +kernel
theorem dX5_saying_121 : decode cX5_saying 121 = .ok (.getfield 20, 3) := by decide +kernel
theorem dX5_saying_124 : decode cX5_saying 124 = .ok (.bipush 42, 2) := by decide +kernel
theorem dX5_saying_126 : decode cX5_saying 126 = .ok (.iload_n 1, 1) := by decide +kernel
theorem dX5_saying_127 : decode cX5_saying 127 = .ok (.iadd, 1) := by decide +kernel
theorem dX5_saying_128 : decode cX5_saying 128 = .ok (.iaload, 1) := by decide +kernel
theorem dX5_saying_129 : decode cX5_saying 129 = .ok (.ireturn, 1) := by decide +kernel
theorem dX5_saying_130 : decode cX5_saying 130 = .ok (.aload_n 0, 1) := by decide +kernel
theorem dX5_saying_131 : decode cX5_saying 131 = .ok (.iload_n 1, 1) := by decide +kernel
theorem dX5_saying_132 : decode cX5_saying 132 = .ok (.invokevirtual 135, 3) := by decide +kernel
theorem dX5_saying_135 : decode cX5_saying 135 = .ok (.ireturn, 1) := by decide +kernel
theorem dX5_saying_136 : decode cX5_saying 136 = .ok (.iconst (-1), 1) := by decide +kernel
theorem dX5_saying_137 : decode cX5_saying 137 = .ok (.ireturn, 1) := by decide +kernel
set_option maxRecDepth 20000 in
theorem ggX5_place_X5_isPlace : GoodIn wsX5_place wsX5_isPlace := goodIn_r _ [6, 7, 8, 9, 5, 10, 56, 57, 58, 59, 60, 61, 62, 63, 64, 65, 66, 67, 68, 69, 70, 71, 72, 73, 74, 75, 76] (by decide +kernel) (by decide +kernel)
set_option maxRecDepth 20000 in
theorem gX5_place_X5_isPlace : GoodIn wsX5_place (wsV RX5 138 RX5 yX5_isPlace wsX5_isPlace) := goodIn_app (goodIn_of _ (by decide +kernel)) ggX5_place_X5_isPlace
set_option maxRecDepth 20000 in
theorem ggX5_place_X5_soundsOf : GoodIn wsX5_place wsX5_soundsOf := goodIn_r _ [14, 15, 16, 17, 18, 5, 19, 20, 21, 22, 23, 24, 7, 25, 26, 27, 28, 29, 30, 31, 32, 33, 34, 35, 36, 37, 38, 39, 40, 56, 57, 58, 59, 60, 61, 62, 63, 64, 65, 66, 67, 68, 69, 70, 71, 72, 73, 74, 75, 76] (by decide +kernel) (by decide +kernel)
set_option maxRecDepth 20000 in
theorem gX5_place_X5_soundsOf : GoodIn wsX5_place (wsV RX5 128 RX5 yX5_soundsOf wsX5_soundsOf) := goodIn_app (goodIn_of _ (by decide +kernel)) ggX5_place_X5_soundsOf
set_option maxRecDepth 20000 in
theorem ggX5_place_X5_clearOf : GoodIn wsX5_place wsX5_clearOf := goodIn_r _ [44, 15, 45, 46, 47, 5, 48, 49, 50, 51, 16, 17, 18, 19, 20, 21, 22, 23, 24, 7, 25, 26, 27, 28, 56, 57, 58, 59, 60, 61, 62, 63, 64, 65, 66, 67, 68, 69, 70, 71, 72, 73, 74, 75, 76] (by decide +kernel) (by decide +kernel)
set_option maxRecDepth 20000 in
theorem gX5_place_X5_clearOf : GoodIn wsX5_place (wsV RX5 141 RX5 yX5_clearOf wsX5_clearOf) := goodIn_app (goodIn_of _ (by decide +kernel)) ggX5_place_X5_clearOf
set_option maxRecDepth 20000 in
theorem ggX5_place_X5_has : GoodIn wsX5_place wsX5_has := goodIn_r _ [51] (by decide +kernel) (by decide +kernel)
set_option maxRecDepth 20000 in
theorem gX5_place_X5_has : GoodIn wsX5_place (va_wsS RX5 121 yX5_has wsX5_has) := goodIn_app (goodIn_of _ (by decide +kernel)) ggX5_place_X5_has
set_option maxRecDepth 20000 in
theorem ggX5_place_X5_loudOf : GoodIn wsX5_place wsX5_loudOf := goodIn_r _ [48, 15, 49, 50, 5, 51, 16, 17, 18, 19, 20, 21, 22, 23, 24, 7, 25, 26, 27, 28, 56, 57, 58, 59, 60, 61, 62, 63, 64, 65, 66, 67, 68, 69, 70, 71, 72, 73, 74, 75, 76] (by decide +kernel) (by decide +kernel)
set_option maxRecDepth 20000 in
theorem gX5_place_X5_loudOf : GoodIn wsX5_place (wsV RX5 125 RX5 yX5_loudOf wsX5_loudOf) := goodIn_app (goodIn_of _ (by decide +kernel)) ggX5_place_X5_loudOf
set_option maxRecDepth 20000 in
theorem ggX5_place_X5_quietOf : GoodIn wsX5_place wsX5_quietOf := goodIn_r _ [55, 11, 12, 13, 5, 14, 15, 16, 17, 18, 19, 20, 21, 22, 23, 24, 7, 25, 26, 27, 28, 29, 30, 31, 32, 33, 34, 35, 36, 37, 38, 39, 40, 56, 57, 58, 59, 60, 61, 62, 63, 64, 65, 66, 67, 68, 69, 70, 71, 72, 73, 74, 75, 76] (by decide +kernel) (by decide +kernel)
set_option maxRecDepth 20000 in
theorem gX5_place_X5_quietOf : GoodIn wsX5_place (wsV RX5 144 RX5 yX5_quietOf wsX5_quietOf) := goodIn_app (goodIn_of _ (by decide +kernel)) ggX5_place_X5_quietOf
theorem dX5_place_0 : decode cX5_place 0 = .ok (.aload_n 0, 1) := by decide +kernel
theorem dX5_place_1 : decode cX5_place 1 = .ok (.iload_n 1, 1) := by decide +kernel
theorem dX5_place_2 : decode cX5_place 2 = .ok (.invokevirtual 138, 3) := by decide +kernel
theorem dX5_place_5 : decode cX5_place 5 = .ok (.ifCond .ne 5, 3) := by decide +kernel
theorem dX5_place_8 : decode cX5_place 8 = .ok (.iconst (-1), 1) := by decide +kernel
theorem dX5_place_9 : decode cX5_place 9 = .ok (.ireturn, 1) := by decide +kernel
theorem dX5_place_10 : decode cX5_place 10 = .ok (.aload_n 0, 1) := by decide +kernel
theorem dX5_place_11 : decode cX5_place 11 = .ok (.iload_n 1, 1) := by decide +kernel
theorem dX5_place_12 : decode cX5_place 12 = .ok (.iconst 0, 1) := by decide +kernel
theorem dX5_place_13 : decode cX5_place 13 = .ok (.invokevirtual 128, 3) := by decide +kernel
theorem dX5_place_16 : decode cX5_place 16 = .ok (.istore_n 3, 1) := by decide +kernel
theorem dX5_place_17 : decode cX5_place 17 = .ok (.iload_n 2, 1) := by decide +kernel
theorem dX5_place_18 : decode cX5_place 18 = .ok (.tableswitch 107 0 5 #[38, 47, 49, 56, 77, 101], 38) := by decide +kernel
theorem dX5_place_56 : decode cX5_place 56 = .ok (.aload_n 0, 1) := by decide +kernel
theorem dX5_place_57 : decode cX5_place 57 = .ok (.getfield 88, 3) := by decide +kernel
theorem dX5_place_60 : decode cX5_place 60 = .ok (.iload_n 1, 1) := by decide +kernel
theorem dX5_place_61 : decode cX5_place 61 = .ok (.ishr, 1) := by decide +kernel
theorem dX5_place_62 : decode cX5_place 62 = .ok (.iconst 1, 1) := by decide +kernel
theorem dX5_place_63 : decode cX5_place 63 = .ok (.iand, 1) := by decide +kernel
theorem dX5_place_64 : decode cX5_place 64 = .ok (.ireturn, 1) := by decide +kernel
theorem dX5_place_65 : decode cX5_place 65 = .ok (.iload_n 3, 1) := by decide +kernel
theorem dX5_place_66 : decode cX5_place 66 = .ok (.ireturn, 1) := by decide +kernel
theorem dX5_place_67 : decode cX5_place 67 = .ok (.aload_n 0, 1) := by decide +kernel
theorem dX5_place_68 : decode cX5_place 68 = .ok (.iload_n 3, 1) := by decide +kernel
theorem dX5_place_69 : decode cX5_place 69 = .ok (.iconst 0, 1) := by decide +kernel
theorem dX5_place_70 : decode cX5_place 70 = .ok (.invokevirtual 141, 3) := by decide +kernel
theorem dX5_place_73 : decode cX5_place 73 = .ok (.ireturn, 1) := by decide +kernel
theorem dX5_place_74 : decode cX5_place 74 = .ok (.iload_n 3, 1) := by decide +kernel
theorem dX5_place_75 : decode cX5_place 75 = .ok (.ifCond .eq 18, 3) := by decide +kernel
theorem dX5_place_78 : decode cX5_place 78 = .ok (.aload_n 0, 1) := by decide +kernel
theorem dX5_place_79 : decode cX5_place 79 = .ok (.iload_n 3, 1) := by decide +kernel
theorem dX5_place_80 : decode cX5_place 80 = .ok (.iconst 0, 1) := by decide +kernel
theorem dX5_place_81 : decode cX5_place 81 = .ok (.invokevirtual 141, 3) := by decide +kernel
theorem dX5_place_84 : decode cX5_place 84 = .ok (.bipush (-9), 2) := by decide +kernel
theorem dX5_place_86 : decode cX5_place 86 = .ok (.if_icmp .ne 7, 3) := by decide +kernel
theorem dX5_place_89 : decode cX5_place 89 = .ok (.iconst 1, 1) := by decide +kernel
theorem dX5_place_90 : decode cX5_place 90 = .ok (.goto 4, 3) := by decide +kernel
theorem dX5_place_93 : decode cX5_place 93 = .ok (.iconst 0, 1) := by decide +kernel
theorem dX5_place_94 : decode cX5_place 94 = .ok (.ireturn, 1) := by decide +kernel
theorem dX5_place_95 : decode cX5_place 95 = .ok (.aload_n 0, 1) := by decide +kernel
theorem dX5_place_96 : decode cX5_place 96 = .ok (.getfield 88, 3) := by decide +kernel
theorem dX5_place_99 : decode cX5_place 99 = .ok (.iload_n 1, 1) := by decide +kernel
theorem dX5_place_100 : decode cX5_place 100 = .ok (.invokestatic 121, 3) := by decide +kernel
theorem dX5_place_103 : decode cX5_place 103 = .ok (.ifCond .eq 7, 3) := by decide +kernel
theorem dX5_place_106 : decode cX5_place 106 = .ok (.iconst 2, 1) := by decide +kernel
theorem dX5_place_107 : decode cX5_place 107 = .ok (.goto 4, 3) := by decide +kernel
theorem dX5_place_110 : decode cX5_place 110 = .ok (.iconst 1, 1) := by decide +kernel
theorem dX5_place_111 : decode cX5_place 111 = .ok (.aload_n 0, 1) := by decide +kernel
theorem dX5_place_112 : decode cX5_place 112 = .ok (.iload_n 3, 1) := by decide +kernel
theorem dX5_place_113 : decode cX5_place 113 = .ok (.iconst 0, 1) := by decide +kernel
theorem dX5_place_114 : decode cX5_place 114 = .ok (.invokevirtual 125, 3) := by decide +kernel
theorem dX5_place_117 : decode cX5_place 117 = .ok (.imul, 1) := by decide +kernel
theorem dX5_place_118 : decode cX5_place 118 = .ok (.ireturn, 1) := by decide +kernel
theorem dX5_place_119 : decode cX5_place 119 = .ok (.aload_n 0, 1) := by decide +kernel
theorem dX5_place_120 : decode cX5_place 120 = .ok (.iload_n 1, 1) := by decide +kernel
theorem dX5_place_121 : decode cX5_place 121 = .ok (.invokevirtual 144, 3) := by decide +kernel
theorem dX5_place_124 : decode cX5_place 124 = .ok (.ireturn, 1) := by decide +kernel
theorem dX5_place_125 : decode cX5_place 125 = .ok (.iconst (-1), 1) := by decide +kernel
theorem dX5_place_126 : decode cX5_place 126 = .ok (.ireturn, 1) := by decide +kernel
set_option maxRecDepth 20000 in
theorem ggX5_notes_X5_bring : GoodIn wsX5_notes wsX5_bring := goodIn_r _ [7] (by decide +kernel) (by decide +kernel)
set_option maxRecDepth 20000 in
theorem gX5_notes_X5_bring : GoodIn wsX5_notes (va_wsS RX5 91 yX5_bring wsX5_bring) := goodIn_app (goodIn_of _ (by decide +kernel)) ggX5_notes_X5_bring
theorem dX5_notes_0 : decode cX5_notes 0 = .ok (.aload_n 0, 1) := by decide +kernel
theorem dX5_notes_1 : decode cX5_notes 1 = .ok (.getfield 95, 3) := by decide +kernel
theorem dX5_notes_4 : decode cX5_notes 4 = .ok (.bipush 10, 2) := by decide +kernel
theorem dX5_notes_6 : decode cX5_notes 6 = .ok (.if_icmp .ne 30, 3) := by decide +kernel
theorem dX5_notes_9 : decode cX5_notes 9 = .ok (.aload_n 0, 1) := by decide +kernel
theorem dX5_notes_10 : decode cX5_notes 10 = .ok (.getfield 23, 3) := by decide +kernel
theorem dX5_notes_13 : decode cX5_notes 13 = .ok (.bipush 50, 2) := by decide +kernel
theorem dX5_notes_15 : decode cX5_notes 15 = .ok (.aload_n 0, 1) := by decide +kernel
theorem dX5_notes_16 : decode cX5_notes 16 = .ok (.getfield 23, 3) := by decide +kernel
theorem dX5_notes_19 : decode cX5_notes 19 = .ok (.iconst 0, 1) := by decide +kernel
theorem dX5_notes_20 : decode cX5_notes 20 = .ok (.sipush 450, 3) := by decide +kernel
theorem dX5_notes_23 : decode cX5_notes 23 = .ok (.invokestatic 91, 3) := by decide +kernel
theorem dX5_notes_26 : decode cX5_notes 26 = .ok (.aload_n 0, 1) := by decide +kernel
theorem dX5_notes_27 : decode cX5_notes 27 = .ok (.dup, 1) := by decide +kernel
theorem dX5_notes_28 : decode cX5_notes 28 = .ok (.getfield 95, 3) := by decide +kernel
theorem dX5_notes_31 : decode cX5_notes 31 = .ok (.iconst 1, 1) := by decide +kernel
theorem dX5_notes_32 : decode cX5_notes 32 = .ok (.isub, 1) := by decide +kernel
theorem dX5_notes_33 : decode cX5_notes 33 = .ok (.putfield 95, 3) := by decide +kernel
theorem dX5_notes_36 : decode cX5_notes 36 = .ok (.aload_n 0, 1) := by decide +kernel
theorem dX5_notes_37 : decode cX5_notes 37 = .ok (.getfield 20, 3) := by decide +kernel
theorem dX5_notes_40 : decode cX5_notes 40 = .ok (.iconst 0, 1) := by decide +kernel
theorem dX5_notes_41 : decode cX5_notes 41 = .ok (.aload_n 0, 1) := by decide +kernel
theorem dX5_notes_42 : decode cX5_notes 42 = .ok (.getfield 23, 3) := by decide +kernel
theorem dX5_notes_45 : decode cX5_notes 45 = .ok (.bipush 50, 2) := by decide +kernel
theorem dX5_notes_47 : decode cX5_notes 47 = .ok (.aload_n 0, 1) := by decide +kernel
theorem dX5_notes_48 : decode cX5_notes 48 = .ok (.getfield 95, 3) := by decide +kernel
theorem dX5_notes_51 : decode cX5_notes 51 = .ok (.imul, 1) := by decide +kernel
theorem dX5_notes_52 : decode cX5_notes 52 = .ok (.bipush 50, 2) := by decide +kernel
theorem dX5_notes_54 : decode cX5_notes 54 = .ok (.invokestatic 91, 3) := by decide +kernel
theorem dX5_notes_57 : decode cX5_notes 57 = .ok (.aload_n 0, 1) := by decide +kernel
theorem dX5_notes_58 : decode cX5_notes 58 = .ok (.dup, 1) := by decide +kernel
theorem dX5_notes_59 : decode cX5_notes 59 = .ok (.getfield 95, 3) := by decide +kernel
theorem dX5_notes_62 : decode cX5_notes 62 = .ok (.iconst 1, 1) := by decide +kernel
theorem dX5_notes_63 : decode cX5_notes 63 = .ok (.iadd, 1) := by decide +kernel
theorem dX5_notes_64 : decode cX5_notes 64 = .ok (.putfield 95, 3) := by decide +kernel
theorem dX5_notes_67 : decode cX5_notes 67 = .ok (.return_, 1) := by decide +kernel
set_option maxRecDepth 20000 in
theorem ggX5_alive_X5_strengthOf : GoodIn wsX5_alive wsX5_strengthOf := goodIn_r _ [6, 1, 7, 8, 9, 10, 5, 11, 12, 13, 14, 15, 16, 17, 18, 19, 20, 21, 22, 23, 24, 25, 26, 27, 28, 29, 30, 31, 32, 33, 34, 35, 36, 37] (by decide +kernel) (by decide +kernel)
set_option maxRecDepth 20000 in
theorem gX5_alive_X5_strengthOf : GoodIn wsX5_alive (wsV RX5 115 RX5 yX5_strengthOf wsX5_strengthOf) := goodIn_app (goodIn_of _ (by decide +kernel)) ggX5_alive_X5_strengthOf
theorem dX5_alive_0 : decode cX5_alive 0 = .ok (.iconst 0, 1) := by decide +kernel
theorem dX5_alive_1 : decode cX5_alive 1 = .ok (.istore_n 1, 1) := by decide +kernel
theorem dX5_alive_2 : decode cX5_alive 2 = .ok (.iconst 0, 1) := by decide +kernel
theorem dX5_alive_3 : decode cX5_alive 3 = .ok (.istore_n 2, 1) := by decide +kernel
theorem dX5_alive_4 : decode cX5_alive 4 = .ok (.iload_n 2, 1) := by decide +kernel
theorem dX5_alive_5 : decode cX5_alive 5 = .ok (.aload_n 0, 1) := by decide +kernel
theorem dX5_alive_6 : decode cX5_alive 6 = .ok (.getfield 20, 3) := by decide +kernel
theorem dX5_alive_9 : decode cX5_alive 9 = .ok (.iconst 1, 1) := by decide +kernel
theorem dX5_alive_10 : decode cX5_alive 10 = .ok (.iaload, 1) := by decide +kernel
theorem dX5_alive_11 : decode cX5_alive 11 = .ok (.if_icmp .ge 28, 3) := by decide +kernel
theorem dX5_alive_14 : decode cX5_alive 14 = .ok (.iload_n 1, 1) := by decide +kernel
theorem dX5_alive_15 : decode cX5_alive 15 = .ok (.aload_n 0, 1) := by decide +kernel
theorem dX5_alive_16 : decode cX5_alive 16 = .ok (.iload_n 2, 1) := by decide +kernel
theorem dX5_alive_17 : decode cX5_alive 17 = .ok (.iconst 0, 1) := by decide +kernel
theorem dX5_alive_18 : decode cX5_alive 18 = .ok (.invokevirtual 115, 3) := by decide +kernel
theorem dX5_alive_21 : decode cX5_alive 21 = .ok (.ifCond .le 9, 3) := by decide +kernel
theorem dX5_alive_24 : decode cX5_alive 24 = .ok (.iconst 1, 1) := by decide +kernel
theorem dX5_alive_25 : decode cX5_alive 25 = .ok (.iload_n 2, 1) := by decide +kernel
theorem dX5_alive_26 : decode cX5_alive 26 = .ok (.ishl, 1) := by decide +kernel
theorem dX5_alive_27 : decode cX5_alive 27 = .ok (.goto 4, 3) := by decide +kernel
theorem dX5_alive_30 : decode cX5_alive 30 = .ok (.iconst 0, 1) := by decide +kernel
theorem dX5_alive_31 : decode cX5_alive 31 = .ok (.ior, 1) := by decide +kernel
theorem dX5_alive_32 : decode cX5_alive 32 = .ok (.istore_n 1, 1) := by decide +kernel
theorem dX5_alive_33 : decode cX5_alive 33 = .ok (.iinc 2 1, 3) := by decide +kernel
theorem dX5_alive_36 : decode cX5_alive 36 = .ok (.goto (-32), 3) := by decide +kernel
theorem dX5_alive_39 : decode cX5_alive 39 = .ok (.iload_n 1, 1) := by decide +kernel
theorem dX5_alive_40 : decode cX5_alive 40 = .ok (.ireturn, 1) := by decide +kernel
set_option maxRecDepth 20000 in
theorem ggX5_ticks_X5_in : GoodIn wsX5_ticks wsX5_in := goodIn_r _ [5] (by decide +kernel) (by decide +kernel)
set_option maxRecDepth 20000 in
theorem gX5_ticks_X5_in : GoodIn wsX5_ticks (va_wsS RX5 39 yX5_in wsX5_in) := goodIn_app (goodIn_of _ (by decide +kernel)) ggX5_ticks_X5_in
set_option maxRecDepth 20000 in
theorem ggX5_ticks_X5_notes : GoodIn wsX5_ticks wsX5_notes := goodIn_r _ [9, 10, 11, 1, 12, 13, 4, 14, 36, 37, 38, 39, 40, 41, 42, 43, 44, 45, 46, 47, 48, 49, 50, 51, 52, 53, 54, 55, 56] (by decide +kernel) (by decide +kernel)
set_option maxRecDepth 20000 in
theorem gX5_ticks_X5_notes : GoodIn wsX5_ticks (wsV RX5 147 RX5 yX5_notes wsX5_notes) := goodIn_app (goodIn_of _ (by decide +kernel)) ggX5_ticks_X5_notes
set_option maxRecDepth 20000 in
theorem ggX5_ticks_X5_alive : GoodIn wsX5_ticks wsX5_alive := goodIn_r _ [18, 1, 19, 20, 21, 4, 22, 23, 24, 25, 26, 27, 28, 29, 30, 31, 32, 36, 37, 38, 39, 40, 41, 42, 43, 44, 45, 46, 47, 48, 49, 50, 51, 52, 53, 54, 55, 56] (by decide +kernel) (by decide +kernel)
set_option maxRecDepth 20000 in
theorem gX5_ticks_X5_alive : GoodIn wsX5_ticks (wsV RX5 150 RX5 yX5_alive wsX5_alive) := goodIn_app (goodIn_of _ (by decide +kernel)) ggX5_ticks_X5_alive
set_option maxRecDepth 20000 in
theorem ggX5_ticks_X5_bits : GoodIn wsX5_ticks wsX5_bits := goodIn_r _ [35] (by decide +kernel) (by decide +kernel)
set_option maxRecDepth 20000 in
theorem gX5_ticks_X5_bits : GoodIn wsX5_ticks (va_wsS RX5 153 yX5_bits wsX5_bits) := goodIn_app (goodIn_of _ (by decide +kernel)) ggX5_ticks_X5_bits
theorem dX5_ticks_0 : decode cX5_ticks 0 = .ok (.iload_n 1, 1) := by decide +kernel
theorem dX5_ticks_1 : decode cX5_ticks 1 = .ok (.iconst 1, 1) := by decide +kernel
theorem dX5_ticks_2 : decode cX5_ticks 2 = .ok (.bipush 99, 2) := by decide +kernel
theorem dX5_ticks_4 : decode cX5_ticks 4 = .ok (.invokestatic 39, 3) := by decide +kernel
theorem dX5_ticks_7 : decode cX5_ticks 7 = .ok (.ifCond .ne 5, 3) := by decide +kernel
theorem dX5_ticks_10 : decode cX5_ticks 10 = .ok (.iconst (-1), 1) := by decide +kernel
theorem dX5_ticks_11 : decode cX5_ticks 11 = .ok (.ireturn, 1) := by decide +kernel
theorem dX5_ticks_12 : decode cX5_ticks 12 = .ok (.aload_n 0, 1) := by decide +kernel
theorem dX5_ticks_13 : decode cX5_ticks 13 = .ok (.getfield 20, 3) := by decide +kernel
theorem dX5_ticks_16 : decode cX5_ticks 16 = .ok (.iconst 0, 1) := by decide +kernel
theorem dX5_ticks_17 : decode cX5_ticks 17 = .ok (.iaload, 1) := by decide +kernel
theorem dX5_ticks_18 : decode cX5_ticks 18 = .ok (.iload_n 1, 1) := by decide +kernel
theorem dX5_ticks_19 : decode cX5_ticks 19 = .ok (.iadd, 1) := by decide +kernel
theorem dX5_ticks_20 : decode cX5_ticks 20 = .ok (.sipush 9999, 3) := by decide +kernel
theorem dX5_ticks_23 : decode cX5_ticks 23 = .ok (.if_icmp .le 6, 3) := by decide +kernel
theorem dX5_ticks_26 : decode cX5_ticks 26 = .ok (.bipush (-2), 2) := by decide +kernel
theorem dX5_ticks_28 : decode cX5_ticks 28 = .ok (.ireturn, 1) := by decide +kernel
theorem dX5_ticks_29 : decode cX5_ticks 29 = .ok (.aload_n 0, 1) := by decide +kernel
theorem dX5_ticks_30 : decode cX5_ticks 30 = .ok (.invokevirtual 147, 3) := by decide +kernel
theorem dX5_ticks_33 : decode cX5_ticks 33 = .ok (.aload_n 0, 1) := by decide +kernel
theorem dX5_ticks_34 : decode cX5_ticks 34 = .ok (.getfield 20, 3) := by decide +kernel
theorem dX5_ticks_37 : decode cX5_ticks 37 = .ok (.iconst 0, 1) := by decide +kernel
theorem dX5_ticks_38 : decode cX5_ticks 38 = .ok (.dup2, 1) := by decide +kernel
theorem dX5_ticks_39 : decode cX5_ticks 39 = .ok (.iaload, 1) := by decide +kernel
theorem dX5_ticks_40 : decode cX5_ticks 40 = .ok (.iload_n 1, 1) := by decide +kernel
theorem dX5_ticks_41 : decode cX5_ticks 41 = .ok (.iadd, 1) := by decide +kernel
theorem dX5_ticks_42 : decode cX5_ticks 42 = .ok (.iastore, 1) := by decide +kernel
theorem dX5_ticks_43 : decode cX5_ticks 43 = .ok (.aload_n 0, 1) := by decide +kernel
theorem dX5_ticks_44 : decode cX5_ticks 44 = .ok (.invokevirtual 150, 3) := by decide +kernel
theorem dX5_ticks_47 : decode cX5_ticks 47 = .ok (.invokestatic 153, 3) := by decide +kernel
theorem dX5_ticks_50 : decode cX5_ticks 50 = .ok (.ireturn, 1) := by decide +kernel
set_option maxRecDepth 20000 in
theorem ggX5_says_X5_isPlace : GoodIn wsX5_says wsX5_isPlace := goodIn_r _ [6, 7, 8, 9, 5, 10, 20, 21, 22, 23, 24, 25, 26, 27, 28, 29, 30, 31, 32, 33, 34, 35, 36, 37, 38, 39, 40] (by decide +kernel) (by decide +kernel)
set_option maxRecDepth 20000 in
theorem gX5_says_X5_isPlace : GoodIn wsX5_says (wsV RX5 138 RX5 yX5_isPlace wsX5_isPlace) := goodIn_app (goodIn_of _ (by decide +kernel)) ggX5_says_X5_isPlace
set_option maxRecDepth 20000 in
theorem ggX5_says_X5_in : GoodIn wsX5_says wsX5_in := goodIn_r _ [10] (by decide +kernel) (by decide +kernel)
set_option maxRecDepth 20000 in
theorem gX5_says_X5_in : GoodIn wsX5_says (va_wsS RX5 39 yX5_in wsX5_in) := goodIn_app (goodIn_of _ (by decide +kernel)) ggX5_says_X5_in
set_option maxRecDepth 20000 in
theorem ggX5_says_X5_notes : GoodIn wsX5_says wsX5_notes := goodIn_r _ [14, 15, 16, 1, 17, 18, 5, 19, 20, 21, 22, 23, 24, 25, 26, 27, 28, 29, 30, 31, 32, 33, 34, 35, 36, 37, 38, 39, 40] (by decide +kernel) (by decide +kernel)
set_option maxRecDepth 20000 in
theorem gX5_says_X5_notes : GoodIn wsX5_says (wsV RX5 147 RX5 yX5_notes wsX5_notes) := goodIn_app (goodIn_of _ (by decide +kernel)) ggX5_says_X5_notes
theorem dX5_says_0 : decode cX5_says 0 = .ok (.aload_n 0, 1) := by decide +kernel
theorem dX5_says_1 : decode cX5_says 1 = .ok (.iload_n 1, 1) := by decide +kernel
theorem dX5_says_2 : decode cX5_says 2 = .ok (.invokevirtual 138, 3) := by decide +kernel
theorem dX5_says_5 : decode cX5_says 5 = .ok (.ifCond .eq 33, 3) := by decide +kernel
theorem dX5_says_8 : decode cX5_says 8 = .ok (.iload_n 2, 1) := by decide +kernel
theorem dX5_says_9 : decode cX5_says 9 = .ok (.iconst 1, 1) := by decide +kernel
theorem dX5_says_10 : decode cX5_says 10 = .ok (.bipush 6, 2) := by decide +kernel
theorem dX5_says_12 : decode cX5_says 12 = .ok (.invokestatic 39, 3) := by decide +kernel
theorem dX5_says_15 : decode cX5_says 15 = .ok (.ifCond .eq 23, 3) := by decide +kernel
theorem dX5_says_18 : decode cX5_says 18 = .ok (.iload_n 3, 1) := by decide +kernel
theorem dX5_says_19 : decode cX5_says 19 = .ok (.iconst 0, 1) := by decide +kernel
theorem dX5_says_20 : decode cX5_says 20 = .ok (.iconst 1, 1) := by decide +kernel
theorem dX5_says_21 : decode cX5_says 21 = .ok (.invokestatic 39, 3) := by decide +kernel
theorem dX5_says_24 : decode cX5_says 24 = .ok (.ifCond .eq 14, 3) := by decide +kernel
theorem dX5_says_27 : decode cX5_says 27 = .ok (.iload 4, 2) := by decide +kernel
theorem dX5_says_29 : decode cX5_says 29 = .ok (.iconst 1, 1) := by decide +kernel
theorem dX5_says_30 : decode cX5_says 30 = .ok (.bipush 30, 2) := by decide +kernel
theorem dX5_says_32 : decode cX5_says 32 = .ok (.invokestatic 39, 3) := by decide +kernel
theorem dX5_says_35 : decode cX5_says 35 = .ok (.ifCond .ne 5, 3) := by decide +kernel
theorem dX5_says_38 : decode cX5_says 38 = .ok (.iconst (-1), 1) := by decide +kernel
theorem dX5_says_39 : decode cX5_says 39 = .ok (.ireturn, 1) := by decide +kernel
theorem dX5_says_40 : decode cX5_says 40 = .ok (.aload_n 0, 1) := by decide +kernel
theorem dX5_says_41 : decode cX5_says 41 = .ok (.getfield 20, 3) := by decide +kernel
theorem dX5_says_44 : decode cX5_says 44 = .ok (.iconst 1, 1) := by decide +kernel
theorem dX5_says_45 : decode cX5_says 45 = .ok (.iaload, 1) := by decide +kernel
theorem dX5_says_46 : decode cX5_says 46 = .ok (.istore 5, 2) := by decide +kernel
theorem dX5_says_48 : decode cX5_says 48 = .ok (.iload 5, 2) := by decide +kernel
theorem dX5_says_50 : decode cX5_says 50 = .ok (.bipush 8, 2) := by decide +kernel
theorem dX5_says_52 : decode cX5_says 52 = .ok (.if_icmp .ne 6, 3) := by decide +kernel
theorem dX5_says_55 : decode cX5_says 55 = .ok (.bipush (-3), 2) := by decide +kernel
theorem dX5_says_57 : decode cX5_says 57 = .ok (.ireturn, 1) := by decide +kernel
theorem dX5_says_58 : decode cX5_says 58 = .ok (.aload_n 0, 1) := by decide +kernel
theorem dX5_says_59 : decode cX5_says 59 = .ok (.invokevirtual 147, 3) := by decide +kernel
theorem dX5_says_62 : decode cX5_says 62 = .ok (.aload_n 0, 1) := by decide +kernel
theorem dX5_says_63 : decode cX5_says 63 = .ok (.getfield 20, 3) := by decide +kernel
theorem dX5_says_66 : decode cX5_says 66 = .ok (.iconst 2, 1) := by decide +kernel
theorem dX5_says_67 : decode cX5_says 67 = .ok (.iload 5, 2) := by decide +kernel
theorem dX5_says_69 : decode cX5_says 69 = .ok (.iadd, 1) := by decide +kernel
theorem dX5_says_70 : decode cX5_says 70 = .ok (.iload_n 1, 1) := by decide +kernel
theorem dX5_says_71 : decode cX5_says 71 = .ok (.iastore, 1) := by decide +kernel
theorem dX5_says_72 : decode cX5_says 72 = .ok (.aload_n 0, 1) := by decide +kernel
theorem dX5_says_73 : decode cX5_says 73 = .ok (.getfield 20, 3) := by decide +kernel
theorem dX5_says_76 : decode cX5_says 76 = .ok (.bipush 10, 2) := by decide +kernel
theorem dX5_says_78 : decode cX5_says 78 = .ok (.iload 5, 2) := by decide +kernel
theorem dX5_says_80 : decode cX5_says 80 = .ok (.iadd, 1) := by decide +kernel
theorem dX5_says_81 : decode cX5_says 81 = .ok (.iload_n 2, 1) := by decide +kernel
theorem dX5_says_82 : decode cX5_says 82 = .ok (.iastore, 1) := by decide +kernel
theorem dX5_says_83 : decode cX5_says 83 = .ok (.aload_n 0, 1) := by decide +kernel
theorem dX5_says_84 : decode cX5_says 84 = .ok (.getfield 20, 3) := by decide +kernel
theorem dX5_says_87 : decode cX5_says 87 = .ok (.bipush 18, 2) := by decide +kernel
theorem dX5_says_89 : decode cX5_says 89 = .ok (.iload 5, 2) := by decide +kernel
theorem dX5_says_91 : decode cX5_says 91 = .ok (.iadd, 1) := by decide +kernel
theorem dX5_says_92 : decode cX5_says 92 = .ok (.iload_n 3, 1) := by decide +kernel
theorem dX5_says_93 : decode cX5_says 93 = .ok (.iastore, 1) := by decide +kernel
theorem dX5_says_94 : decode cX5_says 94 = .ok (.aload_n 0, 1) := by decide +kernel
theorem dX5_says_95 : decode cX5_says 95 = .ok (.getfield 20, 3) := by decide +kernel
theorem dX5_says_98 : decode cX5_says 98 = .ok (.bipush 26, 2) := by decide +kernel
theorem dX5_says_100 : decode cX5_says 100 = .ok (.iload 5, 2) := by decide +kernel
theorem dX5_says_102 : decode cX5_says 102 = .ok (.iadd, 1) := by decide +kernel
theorem dX5_says_103 : decode cX5_says 103 = .ok (.iload 4, 2) := by decide +kernel
theorem dX5_says_105 : decode cX5_says 105 = .ok (.iastore, 1) := by decide +kernel
theorem dX5_says_106 : decode cX5_says 106 = .ok (.aload_n 0, 1) := by decide +kernel
theorem dX5_says_107 : decode cX5_says 107 = .ok (.getfield 20, 3) := by decide +kernel
theorem dX5_says_110 : decode cX5_says 110 = .ok (.bipush 34, 2) := by decide +kernel
theorem dX5_says_112 : decode cX5_says 112 = .ok (.iload 5, 2) := by decide +kernel
theorem dX5_says_114 : decode cX5_says 114 = .ok (.iadd, 1) := by decide +kernel
theorem dX5_says_115 : decode cX5_says 115 = .ok (.aload_n 0, 1) := by decide +kernel
theorem dX5_says_116 : decode cX5_says 116 = .ok (.getfield 20, 3) := by decide +kernel
theorem dX5_says_119 : decode cX5_says 119 = .ok (.iconst 0, 1) := by decide +kernel
theorem dX5_says_120 : decode cX5_says 120 = .ok (.iaload, 1) := by decide +kernel
theorem dX5_says_121 : decode cX5_says 121 = .ok (.iastore, 1) := by decide +kernel
theorem dX5_says_122 : decode cX5_says 122 = .ok (.aload_n 0, 1) := by decide +kernel
theorem dX5_says_123 : decode cX5_says 123 = .ok (.getfield 20, 3) := by decide +kernel
theorem dX5_says_126 : decode cX5_says 126 = .ok (.bipush 42, 2) := by decide +kernel
theorem dX5_says_128 : decode cX5_says 128 = .ok (.iload 5, 2) := by decide +kernel
theorem dX5_says_130 : decode cX5_says 130 = .ok (.iadd, 1) := by decide +kernel
theorem dX5_says_131 : decode cX5_says 131 = .ok (.iconst 0, 1) := by decide +kernel
theorem dX5_says_132 : decode cX5_says 132 = .ok (.iastore, 1) := by decide +kernel
theorem dX5_says_133 : decode cX5_says 133 = .ok (.aload_n 0, 1) := by decide +kernel
theorem dX5_says_134 : decode cX5_says 134 = .ok (.getfield 20, 3) := by decide +kernel
theorem dX5_says_137 : decode cX5_says 137 = .ok (.iconst 1, 1) := by decide +kernel
theorem dX5_says_138 : decode cX5_says 138 = .ok (.dup2, 1) := by decide +kernel
theorem dX5_says_139 : decode cX5_says 139 = .ok (.iaload, 1) := by decide +kernel
theorem dX5_says_140 : decode cX5_says 140 = .ok (.iconst 1, 1) := by decide +kernel
theorem dX5_says_141 : decode cX5_says 141 = .ok (.iadd, 1) := by decide +kernel
theorem dX5_says_142 : decode cX5_says 142 = .ok (.iastore, 1) := by decide +kernel
theorem dX5_says_143 : decode cX5_says 143 = .ok (.iload 5, 2) := by decide +kernel
theorem dX5_says_145 : decode cX5_says 145 = .ok (.ireturn, 1) := by decide +kernel
set_option maxRecDepth 20000 in
theorem ggX5_hushes_X5_isSaying : GoodIn wsX5_hushes wsX5_isSaying := goodIn_r _ [6, 1, 7, 8, 5, 9, 33, 34, 35, 36, 37, 38, 39, 40, 41, 42, 43, 44, 45, 46, 47, 48, 49, 50, 51, 52, 53] (by decide +kernel) (by decide +kernel)
set_option maxRecDepth 20000 in
theorem gX5_hushes_X5_isSaying : GoodIn wsX5_hushes (wsV RX5 131 RX5 yX5_isSaying wsX5_isSaying) := goodIn_app (goodIn_of _ (by decide +kernel)) ggX5_hushes_X5_isSaying
set_option maxRecDepth 20000 in
theorem ggX5_hushes_X5_strengthOf : GoodIn wsX5_hushes wsX5_strengthOf := goodIn_r _ [13, 1, 14, 15, 16, 17, 5, 18, 19, 20, 21, 22, 23, 33, 34, 35, 36, 37, 38, 39, 40, 41, 42, 43, 44, 45, 46, 47, 48, 49, 50, 51, 52, 53] (by decide +kernel) (by decide +kernel)
set_option maxRecDepth 20000 in
theorem gX5_hushes_X5_strengthOf : GoodIn wsX5_hushes (wsV RX5 115 RX5 yX5_strengthOf wsX5_strengthOf) := goodIn_app (goodIn_of _ (by decide +kernel)) ggX5_hushes_X5_strengthOf
set_option maxRecDepth 20000 in
theorem ggX5_hushes_X5_notes : GoodIn wsX5_hushes wsX5_notes := goodIn_r _ [27, 28, 29, 1, 30, 31, 5, 32, 33, 34, 35, 36, 37, 38, 39, 40, 41, 42, 43, 44, 45, 46, 47, 48, 49, 50, 51, 52, 53] (by decide +kernel) (by decide +kernel)
set_option maxRecDepth 20000 in
theorem gX5_hushes_X5_notes : GoodIn wsX5_hushes (wsV RX5 147 RX5 yX5_notes wsX5_notes) := goodIn_app (goodIn_of _ (by decide +kernel)) ggX5_hushes_X5_notes
theorem dX5_hushes_0 : decode cX5_hushes 0 = .ok (.aload_n 0, 1) := by decide +kernel
theorem dX5_hushes_1 : decode cX5_hushes 1 = .ok (.iload_n 1, 1) := by decide +kernel
theorem dX5_hushes_2 : decode cX5_hushes 2 = .ok (.invokevirtual 131, 3) := by decide +kernel
theorem dX5_hushes_5 : decode cX5_hushes 5 = .ok (.ifCond .ne 5, 3) := by decide +kernel
theorem dX5_hushes_8 : decode cX5_hushes 8 = .ok (.iconst (-1), 1) := by decide +kernel
theorem dX5_hushes_9 : decode cX5_hushes 9 = .ok (.ireturn, 1) := by decide +kernel
theorem dX5_hushes_10 : decode cX5_hushes 10 = .ok (.aload_n 0, 1) := by decide +kernel
theorem dX5_hushes_11 : decode cX5_hushes 11 = .ok (.iload_n 1, 1) := by decide +kernel
theorem dX5_hushes_12 : decode cX5_hushes 12 = .ok (.iconst 0, 1) := by decide +kernel
theorem dX5_hushes_13 : decode cX5_hushes 13 = .ok (.invokevirtual 115, 3) := by decide +kernel
theorem dX5_hushes_16 : decode cX5_hushes 16 = .ok (.istore_n 2, 1) := by decide +kernel
theorem dX5_hushes_17 : decode cX5_hushes 17 = .ok (.iload_n 2, 1) := by decide +kernel
theorem dX5_hushes_18 : decode cX5_hushes 18 = .ok (.ifCond .ne 6, 3) := by decide +kernel
theorem dX5_hushes_21 : decode cX5_hushes 21 = .ok (.bipush (-2), 2) := by decide +kernel
theorem dX5_hushes_23 : decode cX5_hushes 23 = .ok (.ireturn, 1) := by decide +kernel
theorem dX5_hushes_24 : decode cX5_hushes 24 = .ok (.aload_n 0, 1) := by decide +kernel
theorem dX5_hushes_25 : decode cX5_hushes 25 = .ok (.invokevirtual 147, 3) := by decide +kernel
theorem dX5_hushes_28 : decode cX5_hushes 28 = .ok (.aload_n 0, 1) := by decide +kernel
theorem dX5_hushes_29 : decode cX5_hushes 29 = .ok (.getfield 20, 3) := by decide +kernel
theorem dX5_hushes_32 : decode cX5_hushes 32 = .ok (.bipush 42, 2) := by decide +kernel
theorem dX5_hushes_34 : decode cX5_hushes 34 = .ok (.iload_n 1, 1) := by decide +kernel
theorem dX5_hushes_35 : decode cX5_hushes 35 = .ok (.iadd, 1) := by decide +kernel
theorem dX5_hushes_36 : decode cX5_hushes 36 = .ok (.iconst 1, 1) := by decide +kernel
theorem dX5_hushes_37 : decode cX5_hushes 37 = .ok (.iastore, 1) := by decide +kernel
theorem dX5_hushes_38 : decode cX5_hushes 38 = .ok (.iload_n 2, 1) := by decide +kernel
theorem dX5_hushes_39 : decode cX5_hushes 39 = .ok (.ireturn, 1) := by decide +kernel
set_option maxRecDepth 20000 in
theorem ggX5_undo_X5_bring : GoodIn wsX5_undo wsX5_bring := goodIn_r _ [7] (by decide +kernel) (by decide +kernel)
set_option maxRecDepth 20000 in
theorem gX5_undo_X5_bring : GoodIn wsX5_undo (va_wsS RX5 91 yX5_bring wsX5_bring) := goodIn_app (goodIn_of _ (by decide +kernel)) ggX5_undo_X5_bring
theorem dX5_undo_0 : decode cX5_undo 0 = .ok (.aload_n 0, 1) := by decide +kernel
theorem dX5_undo_1 : decode cX5_undo 1 = .ok (.getfield 95, 3) := by decide +kernel
theorem dX5_undo_4 : decode cX5_undo 4 = .ok (.ifCond .ne 6, 3) := by decide +kernel
theorem dX5_undo_7 : decode cX5_undo 7 = .ok (.bipush (-2), 2) := by decide +kernel
theorem dX5_undo_9 : decode cX5_undo 9 = .ok (.ireturn, 1) := by decide +kernel
theorem dX5_undo_10 : decode cX5_undo 10 = .ok (.aload_n 0, 1) := by decide +kernel
theorem dX5_undo_11 : decode cX5_undo 11 = .ok (.dup, 1) := by decide +kernel
theorem dX5_undo_12 : decode cX5_undo 12 = .ok (.getfield 95, 3) := by decide +kernel
theorem dX5_undo_15 : decode cX5_undo 15 = .ok (.iconst 1, 1) := by decide +kernel
theorem dX5_undo_16 : decode cX5_undo 16 = .ok (.isub, 1) := by decide +kernel
theorem dX5_undo_17 : decode cX5_undo 17 = .ok (.putfield 95, 3) := by decide +kernel
theorem dX5_undo_20 : decode cX5_undo 20 = .ok (.aload_n 0, 1) := by decide +kernel
theorem dX5_undo_21 : decode cX5_undo 21 = .ok (.getfield 23, 3) := by decide +kernel
theorem dX5_undo_24 : decode cX5_undo 24 = .ok (.bipush 50, 2) := by decide +kernel
theorem dX5_undo_26 : decode cX5_undo 26 = .ok (.aload_n 0, 1) := by decide +kernel
theorem dX5_undo_27 : decode cX5_undo 27 = .ok (.getfield 95, 3) := by decide +kernel
theorem dX5_undo_30 : decode cX5_undo 30 = .ok (.imul, 1) := by decide +kernel
theorem dX5_undo_31 : decode cX5_undo 31 = .ok (.aload_n 0, 1) := by decide +kernel
theorem dX5_undo_32 : decode cX5_undo 32 = .ok (.getfield 20, 3) := by decide +kernel
theorem dX5_undo_35 : decode cX5_undo 35 = .ok (.iconst 0, 1) := by decide +kernel
theorem dX5_undo_36 : decode cX5_undo 36 = .ok (.bipush 50, 2) := by decide +kernel
theorem dX5_undo_38 : decode cX5_undo 38 = .ok (.invokestatic 91, 3) := by decide +kernel
theorem dX5_undo_41 : decode cX5_undo 41 = .ok (.aload_n 0, 1) := by decide +kernel
theorem dX5_undo_42 : decode cX5_undo 42 = .ok (.getfield 95, 3) := by decide +kernel
theorem dX5_undo_45 : decode cX5_undo 45 = .ok (.ireturn, 1) := by decide +kernel
set_option maxRecDepth 20000 in
theorem ggX5_placesThat_X5_soundsOf : GoodIn wsX5_placesThat wsX5_soundsOf := goodIn_r _ [6, 7, 8, 9, 10, 5, 11, 12, 13, 14, 15, 16, 1, 17, 18, 19, 20, 21, 22, 23, 24, 25, 26, 27, 28, 29, 30, 31, 32, 44, 45, 46, 47, 48, 49, 50, 51, 52, 53, 54, 55, 56, 57, 58, 59, 60, 61, 62, 63, 64] (by decide +kernel) (by decide +kernel)
set_option maxRecDepth 20000 in
theorem gX5_placesThat_X5_soundsOf : GoodIn wsX5_placesThat (wsV RX5 128 RX5 yX5_soundsOf wsX5_soundsOf) := goodIn_app (goodIn_of _ (by decide +kernel)) ggX5_placesThat_X5_soundsOf
set_option maxRecDepth 20000 in
theorem ggX5_placesThat_X5_clearOf : GoodIn wsX5_placesThat wsX5_clearOf := goodIn_r _ [36, 7, 37, 38, 39, 5, 40, 41, 42, 43, 8, 9, 10, 11, 12, 13, 14, 15, 16, 1, 17, 18, 19, 20, 44, 45, 46, 47, 48, 49, 50, 51, 52, 53, 54, 55, 56, 57, 58, 59, 60, 61, 62, 63, 64] (by decide +kernel) (by decide +kernel)
set_option maxRecDepth 20000 in
theorem gX5_placesThat_X5_clearOf : GoodIn wsX5_placesThat (wsV RX5 141 RX5 yX5_clearOf wsX5_clearOf) := goodIn_app (goodIn_of _ (by decide +kernel)) ggX5_placesThat_X5_clearOf
theorem dX5_placesThat_0 : decode cX5_placesThat 0 = .ok (.iconst 0, 1) := by decide +kernel
theorem dX5_placesThat_1 : decode cX5_placesThat 1 = .ok (.istore_n 2, 1) := by decide +kernel
theorem dX5_placesThat_2 : decode cX5_placesThat 2 = .ok (.iconst 0, 1) := by decide +kernel
theorem dX5_placesThat_3 : decode cX5_placesThat 3 = .ok (.istore_n 3, 1) := by decide +kernel
theorem dX5_placesThat_4 : decode cX5_placesThat 4 = .ok (.iload_n 3, 1) := by decide +kernel
theorem dX5_placesThat_5 : decode cX5_placesThat 5 = .ok (.aload_n 0, 1) := by decide +kernel
theorem dX5_placesThat_6 : decode cX5_placesThat 6 = .ok (.getfield 13, 3) := by decide +kernel
theorem dX5_placesThat_9 : decode cX5_placesThat 9 = .ok (.if_icmp .ge 46, 3) := by decide +kernel
theorem dX5_placesThat_12 : decode cX5_placesThat 12 = .ok (.aload_n 0, 1) := by decide +kernel
theorem dX5_placesThat_13 : decode cX5_placesThat 13 = .ok (.iload_n 3, 1) := by decide +kernel
theorem dX5_placesThat_14 : decode cX5_placesThat 14 = .ok (.iconst 0, 1) := by decide +kernel
theorem dX5_placesThat_15 : decode cX5_placesThat 15 = .ok (.invokevirtual 128, 3) := by decide +kernel
theorem dX5_placesThat_18 : decode cX5_placesThat 18 = .ok (.istore 4, 2) := by decide +kernel
theorem dX5_placesThat_20 : decode cX5_placesThat 20 = .ok (.iload_n 2, 1) := by decide +kernel
theorem dX5_placesThat_21 : decode cX5_placesThat 21 = .ok (.iload 4, 2) := by decide +kernel
theorem dX5_placesThat_23 : decode cX5_placesThat 23 = .ok (.ifCond .eq 23, 3) := by decide +kernel
theorem dX5_placesThat_26 : decode cX5_placesThat 26 = .ok (.iload_n 1, 1) := by decide +kernel
theorem dX5_placesThat_27 : decode cX5_placesThat 27 = .ok (.ifCond .eq 15, 3) := by decide +kernel
theorem dX5_placesThat_30 : decode cX5_placesThat 30 = .ok (.aload_n 0, 1) := by decide +kernel
theorem dX5_placesThat_31 : decode cX5_placesThat 31 = .ok (.iload 4, 2) := by decide +kernel
theorem dX5_placesThat_33 : decode cX5_placesThat 33 = .ok (.iconst 0, 1) := by decide +kernel
theorem dX5_placesThat_34 : decode cX5_placesThat 34 = .ok (.invokevirtual 141, 3) := by decide +kernel
theorem dX5_placesThat_37 : decode cX5_placesThat 37 = .ok (.bipush (-9), 2) := by decide +kernel
theorem dX5_placesThat_39 : decode cX5_placesThat 39 = .ok (.if_icmp .ne 7, 3) := by decide +kernel
theorem dX5_placesThat_42 : decode cX5_placesThat 42 = .ok (.iconst 1, 1) := by decide +kernel
theorem dX5_placesThat_43 : decode cX5_placesThat 43 = .ok (.goto 4, 3) := by decide +kernel
theorem dX5_placesThat_46 : decode cX5_placesThat 46 = .ok (.iconst 0, 1) := by decide +kernel
theorem dX5_placesThat_47 : decode cX5_placesThat 47 = .ok (.iadd, 1) := by decide +kernel
theorem dX5_placesThat_48 : decode cX5_placesThat 48 = .ok (.istore_n 2, 1) := by decide +kernel
theorem dX5_placesThat_49 : decode cX5_placesThat 49 = .ok (.iinc 3 1, 3) := by decide +kernel
theorem dX5_placesThat_52 : decode cX5_placesThat 52 = .ok (.goto (-48), 3) := by decide +kernel
theorem dX5_placesThat_55 : decode cX5_placesThat 55 = .ok (.iload_n 2, 1) := by decide +kernel
theorem dX5_placesThat_56 : decode cX5_placesThat 56 = .ok (.ireturn, 1) := by decide +kernel
set_option maxRecDepth 20000 in
theorem ggX5_now_X5_alive : GoodIn wsX5_now wsX5_alive := goodIn_r _ [6, 1, 7, 8, 9, 5, 10, 11, 12, 13, 14, 15, 16, 17, 18, 19, 20, 52, 53, 54, 55, 56, 57, 58, 59, 60, 61, 62, 63, 64, 65, 66, 67, 68, 69, 70, 71, 72] (by decide +kernel) (by decide +kernel)
set_option maxRecDepth 20000 in
theorem gX5_now_X5_alive : GoodIn wsX5_now (wsV RX5 150 RX5 yX5_alive wsX5_alive) := goodIn_app (goodIn_of _ (by decide +kernel)) ggX5_now_X5_alive
set_option maxRecDepth 20000 in
theorem ggX5_now_X5_loudOf : GoodIn wsX5_now wsX5_loudOf := goodIn_r _ [24, 1, 25, 26, 5, 27, 7, 8, 9, 10, 11, 12, 13, 14, 15, 16, 17, 18, 19, 20, 52, 53, 54, 55, 56, 57, 58, 59, 60, 61, 62, 63, 64, 65, 66, 67, 68, 69, 70, 71, 72] (by decide +kernel) (by decide +kernel)
set_option maxRecDepth 20000 in
theorem gX5_now_X5_loudOf : GoodIn wsX5_now (wsV RX5 125 RX5 yX5_loudOf wsX5_loudOf) := goodIn_app (goodIn_of _ (by decide +kernel)) ggX5_now_X5_loudOf
set_option maxRecDepth 20000 in
theorem ggX5_now_X5_placesThat : GoodIn wsX5_now wsX5_placesThat := goodIn_r _ [31, 16, 32, 33, 34, 5, 35, 1, 7, 8, 9, 10, 11, 12, 13, 14, 15, 17, 18, 19, 20, 36, 37, 38, 39, 40, 41, 42, 43, 44, 45, 46, 47, 48, 49, 50, 51, 21, 22, 23, 24, 25, 26, 27, 52, 53, 54, 55, 56, 57, 58, 59, 60, 61, 62, 63, 64, 65, 66, 67, 68, 69, 70, 71, 72] (by decide +kernel) (by decide +kernel)
set_option maxRecDepth 20000 in
theorem gX5_now_X5_placesThat : GoodIn wsX5_now (wsV RX5 156 RX5 yX5_placesThat wsX5_placesThat) := goodIn_app (goodIn_of _ (by decide +kernel)) ggX5_now_X5_placesThat
theorem dX5_now_0 : decode cX5_now 0 = .ok (.iload_n 1, 1) := by decide +kernel
theorem dX5_now_1 : decode cX5_now 1 = .ok (.tableswitch 69 0 4 #[35, 42, 47, 57, 63], 35) := by decide +kernel
theorem dX5_now_36 : decode cX5_now 36 = .ok (.aload_n 0, 1) := by decide +kernel
theorem dX5_now_37 : decode cX5_now 37 = .ok (.getfield 20, 3) := by decide +kernel
theorem dX5_now_40 : decode cX5_now 40 = .ok (.iconst 0, 1) := by decide +kernel
theorem dX5_now_41 : decode cX5_now 41 = .ok (.iaload, 1) := by decide +kernel
theorem dX5_now_42 : decode cX5_now 42 = .ok (.ireturn, 1) := by decide +kernel
theorem dX5_now_43 : decode cX5_now 43 = .ok (.aload_n 0, 1) := by decide +kernel
theorem dX5_now_44 : decode cX5_now 44 = .ok (.invokevirtual 150, 3) := by decide +kernel
theorem dX5_now_47 : decode cX5_now 47 = .ok (.ireturn, 1) := by decide +kernel
theorem dX5_now_48 : decode cX5_now 48 = .ok (.aload_n 0, 1) := by decide +kernel
theorem dX5_now_49 : decode cX5_now 49 = .ok (.aload_n 0, 1) := by decide +kernel
theorem dX5_now_50 : decode cX5_now 50 = .ok (.invokevirtual 150, 3) := by decide +kernel
theorem dX5_now_53 : decode cX5_now 53 = .ok (.iconst 0, 1) := by decide +kernel
theorem dX5_now_54 : decode cX5_now 54 = .ok (.invokevirtual 125, 3) := by decide +kernel
theorem dX5_now_57 : decode cX5_now 57 = .ok (.ireturn, 1) := by decide +kernel
theorem dX5_now_58 : decode cX5_now 58 = .ok (.aload_n 0, 1) := by decide +kernel
theorem dX5_now_59 : decode cX5_now 59 = .ok (.iconst 0, 1) := by decide +kernel
theorem dX5_now_60 : decode cX5_now 60 = .ok (.invokevirtual 156, 3) := by decide +kernel
theorem dX5_now_63 : decode cX5_now 63 = .ok (.ireturn, 1) := by decide +kernel
theorem dX5_now_64 : decode cX5_now 64 = .ok (.aload_n 0, 1) := by decide +kernel
theorem dX5_now_65 : decode cX5_now 65 = .ok (.iconst 1, 1) := by decide +kernel
theorem dX5_now_66 : decode cX5_now 66 = .ok (.invokevirtual 156, 3) := by decide +kernel
theorem dX5_now_69 : decode cX5_now 69 = .ok (.ireturn, 1) := by decide +kernel
theorem dX5_now_70 : decode cX5_now 70 = .ok (.iconst (-1), 1) := by decide +kernel
theorem dX5_now_71 : decode cX5_now 71 = .ok (.ireturn, 1) := by decide +kernel
set_option maxRecDepth 20000 in
theorem ggX5_when_X5_isSaying : GoodIn wsX5_when wsX5_isSaying := goodIn_r _ [5, 6, 7, 8, 4, 9, 40, 41, 42, 43, 44, 45, 46, 47, 48, 49, 50, 51, 52, 53, 54, 55, 56, 57, 58, 59, 60] (by decide +kernel) (by decide +kernel)
set_option maxRecDepth 20000 in
theorem gX5_when_X5_isSaying : GoodIn wsX5_when (wsV RX5 131 RX5 yX5_isSaying wsX5_isSaying) := goodIn_app (goodIn_of _ (by decide +kernel)) ggX5_when_X5_isSaying
set_option maxRecDepth 20000 in
theorem ggX5_when_X5_isPlace : GoodIn wsX5_when wsX5_isPlace := goodIn_r _ [13, 14, 7, 8, 4, 9, 40, 41, 42, 43, 44, 45, 46, 47, 48, 49, 50, 51, 52, 53, 54, 55, 56, 57, 58, 59, 60] (by decide +kernel) (by decide +kernel)
set_option maxRecDepth 20000 in
theorem gX5_when_X5_isPlace : GoodIn wsX5_when (wsV RX5 138 RX5 yX5_isPlace wsX5_isPlace) := goodIn_app (goodIn_of _ (by decide +kernel)) ggX5_when_X5_isPlace
set_option maxRecDepth 20000 in
theorem ggX5_when_X5_in : GoodIn wsX5_when wsX5_in := goodIn_r _ [9] (by decide +kernel) (by decide +kernel)
set_option maxRecDepth 20000 in
theorem gX5_when_X5_in : GoodIn wsX5_when (va_wsS RX5 39 yX5_in wsX5_in) := goodIn_app (goodIn_of _ (by decide +kernel)) ggX5_when_X5_in
set_option maxRecDepth 20000 in
theorem ggX5_when_X5_strengthOf : GoodIn wsX5_when wsX5_strengthOf := goodIn_r _ [18, 6, 19, 20, 21, 22, 4, 23, 14, 24, 25, 26, 27, 40, 41, 42, 43, 44, 45, 46, 47, 48, 49, 50, 51, 52, 53, 54, 55, 56, 57, 58, 59, 60] (by decide +kernel) (by decide +kernel)
set_option maxRecDepth 20000 in
theorem gX5_when_X5_strengthOf : GoodIn wsX5_when (wsV RX5 115 RX5 yX5_strengthOf wsX5_strengthOf) := goodIn_app (goodIn_of _ (by decide +kernel)) ggX5_when_X5_strengthOf
set_option maxRecDepth 20000 in
theorem ggX5_when_X5_placeOf : GoodIn wsX5_when wsX5_placeOf := goodIn_r _ [31, 6, 24, 25, 26, 4, 27, 32, 33, 34, 35, 36, 37, 38, 39, 14, 40, 41, 42, 43, 44, 45, 46, 47, 48, 49, 50, 51, 52, 53, 54, 55, 56, 57, 58, 59, 60] (by decide +kernel) (by decide +kernel)
set_option maxRecDepth 20000 in
theorem gX5_when_X5_placeOf : GoodIn wsX5_when (wsV RX5 118 RX5 yX5_placeOf wsX5_placeOf) := goodIn_app (goodIn_of _ (by decide +kernel)) ggX5_when_X5_placeOf
theorem dX5_when_0 : decode cX5_when 0 = .ok (.aload_n 0, 1) := by decide +kernel
theorem dX5_when_1 : decode cX5_when 1 = .ok (.iload_n 1, 1) := by decide +kernel
theorem dX5_when_2 : decode cX5_when 2 = .ok (.invokevirtual 131, 3) := by decide +kernel
theorem dX5_when_5 : decode cX5_when 5 = .ok (.ifCond .eq 20, 3) := by decide +kernel
theorem dX5_when_8 : decode cX5_when 8 = .ok (.aload_n 0, 1) := by decide +kernel
theorem dX5_when_9 : decode cX5_when 9 = .ok (.iload_n 2, 1) := by decide +kernel
theorem dX5_when_10 : decode cX5_when 10 = .ok (.invokevirtual 138, 3) := by decide +kernel
theorem dX5_when_13 : decode cX5_when 13 = .ok (.ifCond .eq 12, 3) := by decide +kernel
theorem dX5_when_16 : decode cX5_when 16 = .ok (.iload_n 3, 1) := by decide +kernel
theorem dX5_when_17 : decode cX5_when 17 = .ok (.iconst 0, 1) := by decide +kernel
theorem dX5_when_18 : decode cX5_when 18 = .ok (.iconst 1, 1) := by decide +kernel
theorem dX5_when_19 : decode cX5_when 19 = .ok (.invokestatic 39, 3) := by decide +kernel
theorem dX5_when_22 : decode cX5_when 22 = .ok (.ifCond .ne 5, 3) := by decide +kernel
theorem dX5_when_25 : decode cX5_when 25 = .ok (.iconst (-1), 1) := by decide +kernel
theorem dX5_when_26 : decode cX5_when 26 = .ok (.ireturn, 1) := by decide +kernel
theorem dX5_when_27 : decode cX5_when 27 = .ok (.bipush (-9), 2) := by decide +kernel
theorem dX5_when_29 : decode cX5_when 29 = .ok (.istore 4, 2) := by decide +kernel
theorem dX5_when_31 : decode cX5_when 31 = .ok (.iconst 0, 1) := by decide +kernel
theorem dX5_when_32 : decode cX5_when 32 = .ok (.istore 5, 2) := by decide +kernel
theorem dX5_when_34 : decode cX5_when 34 = .ok (.sipush 999, 3) := by decide +kernel
theorem dX5_when_37 : decode cX5_when 37 = .ok (.istore 6, 2) := by decide +kernel
theorem dX5_when_39 : decode cX5_when 39 = .ok (.iload 6, 2) := by decide +kernel
theorem dX5_when_41 : decode cX5_when 41 = .ok (.ifCond .lt 37, 3) := by decide +kernel
theorem dX5_when_44 : decode cX5_when 44 = .ok (.aload_n 0, 1) := by decide +kernel
theorem dX5_when_45 : decode cX5_when 45 = .ok (.iload_n 1, 1) := by decide +kernel
theorem dX5_when_46 : decode cX5_when 46 = .ok (.iload 6, 2) := by decide +kernel
theorem dX5_when_48 : decode cX5_when 48 = .ok (.invokevirtual 115, 3) := by decide +kernel
theorem dX5_when_51 : decode cX5_when 51 = .ok (.ifCond .le 21, 3) := by decide +kernel
theorem dX5_when_54 : decode cX5_when 54 = .ok (.aload_n 0, 1) := by decide +kernel
theorem dX5_when_55 : decode cX5_when 55 = .ok (.iload_n 1, 1) := by decide +kernel
theorem dX5_when_56 : decode cX5_when 56 = .ok (.iload 6, 2) := by decide +kernel
theorem dX5_when_58 : decode cX5_when 58 = .ok (.invokevirtual 118, 3) := by decide +kernel
theorem dX5_when_61 : decode cX5_when 61 = .ok (.iload_n 2, 1) := by decide +kernel
theorem dX5_when_62 : decode cX5_when 62 = .ok (.if_icmp .ne 10, 3) := by decide +kernel
theorem dX5_when_65 : decode cX5_when 65 = .ok (.iload 6, 2) := by decide +kernel
theorem dX5_when_67 : decode cX5_when 67 = .ok (.istore 4, 2) := by decide +kernel
theorem dX5_when_69 : decode cX5_when 69 = .ok (.iinc 5 1, 3) := by decide +kernel
theorem dX5_when_72 : decode cX5_when 72 = .ok (.iinc 6 (-1), 3) := by decide +kernel
theorem dX5_when_75 : decode cX5_when 75 = .ok (.goto (-36), 3) := by decide +kernel
theorem dX5_when_78 : decode cX5_when 78 = .ok (.iload_n 3, 1) := by decide +kernel
theorem dX5_when_79 : decode cX5_when 79 = .ok (.ifCond .ne 8, 3) := by decide +kernel
theorem dX5_when_82 : decode cX5_when 82 = .ok (.iload 4, 2) := by decide +kernel
theorem dX5_when_84 : decode cX5_when 84 = .ok (.goto 5, 3) := by decide +kernel
theorem dX5_when_87 : decode cX5_when 87 = .ok (.iload 5, 2) := by decide +kernel
theorem dX5_when_89 : decode cX5_when 89 = .ok (.ireturn, 1) := by decide +kernel
set_option maxRecDepth 20000 in
theorem ggX5_meet_X5_isSaying : GoodIn wsX5_meet wsX5_isSaying := goodIn_r _ [5, 6, 7, 8, 4, 9, 36, 37, 38, 39, 40, 41, 42, 43, 44, 45, 46, 47, 48, 49, 50, 51, 52, 53, 54, 55, 56] (by decide +kernel) (by decide +kernel)
set_option maxRecDepth 20000 in
theorem gX5_meet_X5_isSaying : GoodIn wsX5_meet (wsV RX5 131 RX5 yX5_isSaying wsX5_isSaying) := goodIn_app (goodIn_of _ (by decide +kernel)) ggX5_meet_X5_isSaying
set_option maxRecDepth 20000 in
theorem ggX5_meet_X5_strengthOf : GoodIn wsX5_meet wsX5_strengthOf := goodIn_r _ [13, 6, 14, 15, 16, 17, 4, 18, 19, 20, 21, 22, 23, 36, 37, 38, 39, 40, 41, 42, 43, 44, 45, 46, 47, 48, 49, 50, 51, 52, 53, 54, 55, 56] (by decide +kernel) (by decide +kernel)
set_option maxRecDepth 20000 in
theorem gX5_meet_X5_strengthOf : GoodIn wsX5_meet (wsV RX5 115 RX5 yX5_strengthOf wsX5_strengthOf) := goodIn_app (goodIn_of _ (by decide +kernel)) ggX5_meet_X5_strengthOf
set_option maxRecDepth 20000 in
theorem ggX5_meet_X5_placeOf : GoodIn wsX5_meet wsX5_placeOf := goodIn_r _ [27, 6, 20, 21, 22, 4, 23, 28, 29, 30, 31, 32, 33, 34, 35, 19, 36, 37, 38, 39, 40, 41, 42, 43, 44, 45, 46, 47, 48, 49, 50, 51, 52, 53, 54, 55, 56] (by decide +kernel) (by decide +kernel)
set_option maxRecDepth 20000 in
theorem gX5_meet_X5_placeOf : GoodIn wsX5_meet (wsV RX5 118 RX5 yX5_placeOf wsX5_placeOf) := goodIn_app (goodIn_of _ (by decide +kernel)) ggX5_meet_X5_placeOf
theorem dX5_meet_0 : decode cX5_meet 0 = .ok (.aload_n 0, 1) := by decide +kernel
theorem dX5_meet_1 : decode cX5_meet 1 = .ok (.iload_n 1, 1) := by decide +kernel
theorem dX5_meet_2 : decode cX5_meet 2 = .ok (.invokevirtual 131, 3) := by decide +kernel
theorem dX5_meet_5 : decode cX5_meet 5 = .ok (.ifCond .eq 16, 3) := by decide +kernel
theorem dX5_meet_8 : decode cX5_meet 8 = .ok (.aload_n 0, 1) := by decide +kernel
theorem dX5_meet_9 : decode cX5_meet 9 = .ok (.iload_n 2, 1) := by decide +kernel
theorem dX5_meet_10 : decode cX5_meet 10 = .ok (.invokevirtual 131, 3) := by decide +kernel
theorem dX5_meet_13 : decode cX5_meet 13 = .ok (.ifCond .eq 8, 3) := by decide +kernel
theorem dX5_meet_16 : decode cX5_meet 16 = .ok (.iload_n 1, 1) := by decide +kernel
theorem dX5_meet_17 : decode cX5_meet 17 = .ok (.iload_n 2, 1) := by decide +kernel
theorem dX5_meet_18 : decode cX5_meet 18 = .ok (.if_icmp .ne 5, 3) := by decide +kernel
theorem dX5_meet_21 : decode cX5_meet 21 = .ok (.iconst (-1), 1) := by decide +kernel
theorem dX5_meet_22 : decode cX5_meet 22 = .ok (.ireturn, 1) := by decide +kernel
theorem dX5_meet_23 : decode cX5_meet 23 = .ok (.iconst 0, 1) := by decide +kernel
theorem dX5_meet_24 : decode cX5_meet 24 = .ok (.istore_n 3, 1) := by decide +kernel
theorem dX5_meet_25 : decode cX5_meet 25 = .ok (.iload_n 3, 1) := by decide +kernel
theorem dX5_meet_26 : decode cX5_meet 26 = .ok (.sipush 999, 3) := by decide +kernel
theorem dX5_meet_29 : decode cX5_meet 29 = .ok (.if_icmp .gt 44, 3) := by decide +kernel
theorem dX5_meet_32 : decode cX5_meet 32 = .ok (.aload_n 0, 1) := by decide +kernel
theorem dX5_meet_33 : decode cX5_meet 33 = .ok (.iload_n 1, 1) := by decide +kernel
theorem dX5_meet_34 : decode cX5_meet 34 = .ok (.iload_n 3, 1) := by decide +kernel
theorem dX5_meet_35 : decode cX5_meet 35 = .ok (.invokevirtual 115, 3) := by decide +kernel
theorem dX5_meet_38 : decode cX5_meet 38 = .ok (.ifCond .le 29, 3) := by decide +kernel
theorem dX5_meet_41 : decode cX5_meet 41 = .ok (.aload_n 0, 1) := by decide +kernel
theorem dX5_meet_42 : decode cX5_meet 42 = .ok (.iload_n 2, 1) := by decide +kernel
theorem dX5_meet_43 : decode cX5_meet 43 = .ok (.iload_n 3, 1) := by decide +kernel
theorem dX5_meet_44 : decode cX5_meet 44 = .ok (.invokevirtual 115, 3) := by decide +kernel
theorem dX5_meet_47 : decode cX5_meet 47 = .ok (.ifCond .le 20, 3) := by decide +kernel
theorem dX5_meet_50 : decode cX5_meet 50 = .ok (.aload_n 0, 1) := by decide +kernel
theorem dX5_meet_51 : decode cX5_meet 51 = .ok (.iload_n 1, 1) := by decide +kernel
theorem dX5_meet_52 : decode cX5_meet 52 = .ok (.iload_n 3, 1) := by decide +kernel
theorem dX5_meet_53 : decode cX5_meet 53 = .ok (.invokevirtual 118, 3) := by decide +kernel
theorem dX5_meet_56 : decode cX5_meet 56 = .ok (.aload_n 0, 1) := by decide +kernel
theorem dX5_meet_57 : decode cX5_meet 57 = .ok (.iload_n 2, 1) := by decide +kernel
theorem dX5_meet_58 : decode cX5_meet 58 = .ok (.iload_n 3, 1) := by decide +kernel
theorem dX5_meet_59 : decode cX5_meet 59 = .ok (.invokevirtual 118, 3) := by decide +kernel
theorem dX5_meet_62 : decode cX5_meet 62 = .ok (.if_icmp .ne 5, 3) := by decide +kernel
theorem dX5_meet_65 : decode cX5_meet 65 = .ok (.iload_n 3, 1) := by decide +kernel
theorem dX5_meet_66 : decode cX5_meet 66 = .ok (.ireturn, 1) := by decide +kernel
theorem dX5_meet_67 : decode cX5_meet 67 = .ok (.iinc 3 1, 3) := by decide +kernel
theorem dX5_meet_70 : decode cX5_meet 70 = .ok (.goto (-45), 3) := by decide +kernel
theorem dX5_meet_73 : decode cX5_meet 73 = .ok (.bipush (-9), 2) := by decide +kernel
theorem dX5_meet_75 : decode cX5_meet 75 = .ok (.ireturn, 1) := by decide +kernel
set_option maxRecDepth 20000 in
theorem ggX5_best_X5_isPlace : GoodIn wsX5_best wsX5_isPlace := goodIn_r _ [7, 1, 8, 9, 6, 10, 47, 48, 49, 50, 51, 52, 53, 54, 55, 56, 57, 58, 59, 60, 61, 62, 63, 64, 65, 66, 67] (by decide +kernel) (by decide +kernel)
set_option maxRecDepth 20000 in
theorem gX5_best_X5_isPlace : GoodIn wsX5_best (wsV RX5 138 RX5 yX5_isPlace wsX5_isPlace) := goodIn_app (goodIn_of _ (by decide +kernel)) ggX5_best_X5_isPlace
set_option maxRecDepth 20000 in
theorem ggX5_best_X5_in : GoodIn wsX5_best wsX5_in := goodIn_r _ [10] (by decide +kernel) (by decide +kernel)
set_option maxRecDepth 20000 in
theorem gX5_best_X5_in : GoodIn wsX5_best (va_wsS RX5 39 yX5_in wsX5_in) := goodIn_app (goodIn_of _ (by decide +kernel)) ggX5_best_X5_in
set_option maxRecDepth 20000 in
theorem ggX5_best_X5_placeBy : GoodIn wsX5_best wsX5_placeBy := goodIn_r _ [14, 15, 16, 17, 6, 18, 1, 47, 48, 49, 50, 51, 52, 53, 54, 55, 56, 57, 58, 59, 60, 61, 62, 63, 64, 65, 66, 67] (by decide +kernel) (by decide +kernel)
set_option maxRecDepth 20000 in
theorem gX5_best_X5_placeBy : GoodIn wsX5_best (wsV RX5 108 RX5 yX5_placeBy wsX5_placeBy) := goodIn_app (goodIn_of _ (by decide +kernel)) ggX5_best_X5_placeBy
set_option maxRecDepth 20000 in
theorem ggX5_best_X5_soundsOf : GoodIn wsX5_best wsX5_soundsOf := goodIn_r _ [22, 23, 24, 25, 26, 6, 27, 2, 28, 29, 30, 31, 1, 32, 33, 34, 35, 36, 37, 38, 39, 11, 12, 13, 14, 15, 16, 17, 18, 47, 48, 49, 50, 51, 52, 53, 54, 55, 56, 57, 58, 59, 60, 61, 62, 63, 64, 65, 66, 67] (by decide +kernel) (by decide +kernel)
set_option maxRecDepth 20000 in
theorem gX5_best_X5_soundsOf : GoodIn wsX5_best (wsV RX5 128 RX5 yX5_soundsOf wsX5_soundsOf) := goodIn_app (goodIn_of _ (by decide +kernel)) ggX5_best_X5_soundsOf
set_option maxRecDepth 20000 in
theorem ggX5_best_X5_loudOf : GoodIn wsX5_best wsX5_loudOf := goodIn_r _ [43, 23, 44, 45, 6, 46, 24, 25, 26, 27, 2, 28, 29, 30, 31, 1, 32, 33, 34, 35, 47, 48, 49, 50, 51, 52, 53, 54, 55, 56, 57, 58, 59, 60, 61, 62, 63, 64, 65, 66, 67] (by decide +kernel) (by decide +kernel)
set_option maxRecDepth 20000 in
theorem gX5_best_X5_loudOf : GoodIn wsX5_best (wsV RX5 125 RX5 yX5_loudOf wsX5_loudOf) := goodIn_app (goodIn_of _ (by decide +kernel)) ggX5_best_X5_loudOf
theorem dX5_best_0 : decode cX5_best 0 = .ok (.aload_n 0, 1) := by decide +kernel
theorem dX5_best_1 : decode cX5_best 1 = .ok (.iload_n 1, 1) := by decide +kernel
theorem dX5_best_2 : decode cX5_best 2 = .ok (.invokevirtual 138, 3) := by decide +kernel
theorem dX5_best_5 : decode cX5_best 5 = .ok (.ifCond .eq 42, 3) := by decide +kernel
theorem dX5_best_8 : decode cX5_best 8 = .ok (.aload_n 0, 1) := by decide +kernel
theorem dX5_best_9 : decode cX5_best 9 = .ok (.iload_n 2, 1) := by decide +kernel
theorem dX5_best_10 : decode cX5_best 10 = .ok (.invokevirtual 138, 3) := by decide +kernel
theorem dX5_best_13 : decode cX5_best 13 = .ok (.ifCond .eq 34, 3) := by decide +kernel
theorem dX5_best_16 : decode cX5_best 16 = .ok (.iload_n 3, 1) := by decide +kernel
theorem dX5_best_17 : decode cX5_best 17 = .ok (.iconst 1, 1) := by decide +kernel
theorem dX5_best_18 : decode cX5_best 18 = .ok (.bipush 6, 2) := by decide +kernel
theorem dX5_best_20 : decode cX5_best 20 = .ok (.invokestatic 39, 3) := by decide +kernel
theorem dX5_best_23 : decode cX5_best 23 = .ok (.ifCond .eq 24, 3) := by decide +kernel
theorem dX5_best_26 : decode cX5_best 26 = .ok (.iload 4, 2) := by decide +kernel
theorem dX5_best_28 : decode cX5_best 28 = .ok (.iconst 0, 1) := by decide +kernel
theorem dX5_best_29 : decode cX5_best 29 = .ok (.iconst 1, 1) := by decide +kernel
theorem dX5_best_30 : decode cX5_best 30 = .ok (.invokestatic 39, 3) := by decide +kernel
theorem dX5_best_33 : decode cX5_best 33 = .ok (.ifCond .eq 14, 3) := by decide +kernel
theorem dX5_best_36 : decode cX5_best 36 = .ok (.iload 5, 2) := by decide +kernel
theorem dX5_best_38 : decode cX5_best 38 = .ok (.iconst 1, 1) := by decide +kernel
theorem dX5_best_39 : decode cX5_best 39 = .ok (.bipush 30, 2) := by decide +kernel
theorem dX5_best_41 : decode cX5_best 41 = .ok (.invokestatic 39, 3) := by decide +kernel
theorem dX5_best_44 : decode cX5_best 44 = .ok (.ifCond .ne 5, 3) := by decide +kernel
theorem dX5_best_47 : decode cX5_best 47 = .ok (.iconst (-1), 1) := by decide +kernel
theorem dX5_best_48 : decode cX5_best 48 = .ok (.ireturn, 1) := by decide +kernel
theorem dX5_best_49 : decode cX5_best 49 = .ok (.iconst 0, 1) := by decide +kernel
theorem dX5_best_50 : decode cX5_best 50 = .ok (.istore 6, 2) := by decide +kernel
theorem dX5_best_52 : decode cX5_best 52 = .ok (.iload 6, 2) := by decide +kernel
theorem dX5_best_54 : decode cX5_best 54 = .ok (.aload_n 0, 1) := by decide +kernel
theorem dX5_best_55 : decode cX5_best 55 = .ok (.getfield 13, 3) := by decide +kernel
theorem dX5_best_58 : decode cX5_best 58 = .ok (.if_icmp .ge 23, 3) := by decide +kernel
theorem dX5_best_61 : decode cX5_best 61 = .ok (.aload_n 0, 1) := by decide +kernel
theorem dX5_best_62 : decode cX5_best 62 = .ok (.iload_n 1, 1) := by decide +kernel
theorem dX5_best_63 : decode cX5_best 63 = .ok (.iload_n 3, 1) := by decide +kernel
theorem dX5_best_64 : decode cX5_best 64 = .ok (.iload 4, 2) := by decide +kernel
theorem dX5_best_66 : decode cX5_best 66 = .ok (.iload 6, 2) := by decide +kernel
theorem dX5_best_68 : decode cX5_best 68 = .ok (.invokevirtual 108, 3) := by decide +kernel
theorem dX5_best_71 : decode cX5_best 71 = .ok (.iload_n 2, 1) := by decide +kernel
theorem dX5_best_72 : decode cX5_best 72 = .ok (.if_icmp .eq 9, 3) := by decide +kernel
theorem dX5_best_75 : decode cX5_best 75 = .ok (.iinc 6 1, 3) := by decide +kernel
theorem dX5_best_78 : decode cX5_best 78 = .ok (.goto (-26), 3) := by decide +kernel
theorem dX5_best_81 : decode cX5_best 81 = .ok (.iload 5, 2) := by decide +kernel
theorem dX5_best_83 : decode cX5_best 83 = .ok (.aload_n 0, 1) := by decide +kernel
theorem dX5_best_84 : decode cX5_best 84 = .ok (.getfield 17, 3) := by decide +kernel
theorem dX5_best_87 : decode cX5_best 87 = .ok (.iload_n 3, 1) := by decide +kernel
theorem dX5_best_88 : decode cX5_best 88 = .ok (.iload 6, 2) := by decide +kernel
theorem dX5_best_90 : decode cX5_best 90 = .ok (.imul, 1) := by decide +kernel
theorem dX5_best_91 : decode cX5_best 91 = .ok (.aload_n 0, 1) := by decide +kernel
theorem dX5_best_92 : decode cX5_best 92 = .ok (.getfield 13, 3) := by decide +kernel
theorem dX5_best_95 : decode cX5_best 95 = .ok (.idiv, 1) := by decide +kernel
theorem dX5_best_96 : decode cX5_best 96 = .ok (.imul, 1) := by decide +kernel
theorem dX5_best_97 : decode cX5_best 97 = .ok (.isub, 1) := by decide +kernel
theorem dX5_best_98 : decode cX5_best 98 = .ok (.istore 7, 2) := by decide +kernel
theorem dX5_best_100 : decode cX5_best 100 = .ok (.iload 6, 2) := by decide +kernel
theorem dX5_best_102 : decode cX5_best 102 = .ok (.aload_n 0, 1) := by decide +kernel
theorem dX5_best_103 : decode cX5_best 103 = .ok (.getfield 13, 3) := by decide +kernel
theorem dX5_best_106 : decode cX5_best 106 = .ok (.if_icmp .eq 8, 3) := by decide +kernel
theorem dX5_best_109 : decode cX5_best 109 = .ok (.iload 7, 2) := by decide +kernel
theorem dX5_best_111 : decode cX5_best 111 = .ok (.ifCond .gt 6, 3) := by decide +kernel
theorem dX5_best_114 : decode cX5_best 114 = .ok (.bipush (-9), 2) := by decide +kernel
theorem dX5_best_116 : decode cX5_best 116 = .ok (.ireturn, 1) := by decide +kernel
theorem dX5_best_117 : decode cX5_best 117 = .ok (.iconst 0, 1) := by decide +kernel
theorem dX5_best_118 : decode cX5_best 118 = .ok (.istore 8, 2) := by decide +kernel
theorem dX5_best_120 : decode cX5_best 120 = .ok (.iload 8, 2) := by decide +kernel
theorem dX5_best_122 : decode cX5_best 122 = .ok (.bipush 99, 2) := by decide +kernel
theorem dX5_best_124 : decode cX5_best 124 = .ok (.if_icmp .gt 36, 3) := by decide +kernel
theorem dX5_best_127 : decode cX5_best 127 = .ok (.iload 7, 2) := by decide +kernel
theorem dX5_best_129 : decode cX5_best 129 = .ok (.aload_n 0, 1) := by decide +kernel
theorem dX5_best_130 : decode cX5_best 130 = .ok (.aload_n 0, 1) := by decide +kernel
theorem dX5_best_131 : decode cX5_best 131 = .ok (.iload_n 2, 1) := by decide +kernel
theorem dX5_best_132 : decode cX5_best 132 = .ok (.iload 8, 2) := by decide +kernel
theorem dX5_best_134 : decode cX5_best 134 = .ok (.iload 6, 2) := by decide +kernel
theorem dX5_best_136 : decode cX5_best 136 = .ok (.iadd, 1) := by decide +kernel
theorem dX5_best_137 : decode cX5_best 137 = .ok (.invokevirtual 128, 3) := by decide +kernel
theorem dX5_best_140 : decode cX5_best 140 = .ok (.iload 8, 2) := by decide +kernel
theorem dX5_best_142 : decode cX5_best 142 = .ok (.iload 6, 2) := by decide +kernel
theorem dX5_best_144 : decode cX5_best 144 = .ok (.iadd, 1) := by decide +kernel
theorem dX5_best_145 : decode cX5_best 145 = .ok (.invokevirtual 125, 3) := by decide +kernel
theorem dX5_best_148 : decode cX5_best 148 = .ok (.if_icmp .le 6, 3) := by decide +kernel
theorem dX5_best_151 : decode cX5_best 151 = .ok (.iload 8, 2) := by decide +kernel
theorem dX5_best_153 : decode cX5_best 153 = .ok (.ireturn, 1) := by decide +kernel
theorem dX5_best_154 : decode cX5_best 154 = .ok (.iinc 8 1, 3) := by decide +kernel
theorem dX5_best_157 : decode cX5_best 157 = .ok (.goto (-37), 3) := by decide +kernel
theorem dX5_best_160 : decode cX5_best 160 = .ok (.bipush (-9), 2) := by decide +kernel
theorem dX5_best_162 : decode cX5_best 162 = .ok (.ireturn, 1) := by decide +kernel
set_option maxRecDepth 20000 in
theorem ggX5_stills_X5_isSaying : GoodIn wsX5_stills wsX5_isSaying := goodIn_r _ [5, 6, 7, 8, 4, 9, 50, 51, 52, 53, 54, 55, 56, 57, 58, 59, 60, 61, 62, 63, 64, 65, 66, 67, 68, 69, 70] (by decide +kernel) (by decide +kernel)
set_option maxRecDepth 20000 in
theorem gX5_stills_X5_isSaying : GoodIn wsX5_stills (wsV RX5 131 RX5 yX5_isSaying wsX5_isSaying) := goodIn_app (goodIn_of _ (by decide +kernel)) ggX5_stills_X5_isSaying
set_option maxRecDepth 20000 in
theorem ggX5_stills_X5_strengthOf : GoodIn wsX5_stills wsX5_strengthOf := goodIn_r _ [13, 6, 14, 15, 16, 17, 4, 18, 19, 20, 21, 22, 23, 50, 51, 52, 53, 54, 55, 56, 57, 58, 59, 60, 61, 62, 63, 64, 65, 66, 67, 68, 69, 70] (by decide +kernel) (by decide +kernel)
set_option maxRecDepth 20000 in
theorem gX5_stills_X5_strengthOf : GoodIn wsX5_stills (wsV RX5 115 RX5 yX5_strengthOf wsX5_strengthOf) := goodIn_app (goodIn_of _ (by decide +kernel)) ggX5_stills_X5_strengthOf
set_option maxRecDepth 20000 in
theorem ggX5_stills_X5_placeOf : GoodIn wsX5_stills wsX5_placeOf := goodIn_r _ [27, 6, 20, 21, 22, 4, 23, 28, 29, 30, 31, 32, 33, 34, 35, 19, 50, 51, 52, 53, 54, 55, 56, 57, 58, 59, 60, 61, 62, 63, 64, 65, 66, 67, 68, 69, 70] (by decide +kernel) (by decide +kernel)
set_option maxRecDepth 20000 in
theorem gX5_stills_X5_placeOf : GoodIn wsX5_stills (wsV RX5 118 RX5 yX5_placeOf wsX5_placeOf) := goodIn_app (goodIn_of _ (by decide +kernel)) ggX5_stills_X5_placeOf
set_option maxRecDepth 20000 in
theorem ggX5_stills_X5_soundsOf : GoodIn wsX5_stills wsX5_soundsOf := goodIn_r _ [39, 6, 10, 11, 12, 4, 13, 14, 15, 16, 17, 18, 19, 20, 21, 22, 23, 24, 25, 26, 27, 28, 29, 30, 31, 32, 33, 34, 35, 50, 51, 52, 53, 54, 55, 56, 57, 58, 59, 60, 61, 62, 63, 64, 65, 66, 67, 68, 69, 70] (by decide +kernel) (by decide +kernel)
set_option maxRecDepth 20000 in
theorem gX5_stills_X5_soundsOf : GoodIn wsX5_stills (wsV RX5 128 RX5 yX5_soundsOf wsX5_soundsOf) := goodIn_app (goodIn_of _ (by decide +kernel)) ggX5_stills_X5_soundsOf
set_option maxRecDepth 20000 in
theorem ggX5_stills_X5_bits : GoodIn wsX5_stills wsX5_bits := goodIn_r _ [42] (by decide +kernel) (by decide +kernel)
set_option maxRecDepth 20000 in
theorem gX5_stills_X5_bits : GoodIn wsX5_stills (va_wsS RX5 153 yX5_bits wsX5_bits) := goodIn_app (goodIn_of _ (by decide +kernel)) ggX5_stills_X5_bits
set_option maxRecDepth 20000 in
theorem ggX5_stills_X5_loudOf : GoodIn wsX5_stills wsX5_loudOf := goodIn_r _ [46, 6, 47, 48, 4, 49, 10, 11, 12, 13, 14, 15, 16, 17, 18, 19, 20, 21, 22, 23, 50, 51, 52, 53, 54, 55, 56, 57, 58, 59, 60, 61, 62, 63, 64, 65, 66, 67, 68, 69, 70] (by decide +kernel) (by decide +kernel)
set_option maxRecDepth 20000 in
theorem gX5_stills_X5_loudOf : GoodIn wsX5_stills (wsV RX5 125 RX5 yX5_loudOf wsX5_loudOf) := goodIn_app (goodIn_of _ (by decide +kernel)) ggX5_stills_X5_loudOf
theorem dX5_stills_0 : decode cX5_stills 0 = .ok (.aload_n 0, 1) := by decide +kernel
theorem dX5_stills_1 : decode cX5_stills 1 = .ok (.iload_n 1, 1) := by decide +kernel
theorem dX5_stills_2 : decode cX5_stills 2 = .ok (.invokevirtual 131, 3) := by decide +kernel
theorem dX5_stills_5 : decode cX5_stills 5 = .ok (.ifCond .ne 5, 3) := by decide +kernel
theorem dX5_stills_8 : decode cX5_stills 8 = .ok (.iconst (-1), 1) := by decide +kernel
theorem dX5_stills_9 : decode cX5_stills 9 = .ok (.ireturn, 1) := by decide +kernel
theorem dX5_stills_10 : decode cX5_stills 10 = .ok (.aload_n 0, 1) := by decide +kernel
theorem dX5_stills_11 : decode cX5_stills 11 = .ok (.iload_n 1, 1) := by decide +kernel
theorem dX5_stills_12 : decode cX5_stills 12 = .ok (.iconst 0, 1) := by decide +kernel
theorem dX5_stills_13 : decode cX5_stills 13 = .ok (.invokevirtual 115, 3) := by decide +kernel
theorem dX5_stills_16 : decode cX5_stills 16 = .ok (.istore_n 2, 1) := by decide +kernel
theorem dX5_stills_17 : decode cX5_stills 17 = .ok (.aload_n 0, 1) := by decide +kernel
theorem dX5_stills_18 : decode cX5_stills 18 = .ok (.aload_n 0, 1) := by decide +kernel
theorem dX5_stills_19 : decode cX5_stills 19 = .ok (.iload_n 1, 1) := by decide +kernel
theorem dX5_stills_20 : decode cX5_stills 20 = .ok (.iconst 0, 1) := by decide +kernel
theorem dX5_stills_21 : decode cX5_stills 21 = .ok (.invokevirtual 118, 3) := by decide +kernel
theorem dX5_stills_24 : decode cX5_stills 24 = .ok (.iconst 0, 1) := by decide +kernel
theorem dX5_stills_25 : decode cX5_stills 25 = .ok (.invokevirtual 128, 3) := by decide +kernel
theorem dX5_stills_28 : decode cX5_stills 28 = .ok (.iconst 1, 1) := by decide +kernel
theorem dX5_stills_29 : decode cX5_stills 29 = .ok (.iload_n 1, 1) := by decide +kernel
theorem dX5_stills_30 : decode cX5_stills 30 = .ok (.ishl, 1) := by decide +kernel
theorem dX5_stills_31 : decode cX5_stills 31 = .ok (.iconst (-1), 1) := by decide +kernel
theorem dX5_stills_32 : decode cX5_stills 32 = .ok (.ixor, 1) := by decide +kernel
theorem dX5_stills_33 : decode cX5_stills 33 = .ok (.iand, 1) := by decide +kernel
theorem dX5_stills_34 : decode cX5_stills 34 = .ok (.istore_n 3, 1) := by decide +kernel
theorem dX5_stills_35 : decode cX5_stills 35 = .ok (.iload_n 3, 1) := by decide +kernel
theorem dX5_stills_36 : decode cX5_stills 36 = .ok (.istore 4, 2) := by decide +kernel
theorem dX5_stills_38 : decode cX5_stills 38 = .ok (.iload_n 3, 1) := by decide +kernel
theorem dX5_stills_39 : decode cX5_stills 39 = .ok (.istore 5, 2) := by decide +kernel
theorem dX5_stills_41 : decode cX5_stills 41 = .ok (.iload 5, 2) := by decide +kernel
theorem dX5_stills_43 : decode cX5_stills 43 = .ok (.ifCond .lt 67, 3) := by decide +kernel
theorem dX5_stills_46 : decode cX5_stills 46 = .ok (.iload 5, 2) := by decide +kernel
theorem dX5_stills_48 : decode cX5_stills 48 = .ok (.iload_n 3, 1) := by decide +kernel
theorem dX5_stills_49 : decode cX5_stills 49 = .ok (.iconst (-1), 1) := by decide +kernel
theorem dX5_stills_50 : decode cX5_stills 50 = .ok (.ixor, 1) := by decide +kernel
theorem dX5_stills_51 : decode cX5_stills 51 = .ok (.iand, 1) := by decide +kernel
theorem dX5_stills_52 : decode cX5_stills 52 = .ok (.ifCond .ne 20, 3) := by decide +kernel
theorem dX5_stills_55 : decode cX5_stills 55 = .ok (.iload 5, 2) := by decide +kernel
theorem dX5_stills_57 : decode cX5_stills 57 = .ok (.invokestatic 153, 3) := by decide +kernel
theorem dX5_stills_60 : decode cX5_stills 60 = .ok (.iload 4, 2) := by decide +kernel
theorem dX5_stills_62 : decode cX5_stills 62 = .ok (.invokestatic 153, 3) := by decide +kernel
theorem dX5_stills_65 : decode cX5_stills 65 = .ok (.if_icmp .gt 7, 3) := by decide +kernel
theorem dX5_stills_68 : decode cX5_stills 68 = .ok (.iconst 1, 1) := by decide +kernel
theorem dX5_stills_69 : decode cX5_stills 69 = .ok (.goto 4, 3) := by decide +kernel
theorem dX5_stills_72 : decode cX5_stills 72 = .ok (.iconst 0, 1) := by decide +kernel
theorem dX5_stills_73 : decode cX5_stills 73 = .ok (.istore 6, 2) := by decide +kernel
theorem dX5_stills_75 : decode cX5_stills 75 = .ok (.iload 6, 2) := by decide +kernel
theorem dX5_stills_77 : decode cX5_stills 77 = .ok (.ifCond .eq 23, 3) := by decide +kernel
theorem dX5_stills_80 : decode cX5_stills 80 = .ok (.iload_n 2, 1) := by decide +kernel
theorem dX5_stills_81 : decode cX5_stills 81 = .ok (.aload_n 0, 1) := by decide +kernel
theorem dX5_stills_82 : decode cX5_stills 82 = .ok (.iload_n 3, 1) := by decide +kernel
theorem dX5_stills_83 : decode cX5_stills 83 = .ok (.iload 5, 2) := by decide +kernel
theorem dX5_stills_85 : decode cX5_stills 85 = .ok (.iconst (-1), 1) := by decide +kernel
theorem dX5_stills_86 : decode cX5_stills 86 = .ok (.ixor, 1) := by decide +kernel
theorem dX5_stills_87 : decode cX5_stills 87 = .ok (.iand, 1) := by decide +kernel
theorem dX5_stills_88 : decode cX5_stills 88 = .ok (.iconst 0, 1) := by decide +kernel
theorem dX5_stills_89 : decode cX5_stills 89 = .ok (.invokevirtual 125, 3) := by decide +kernel
theorem dX5_stills_92 : decode cX5_stills 92 = .ok (.if_icmp .le 8, 3) := by decide +kernel
theorem dX5_stills_95 : decode cX5_stills 95 = .ok (.iload 5, 2) := by decide +kernel
theorem dX5_stills_97 : decode cX5_stills 97 = .ok (.goto 5, 3) := by decide +kernel
theorem dX5_stills_100 : decode cX5_stills 100 = .ok (.iload 4, 2) := by decide +kernel
theorem dX5_stills_102 : decode cX5_stills 102 = .ok (.istore 4, 2) := by decide +kernel
theorem dX5_stills_104 : decode cX5_stills 104 = .ok (.iinc 5 (-1), 3) := by decide +kernel
theorem dX5_stills_107 : decode cX5_stills 107 = .ok (.goto (-66), 3) := by decide +kernel
theorem dX5_stills_110 : decode cX5_stills 110 = .ok (.iload_n 2, 1) := by decide +kernel
theorem dX5_stills_111 : decode cX5_stills 111 = .ok (.ifCond .ne 8, 3) := by decide +kernel
theorem dX5_stills_114 : decode cX5_stills 114 = .ok (.bipush (-9), 2) := by decide +kernel
theorem dX5_stills_116 : decode cX5_stills 116 = .ok (.goto 5, 3) := by decide +kernel
theorem dX5_stills_119 : decode cX5_stills 119 = .ok (.iload 4, 2) := by decide +kernel
theorem dX5_stills_121 : decode cX5_stills 121 = .ok (.ireturn, 1) := by decide +kernel
theorem dX5_divisor_0 : decode cX5_divisor 0 = .ok (.iload_n 0, 1) := by decide +kernel
theorem dX5_divisor_1 : decode cX5_divisor 1 = .ok (.istore_n 2, 1) := by decide +kernel
theorem dX5_divisor_2 : decode cX5_divisor 2 = .ok (.iload_n 1, 1) := by decide +kernel
theorem dX5_divisor_3 : decode cX5_divisor 3 = .ok (.istore_n 3, 1) := by decide +kernel
theorem dX5_divisor_4 : decode cX5_divisor 4 = .ok (.iload_n 3, 1) := by decide +kernel
theorem dX5_divisor_5 : decode cX5_divisor 5 = .ok (.ifCond .le 16, 3) := by decide +kernel
theorem dX5_divisor_8 : decode cX5_divisor 8 = .ok (.iload_n 2, 1) := by decide +kernel
theorem dX5_divisor_9 : decode cX5_divisor 9 = .ok (.iload_n 3, 1) := by decide +kernel
theorem dX5_divisor_10 : decode cX5_divisor 10 = .ok (.irem, 1) := by decide +kernel
theorem dX5_divisor_11 : decode cX5_divisor 11 = .ok (.istore 4, 2) := by decide +kernel
theorem dX5_divisor_13 : decode cX5_divisor 13 = .ok (.iload_n 3, 1) := by decide +kernel
theorem dX5_divisor_14 : decode cX5_divisor 14 = .ok (.istore_n 2, 1) := by decide +kernel
theorem dX5_divisor_15 : decode cX5_divisor 15 = .ok (.iload 4, 2) := by decide +kernel
theorem dX5_divisor_17 : decode cX5_divisor 17 = .ok (.istore_n 3, 1) := by decide +kernel
theorem dX5_divisor_18 : decode cX5_divisor 18 = .ok (.goto (-14), 3) := by decide +kernel
theorem dX5_divisor_21 : decode cX5_divisor 21 = .ok (.iload_n 2, 1) := by decide +kernel
theorem dX5_divisor_22 : decode cX5_divisor 22 = .ok (.ireturn, 1) := by decide +kernel
set_option maxRecDepth 20000 in
theorem ggX5_odds_X5_isSaying : GoodIn wsX5_odds wsX5_isSaying := goodIn_r _ [6, 7, 8, 9, 5, 10, 33, 34, 35, 36, 37, 38, 39, 40, 41, 42, 43, 44, 45, 46, 47, 48, 49, 50, 51, 52, 53] (by decide +kernel) (by decide +kernel)
set_option maxRecDepth 20000 in
theorem gX5_odds_X5_isSaying : GoodIn wsX5_odds (wsV RX5 131 RX5 yX5_isSaying wsX5_isSaying) := goodIn_app (goodIn_of _ (by decide +kernel)) ggX5_odds_X5_isSaying
set_option maxRecDepth 20000 in
theorem ggX5_odds_X5_in : GoodIn wsX5_odds wsX5_in := goodIn_r _ [10] (by decide +kernel) (by decide +kernel)
set_option maxRecDepth 20000 in
theorem gX5_odds_X5_in : GoodIn wsX5_odds (va_wsS RX5 39 yX5_in wsX5_in) := goodIn_app (goodIn_of _ (by decide +kernel)) ggX5_odds_X5_in
set_option maxRecDepth 20000 in
theorem ggX5_odds_X5_strengthOf : GoodIn wsX5_odds wsX5_strengthOf := goodIn_r _ [14, 7, 1, 15, 16, 17, 5, 18, 19, 20, 21, 22, 23, 33, 34, 35, 36, 37, 38, 39, 40, 41, 42, 43, 44, 45, 46, 47, 48, 49, 50, 51, 52, 53] (by decide +kernel) (by decide +kernel)
set_option maxRecDepth 20000 in
theorem gX5_odds_X5_strengthOf : GoodIn wsX5_odds (wsV RX5 115 RX5 yX5_strengthOf wsX5_strengthOf) := goodIn_app (goodIn_of _ (by decide +kernel)) ggX5_odds_X5_strengthOf
set_option maxRecDepth 20000 in
theorem ggX5_odds_X5_has : GoodIn wsX5_odds wsX5_has := goodIn_r _ [26] (by decide +kernel) (by decide +kernel)
set_option maxRecDepth 20000 in
theorem gX5_odds_X5_has : GoodIn wsX5_odds (va_wsS RX5 121 yX5_has wsX5_has) := goodIn_app (goodIn_of _ (by decide +kernel)) ggX5_odds_X5_has
set_option maxRecDepth 20000 in
theorem ggX5_odds_X5_bits : GoodIn wsX5_odds wsX5_bits := goodIn_r _ [29] (by decide +kernel) (by decide +kernel)
set_option maxRecDepth 20000 in
theorem gX5_odds_X5_bits : GoodIn wsX5_odds (va_wsS RX5 153 yX5_bits wsX5_bits) := goodIn_app (goodIn_of _ (by decide +kernel)) ggX5_odds_X5_bits
set_option maxRecDepth 20000 in
theorem ggX5_odds_X5_divisor : GoodIn wsX5_odds wsX5_divisor := goodIn_r _ [32] (by decide +kernel) (by decide +kernel)
set_option maxRecDepth 20000 in
theorem gX5_odds_X5_divisor : GoodIn wsX5_odds (va_wsS RX5 160 yX5_divisor wsX5_divisor) := goodIn_app (goodIn_of _ (by decide +kernel)) ggX5_odds_X5_divisor
theorem dX5_odds_0 : decode cX5_odds 0 = .ok (.aload_n 0, 1) := by decide +kernel
theorem dX5_odds_1 : decode cX5_odds 1 = .ok (.iload_n 1, 1) := by decide +kernel
theorem dX5_odds_2 : decode cX5_odds 2 = .ok (.invokevirtual 131, 3) := by decide +kernel
theorem dX5_odds_5 : decode cX5_odds 5 = .ok (.ifCond .eq 33, 3) := by decide +kernel
theorem dX5_odds_8 : decode cX5_odds 8 = .ok (.iload_n 2, 1) := by decide +kernel
theorem dX5_odds_9 : decode cX5_odds 9 = .ok (.iconst 0, 1) := by decide +kernel
theorem dX5_odds_10 : decode cX5_odds 10 = .ok (.bipush 6, 2) := by decide +kernel
theorem dX5_odds_12 : decode cX5_odds 12 = .ok (.invokestatic 39, 3) := by decide +kernel
theorem dX5_odds_15 : decode cX5_odds 15 = .ok (.ifCond .eq 23, 3) := by decide +kernel
theorem dX5_odds_18 : decode cX5_odds 18 = .ok (.iload_n 3, 1) := by decide +kernel
theorem dX5_odds_19 : decode cX5_odds 19 = .ok (.iconst 0, 1) := by decide +kernel
theorem dX5_odds_20 : decode cX5_odds 20 = .ok (.bipush 10, 2) := by decide +kernel
theorem dX5_odds_22 : decode cX5_odds 22 = .ok (.invokestatic 39, 3) := by decide +kernel
theorem dX5_odds_25 : decode cX5_odds 25 = .ok (.ifCond .eq 13, 3) := by decide +kernel
theorem dX5_odds_28 : decode cX5_odds 28 = .ok (.iload 4, 2) := by decide +kernel
theorem dX5_odds_30 : decode cX5_odds 30 = .ok (.iconst 0, 1) := by decide +kernel
theorem dX5_odds_31 : decode cX5_odds 31 = .ok (.iconst 1, 1) := by decide +kernel
theorem dX5_odds_32 : decode cX5_odds 32 = .ok (.invokestatic 39, 3) := by decide +kernel
theorem dX5_odds_35 : decode cX5_odds 35 = .ok (.ifCond .ne 5, 3) := by decide +kernel
theorem dX5_odds_38 : decode cX5_odds 38 = .ok (.iconst (-1), 1) := by decide +kernel
theorem dX5_odds_39 : decode cX5_odds 39 = .ok (.ireturn, 1) := by decide +kernel
theorem dX5_odds_40 : decode cX5_odds 40 = .ok (.aload_n 0, 1) := by decide +kernel
theorem dX5_odds_41 : decode cX5_odds 41 = .ok (.iload_n 1, 1) := by decide +kernel
theorem dX5_odds_42 : decode cX5_odds 42 = .ok (.iconst 0, 1) := by decide +kernel
theorem dX5_odds_43 : decode cX5_odds 43 = .ok (.invokevirtual 115, 3) := by decide +kernel
theorem dX5_odds_46 : decode cX5_odds 46 = .ok (.istore 5, 2) := by decide +kernel
theorem dX5_odds_48 : decode cX5_odds 48 = .ok (.iconst 0, 1) := by decide +kernel
theorem dX5_odds_49 : decode cX5_odds 49 = .ok (.istore 6, 2) := by decide +kernel
theorem dX5_odds_51 : decode cX5_odds 51 = .ok (.iconst 0, 1) := by decide +kernel
theorem dX5_odds_52 : decode cX5_odds 52 = .ok (.istore 7, 2) := by decide +kernel
theorem dX5_odds_54 : decode cX5_odds 54 = .ok (.iconst 0, 1) := by decide +kernel
theorem dX5_odds_55 : decode cX5_odds 55 = .ok (.istore 8, 2) := by decide +kernel
theorem dX5_odds_57 : decode cX5_odds 57 = .ok (.iload 8, 2) := by decide +kernel
theorem dX5_odds_59 : decode cX5_odds 59 = .ok (.iconst 1, 1) := by decide +kernel
theorem dX5_odds_60 : decode cX5_odds 60 = .ok (.iload_n 2, 1) := by decide +kernel
theorem dX5_odds_61 : decode cX5_odds 61 = .ok (.ishl, 1) := by decide +kernel
theorem dX5_odds_62 : decode cX5_odds 62 = .ok (.if_icmp .ge 86, 3) := by decide +kernel
theorem dX5_odds_65 : decode cX5_odds 65 = .ok (.iconst 1, 1) := by decide +kernel
theorem dX5_odds_66 : decode cX5_odds 66 = .ok (.istore 9, 2) := by decide +kernel
theorem dX5_odds_68 : decode cX5_odds 68 = .ok (.iconst 0, 1) := by decide +kernel
theorem dX5_odds_69 : decode cX5_odds 69 = .ok (.istore 10, 2) := by decide +kernel
theorem dX5_odds_71 : decode cX5_odds 71 = .ok (.iload 10, 2) := by decide +kernel
theorem dX5_odds_73 : decode cX5_odds 73 = .ok (.iload_n 2, 1) := by decide +kernel
theorem dX5_odds_74 : decode cX5_odds 74 = .ok (.if_icmp .ge 32, 3) := by decide +kernel
theorem dX5_odds_77 : decode cX5_odds 77 = .ok (.iload 9, 2) := by decide +kernel
theorem dX5_odds_79 : decode cX5_odds 79 = .ok (.iload 8, 2) := by decide +kernel
theorem dX5_odds_81 : decode cX5_odds 81 = .ok (.iload 10, 2) := by decide +kernel
theorem dX5_odds_83 : decode cX5_odds 83 = .ok (.invokestatic 121, 3) := by decide +kernel
theorem dX5_odds_86 : decode cX5_odds 86 = .ok (.ifCond .eq 7, 3) := by decide +kernel
theorem dX5_odds_89 : decode cX5_odds 89 = .ok (.iload_n 3, 1) := by decide +kernel
theorem dX5_odds_90 : decode cX5_odds 90 = .ok (.goto 7, 3) := by decide +kernel
theorem dX5_odds_93 : decode cX5_odds 93 = .ok (.bipush 10, 2) := by decide +kernel
theorem dX5_odds_95 : decode cX5_odds 95 = .ok (.iload_n 3, 1) := by decide +kernel
theorem dX5_odds_96 : decode cX5_odds 96 = .ok (.isub, 1) := by decide +kernel
theorem dX5_odds_97 : decode cX5_odds 97 = .ok (.imul, 1) := by decide +kernel
theorem dX5_odds_98 : decode cX5_odds 98 = .ok (.istore 9, 2) := by decide +kernel
theorem dX5_odds_100 : decode cX5_odds 100 = .ok (.iinc 10 1, 3) := by decide +kernel
theorem dX5_odds_103 : decode cX5_odds 103 = .ok (.goto (-32), 3) := by decide +kernel
theorem dX5_odds_106 : decode cX5_odds 106 = .ok (.iload 6, 2) := by decide +kernel
theorem dX5_odds_108 : decode cX5_odds 108 = .ok (.iload 5, 2) := by decide +kernel
theorem dX5_odds_110 : decode cX5_odds 110 = .ok (.aload_n 0, 1) := by decide +kernel
theorem dX5_odds_111 : decode cX5_odds 111 = .ok (.getfield 17, 3) := by decide +kernel
theorem dX5_odds_114 : decode cX5_odds 114 = .ok (.iload_n 2, 1) := by decide +kernel
theorem dX5_odds_115 : decode cX5_odds 115 = .ok (.iload 8, 2) := by decide +kernel
theorem dX5_odds_117 : decode cX5_odds 117 = .ok (.invokestatic 153, 3) := by decide +kernel
theorem dX5_odds_120 : decode cX5_odds 120 = .ok (.iadd, 1) := by decide +kernel
theorem dX5_odds_121 : decode cX5_odds 121 = .ok (.imul, 1) := by decide +kernel
theorem dX5_odds_122 : decode cX5_odds 122 = .ok (.isub, 1) := by decide +kernel
theorem dX5_odds_123 : decode cX5_odds 123 = .ok (.ifCond .le 8, 3) := by decide +kernel
theorem dX5_odds_126 : decode cX5_odds 126 = .ok (.iload 9, 2) := by decide +kernel
theorem dX5_odds_128 : decode cX5_odds 128 = .ok (.goto 4, 3) := by decide +kernel
theorem dX5_odds_131 : decode cX5_odds 131 = .ok (.iconst 0, 1) := by decide +kernel
theorem dX5_odds_132 : decode cX5_odds 132 = .ok (.iadd, 1) := by decide +kernel
theorem dX5_odds_133 : decode cX5_odds 133 = .ok (.istore 6, 2) := by decide +kernel
theorem dX5_odds_135 : decode cX5_odds 135 = .ok (.iload 7, 2) := by decide +kernel
theorem dX5_odds_137 : decode cX5_odds 137 = .ok (.iload 9, 2) := by decide +kernel
theorem dX5_odds_139 : decode cX5_odds 139 = .ok (.iadd, 1) := by decide +kernel
theorem dX5_odds_140 : decode cX5_odds 140 = .ok (.istore 7, 2) := by decide +kernel
theorem dX5_odds_142 : decode cX5_odds 142 = .ok (.iinc 8 1, 3) := by decide +kernel
theorem dX5_odds_145 : decode cX5_odds 145 = .ok (.goto (-88), 3) := by decide +kernel
theorem dX5_odds_148 : decode cX5_odds 148 = .ok (.iload 6, 2) := by decide +kernel
theorem dX5_odds_150 : decode cX5_odds 150 = .ok (.iload 7, 2) := by decide +kernel
theorem dX5_odds_152 : decode cX5_odds 152 = .ok (.invokestatic 160, 3) := by decide +kernel
theorem dX5_odds_155 : decode cX5_odds 155 = .ok (.istore 8, 2) := by decide +kernel
theorem dX5_odds_157 : decode cX5_odds 157 = .ok (.iload 4, 2) := by decide +kernel
theorem dX5_odds_159 : decode cX5_odds 159 = .ok (.ifCond .ne 11, 3) := by decide +kernel
theorem dX5_odds_162 : decode cX5_odds 162 = .ok (.iload 6, 2) := by decide +kernel
theorem dX5_odds_164 : decode cX5_odds 164 = .ok (.iload 8, 2) := by decide +kernel
theorem dX5_odds_166 : decode cX5_odds 166 = .ok (.idiv, 1) := by decide +kernel
theorem dX5_odds_167 : decode cX5_odds 167 = .ok (.goto 8, 3) := by decide +kernel
theorem dX5_odds_170 : decode cX5_odds 170 = .ok (.iload 7, 2) := by decide +kernel
theorem dX5_odds_172 : decode cX5_odds 172 = .ok (.iload 8, 2) := by decide +kernel
theorem dX5_odds_174 : decode cX5_odds 174 = .ok (.idiv, 1) := by decide +kernel
theorem dX5_odds_175 : decode cX5_odds 175 = .ok (.ireturn, 1) := by decide +kernel
set_option maxRecDepth 20000 in
theorem ggX5_hears_X5_isPlace : GoodIn wsX5_hears wsX5_isPlace := goodIn_r _ [7, 8, 9, 10, 6, 11, 12, 13, 14, 15, 16, 17, 18, 19, 20, 21, 22, 23, 24, 25, 26, 27, 28, 29, 30, 31, 32] (by decide +kernel) (by decide +kernel)
set_option maxRecDepth 20000 in
theorem gX5_hears_X5_isPlace : GoodIn wsX5_hears (wsV RX5 138 RX5 yX5_isPlace wsX5_isPlace) := goodIn_app (goodIn_of _ (by decide +kernel)) ggX5_hears_X5_isPlace
set_option maxRecDepth 20000 in
theorem ggX5_hears_X5_in : GoodIn wsX5_hears wsX5_in := goodIn_r _ [11] (by decide +kernel) (by decide +kernel)
set_option maxRecDepth 20000 in
theorem gX5_hears_X5_in : GoodIn wsX5_hears (va_wsS RX5 39 yX5_in wsX5_in) := goodIn_app (goodIn_of _ (by decide +kernel)) ggX5_hears_X5_in
theorem dX5_hears_0 : decode cX5_hears 0 = .ok (.aload_n 0, 1) := by decide +kernel
theorem dX5_hears_1 : decode cX5_hears 1 = .ok (.iload_n 1, 1) := by decide +kernel
theorem dX5_hears_2 : decode cX5_hears 2 = .ok (.invokevirtual 138, 3) := by decide +kernel
theorem dX5_hears_5 : decode cX5_hears 5 = .ok (.ifCond .eq 22, 3) := by decide +kernel
theorem dX5_hears_8 : decode cX5_hears 8 = .ok (.iload_n 2, 1) := by decide +kernel
theorem dX5_hears_9 : decode cX5_hears 9 = .ok (.iconst 0, 1) := by decide +kernel
theorem dX5_hears_10 : decode cX5_hears 10 = .ok (.bipush 99, 2) := by decide +kernel
theorem dX5_hears_12 : decode cX5_hears 12 = .ok (.invokestatic 39, 3) := by decide +kernel
theorem dX5_hears_15 : decode cX5_hears 15 = .ok (.ifCond .eq 12, 3) := by decide +kernel
theorem dX5_hears_18 : decode cX5_hears 18 = .ok (.iload_n 3, 1) := by decide +kernel
theorem dX5_hears_19 : decode cX5_hears 19 = .ok (.iconst 0, 1) := by decide +kernel
theorem dX5_hears_20 : decode cX5_hears 20 = .ok (.iconst 1, 1) := by decide +kernel
theorem dX5_hears_21 : decode cX5_hears 21 = .ok (.invokestatic 39, 3) := by decide +kernel
theorem dX5_hears_24 : decode cX5_hears 24 = .ok (.ifCond .ne 5, 3) := by decide +kernel
theorem dX5_hears_27 : decode cX5_hears 27 = .ok (.iconst (-1), 1) := by decide +kernel
theorem dX5_hears_28 : decode cX5_hears 28 = .ok (.ireturn, 1) := by decide +kernel
theorem dX5_hears_29 : decode cX5_hears 29 = .ok (.aload_n 0, 1) := by decide +kernel
theorem dX5_hears_30 : decode cX5_hears 30 = .ok (.getfield 98, 3) := by decide +kernel
theorem dX5_hears_33 : decode cX5_hears 33 = .ok (.bipush 6, 2) := by decide +kernel
theorem dX5_hears_35 : decode cX5_hears 35 = .ok (.if_icmp .ne 6, 3) := by decide +kernel
theorem dX5_hears_38 : decode cX5_hears 38 = .ok (.bipush (-3), 2) := by decide +kernel
theorem dX5_hears_40 : decode cX5_hears 40 = .ok (.ireturn, 1) := by decide +kernel
theorem dX5_hears_41 : decode cX5_hears 41 = .ok (.aload_n 0, 1) := by decide +kernel
theorem dX5_hears_42 : decode cX5_hears 42 = .ok (.getfield 33, 3) := by decide +kernel
theorem dX5_hears_45 : decode cX5_hears 45 = .ok (.iconst 3, 1) := by decide +kernel
theorem dX5_hears_46 : decode cX5_hears 46 = .ok (.aload_n 0, 1) := by decide +kernel
theorem dX5_hears_47 : decode cX5_hears 47 = .ok (.getfield 98, 3) := by decide +kernel
theorem dX5_hears_50 : decode cX5_hears 50 = .ok (.imul, 1) := by decide +kernel
theorem dX5_hears_51 : decode cX5_hears 51 = .ok (.iload_n 1, 1) := by decide +kernel
theorem dX5_hears_52 : decode cX5_hears 52 = .ok (.iastore, 1) := by decide +kernel
theorem dX5_hears_53 : decode cX5_hears 53 = .ok (.aload_n 0, 1) := by decide +kernel
theorem dX5_hears_54 : decode cX5_hears 54 = .ok (.getfield 33, 3) := by decide +kernel
theorem dX5_hears_57 : decode cX5_hears 57 = .ok (.iconst 3, 1) := by decide +kernel
theorem dX5_hears_58 : decode cX5_hears 58 = .ok (.aload_n 0, 1) := by decide +kernel
theorem dX5_hears_59 : decode cX5_hears 59 = .ok (.getfield 98, 3) := by decide +kernel
theorem dX5_hears_62 : decode cX5_hears 62 = .ok (.imul, 1) := by decide +kernel
theorem dX5_hears_63 : decode cX5_hears 63 = .ok (.iconst 1, 1) := by decide +kernel
theorem dX5_hears_64 : decode cX5_hears 64 = .ok (.iadd, 1) := by decide +kernel
theorem dX5_hears_65 : decode cX5_hears 65 = .ok (.iload_n 2, 1) := by decide +kernel
theorem dX5_hears_66 : decode cX5_hears 66 = .ok (.iastore, 1) := by decide +kernel
theorem dX5_hears_67 : decode cX5_hears 67 = .ok (.aload_n 0, 1) := by decide +kernel
theorem dX5_hears_68 : decode cX5_hears 68 = .ok (.getfield 33, 3) := by decide +kernel
theorem dX5_hears_71 : decode cX5_hears 71 = .ok (.iconst 3, 1) := by decide +kernel
theorem dX5_hears_72 : decode cX5_hears 72 = .ok (.aload_n 0, 1) := by decide +kernel
theorem dX5_hears_73 : decode cX5_hears 73 = .ok (.getfield 98, 3) := by decide +kernel
theorem dX5_hears_76 : decode cX5_hears 76 = .ok (.imul, 1) := by decide +kernel
theorem dX5_hears_77 : decode cX5_hears 77 = .ok (.iconst 2, 1) := by decide +kernel
theorem dX5_hears_78 : decode cX5_hears 78 = .ok (.iadd, 1) := by decide +kernel
theorem dX5_hears_79 : decode cX5_hears 79 = .ok (.iload_n 3, 1) := by decide +kernel
theorem dX5_hears_80 : decode cX5_hears 80 = .ok (.iastore, 1) := by decide +kernel
theorem dX5_hears_81 : decode cX5_hears 81 = .ok (.aload_n 0, 1) := by decide +kernel
theorem dX5_hears_82 : decode cX5_hears 82 = .ok (.dup, 1) := by decide +kernel
theorem dX5_hears_83 : decode cX5_hears 83 = .ok (.getfield 98, 3) := by decide +kernel
theorem dX5_hears_86 : decode cX5_hears 86 = .ok (.iconst 1, 1) := by decide +kernel
theorem dX5_hears_87 : decode cX5_hears 87 = .ok (.iadd, 1) := by decide +kernel
theorem dX5_hears_88 : decode cX5_hears 88 = .ok (.putfield 98, 3) := by decide +kernel
theorem dX5_hears_91 : decode cX5_hears 91 = .ok (.aload_n 0, 1) := by decide +kernel
theorem dX5_hears_92 : decode cX5_hears 92 = .ok (.getfield 98, 3) := by decide +kernel
theorem dX5_hears_95 : decode cX5_hears 95 = .ok (.ireturn, 1) := by decide +kernel
theorem dX5_forget_0 : decode cX5_forget 0 = .ok (.aload_n 0, 1) := by decide +kernel
theorem dX5_forget_1 : decode cX5_forget 1 = .ok (.getfield 98, 3) := by decide +kernel
theorem dX5_forget_4 : decode cX5_forget 4 = .ok (.istore_n 1, 1) := by decide +kernel
theorem dX5_forget_5 : decode cX5_forget 5 = .ok (.aload_n 0, 1) := by decide +kernel
theorem dX5_forget_6 : decode cX5_forget 6 = .ok (.iconst 0, 1) := by decide +kernel
theorem dX5_forget_7 : decode cX5_forget 7 = .ok (.putfield 98, 3) := by decide +kernel
theorem dX5_forget_10 : decode cX5_forget 10 = .ok (.iload_n 1, 1) := by decide +kernel
theorem dX5_forget_11 : decode cX5_forget 11 = .ok (.ireturn, 1) := by decide +kernel
set_option maxRecDepth 20000 in
theorem ggX5_fits_X5_guessAt : GoodIn wsX5_fits wsX5_guessAt := goodIn_r _ [7, 8, 9, 10, 6, 11, 12, 13, 14, 15, 16, 17, 18, 19, 20, 21, 22, 23, 24, 25, 26, 27, 28, 29, 30, 31, 32, 33, 34, 35, 36, 37] (by decide +kernel) (by decide +kernel)
set_option maxRecDepth 20000 in
theorem gX5_fits_X5_guessAt : GoodIn wsX5_fits (wsV RX5 163 RX5 yX5_guessAt wsX5_guessAt) := goodIn_app (goodIn_of _ (by decide +kernel)) ggX5_fits_X5_guessAt
theorem dX5_fits_0 : decode cX5_fits 0 = .ok (.iconst 1, 1) := by decide +kernel
theorem dX5_fits_1 : decode cX5_fits 1 = .ok (.istore_n 2, 1) := by decide +kernel
theorem dX5_fits_2 : decode cX5_fits 2 = .ok (.iconst 0, 1) := by decide +kernel
theorem dX5_fits_3 : decode cX5_fits 3 = .ok (.istore_n 3, 1) := by decide +kernel
theorem dX5_fits_4 : decode cX5_fits 4 = .ok (.iload_n 3, 1) := by decide +kernel
theorem dX5_fits_5 : decode cX5_fits 5 = .ok (.aload_n 0, 1) := by decide +kernel
theorem dX5_fits_6 : decode cX5_fits 6 = .ok (.getfield 98, 3) := by decide +kernel
theorem dX5_fits_9 : decode cX5_fits 9 = .ok (.if_icmp .ge 72, 3) := by decide +kernel
theorem dX5_fits_12 : decode cX5_fits 12 = .ok (.iload_n 2, 1) := by decide +kernel
theorem dX5_fits_13 : decode cX5_fits 13 = .ok (.ifCond .eq 60, 3) := by decide +kernel
theorem dX5_fits_16 : decode cX5_fits 16 = .ok (.aload_n 0, 1) := by decide +kernel
theorem dX5_fits_17 : decode cX5_fits 17 = .ok (.iload_n 1, 1) := by decide +kernel
theorem dX5_fits_18 : decode cX5_fits 18 = .ok (.aload_n 0, 1) := by decide +kernel
theorem dX5_fits_19 : decode cX5_fits 19 = .ok (.getfield 33, 3) := by decide +kernel
theorem dX5_fits_22 : decode cX5_fits 22 = .ok (.iconst 3, 1) := by decide +kernel
theorem dX5_fits_23 : decode cX5_fits 23 = .ok (.iload_n 3, 1) := by decide +kernel
theorem dX5_fits_24 : decode cX5_fits 24 = .ok (.imul, 1) := by decide +kernel
theorem dX5_fits_25 : decode cX5_fits 25 = .ok (.iconst 1, 1) := by decide +kernel
theorem dX5_fits_26 : decode cX5_fits 26 = .ok (.iadd, 1) := by decide +kernel
theorem dX5_fits_27 : decode cX5_fits 27 = .ok (.iaload, 1) := by decide +kernel
theorem dX5_fits_28 : decode cX5_fits 28 = .ok (.invokevirtual 163, 3) := by decide +kernel
theorem dX5_fits_31 : decode cX5_fits 31 = .ok (.aload_n 0, 1) := by decide +kernel
theorem dX5_fits_32 : decode cX5_fits 32 = .ok (.getfield 33, 3) := by decide +kernel
theorem dX5_fits_35 : decode cX5_fits 35 = .ok (.iconst 3, 1) := by decide +kernel
theorem dX5_fits_36 : decode cX5_fits 36 = .ok (.iload_n 3, 1) := by decide +kernel
theorem dX5_fits_37 : decode cX5_fits 37 = .ok (.imul, 1) := by decide +kernel
theorem dX5_fits_38 : decode cX5_fits 38 = .ok (.iaload, 1) := by decide +kernel
theorem dX5_fits_39 : decode cX5_fits 39 = .ok (.if_icmp .ne 7, 3) := by decide +kernel
theorem dX5_fits_42 : decode cX5_fits 42 = .ok (.iconst 1, 1) := by decide +kernel
theorem dX5_fits_43 : decode cX5_fits 43 = .ok (.goto 4, 3) := by decide +kernel
theorem dX5_fits_46 : decode cX5_fits 46 = .ok (.iconst 0, 1) := by decide +kernel
theorem dX5_fits_47 : decode cX5_fits 47 = .ok (.aload_n 0, 1) := by decide +kernel
theorem dX5_fits_48 : decode cX5_fits 48 = .ok (.getfield 33, 3) := by decide +kernel
theorem dX5_fits_51 : decode cX5_fits 51 = .ok (.iconst 3, 1) := by decide +kernel
theorem dX5_fits_52 : decode cX5_fits 52 = .ok (.iload_n 3, 1) := by decide +kernel
theorem dX5_fits_53 : decode cX5_fits 53 = .ok (.imul, 1) := by decide +kernel
theorem dX5_fits_54 : decode cX5_fits 54 = .ok (.iconst 2, 1) := by decide +kernel
theorem dX5_fits_55 : decode cX5_fits 55 = .ok (.iadd, 1) := by decide +kernel
theorem dX5_fits_56 : decode cX5_fits 56 = .ok (.iaload, 1) := by decide +kernel
theorem dX5_fits_57 : decode cX5_fits 57 = .ok (.iconst 1, 1) := by decide +kernel
theorem dX5_fits_58 : decode cX5_fits 58 = .ok (.if_icmp .ne 7, 3) := by decide +kernel
theorem dX5_fits_61 : decode cX5_fits 61 = .ok (.iconst 1, 1) := by decide +kernel
theorem dX5_fits_62 : decode cX5_fits 62 = .ok (.goto 4, 3) := by decide +kernel
theorem dX5_fits_65 : decode cX5_fits 65 = .ok (.iconst 0, 1) := by decide +kernel
theorem dX5_fits_66 : decode cX5_fits 66 = .ok (.if_icmp .ne 7, 3) := by decide +kernel
theorem dX5_fits_69 : decode cX5_fits 69 = .ok (.iconst 1, 1) := by decide +kernel
theorem dX5_fits_70 : decode cX5_fits 70 = .ok (.goto 4, 3) := by decide +kernel
theorem dX5_fits_73 : decode cX5_fits 73 = .ok (.iconst 0, 1) := by decide +kernel
theorem dX5_fits_74 : decode cX5_fits 74 = .ok (.istore_n 2, 1) := by decide +kernel
theorem dX5_fits_75 : decode cX5_fits 75 = .ok (.iinc 3 1, 3) := by decide +kernel
theorem dX5_fits_78 : decode cX5_fits 78 = .ok (.goto (-74), 3) := by decide +kernel
theorem dX5_fits_81 : decode cX5_fits 81 = .ok (.iload_n 2, 1) := by decide +kernel
theorem dX5_fits_82 : decode cX5_fits 82 = .ok (.ireturn, 1) := by decide +kernel
set_option maxRecDepth 20000 in
theorem ggX5_guessAt_X5_placeBy : GoodIn wsX5_guessAt wsX5_placeBy := goodIn_r _ [5, 6, 7, 8, 4, 9, 10, 11, 12, 13, 14, 15, 16, 17, 18, 19, 20, 21, 22, 23, 24, 25, 26, 27, 28, 29, 30, 31] (by decide +kernel) (by decide +kernel)
set_option maxRecDepth 20000 in
theorem gX5_guessAt_X5_placeBy : GoodIn wsX5_guessAt (wsV RX5 108 RX5 yX5_placeBy wsX5_placeBy) := goodIn_app (goodIn_of _ (by decide +kernel)) ggX5_guessAt_X5_placeBy
theorem dX5_guessAt_0 : decode cX5_guessAt 0 = .ok (.aload_n 0, 1) := by decide +kernel
theorem dX5_guessAt_1 : decode cX5_guessAt 1 = .ok (.iload_n 1, 1) := by decide +kernel
theorem dX5_guessAt_2 : decode cX5_guessAt 2 = .ok (.bipush 12, 2) := by decide +kernel
theorem dX5_guessAt_4 : decode cX5_guessAt 4 = .ok (.idiv, 1) := by decide +kernel
theorem dX5_guessAt_5 : decode cX5_guessAt 5 = .ok (.iload_n 1, 1) := by decide +kernel
theorem dX5_guessAt_6 : decode cX5_guessAt 6 = .ok (.iconst 2, 1) := by decide +kernel
theorem dX5_guessAt_7 : decode cX5_guessAt 7 = .ok (.idiv, 1) := by decide +kernel
theorem dX5_guessAt_8 : decode cX5_guessAt 8 = .ok (.bipush 6, 2) := by decide +kernel
theorem dX5_guessAt_10 : decode cX5_guessAt 10 = .ok (.irem, 1) := by decide +kernel
theorem dX5_guessAt_11 : decode cX5_guessAt 11 = .ok (.iconst 1, 1) := by decide +kernel
theorem dX5_guessAt_12 : decode cX5_guessAt 12 = .ok (.iadd, 1) := by decide +kernel
theorem dX5_guessAt_13 : decode cX5_guessAt 13 = .ok (.iload_n 1, 1) := by decide +kernel
theorem dX5_guessAt_14 : decode cX5_guessAt 14 = .ok (.iconst 2, 1) := by decide +kernel
theorem dX5_guessAt_15 : decode cX5_guessAt 15 = .ok (.irem, 1) := by decide +kernel
theorem dX5_guessAt_16 : decode cX5_guessAt 16 = .ok (.iload_n 2, 1) := by decide +kernel
theorem dX5_guessAt_17 : decode cX5_guessAt 17 = .ok (.invokevirtual 108, 3) := by decide +kernel
theorem dX5_guessAt_20 : decode cX5_guessAt 20 = .ok (.ireturn, 1) := by decide +kernel
set_option maxRecDepth 20000 in
theorem ggX5_guesses_X5_in : GoodIn wsX5_guesses wsX5_in := goodIn_r _ [5] (by decide +kernel) (by decide +kernel)
set_option maxRecDepth 20000 in
theorem gX5_guesses_X5_in : GoodIn wsX5_guesses (va_wsS RX5 39 yX5_in wsX5_in) := goodIn_app (goodIn_of _ (by decide +kernel)) ggX5_guesses_X5_in
set_option maxRecDepth 20000 in
theorem ggX5_guesses_X5_fits : GoodIn wsX5_guesses wsX5_fits := goodIn_r _ [9, 10, 11, 12, 13, 14, 4, 15, 16, 17, 18, 19, 20, 21, 22, 23, 1, 24, 25, 26, 27, 28, 29, 30, 31, 32, 33, 34, 35, 36, 37, 38, 39, 40, 41, 42, 43, 44] (by decide +kernel) (by decide +kernel)
set_option maxRecDepth 20000 in
theorem gX5_guesses_X5_fits : GoodIn wsX5_guesses (wsV RX5 166 RX5 yX5_fits wsX5_fits) := goodIn_app (goodIn_of _ (by decide +kernel)) ggX5_guesses_X5_fits
theorem dX5_guesses_0 : decode cX5_guesses 0 = .ok (.iload_n 1, 1) := by decide +kernel
theorem dX5_guesses_1 : decode cX5_guesses 1 = .ok (.iconst 0, 1) := by decide +kernel
theorem dX5_guesses_2 : decode cX5_guesses 2 = .ok (.iconst 1, 1) := by decide +kernel
theorem dX5_guesses_3 : decode cX5_guesses 3 = .ok (.invokestatic 39, 3) := by decide +kernel
theorem dX5_guesses_6 : decode cX5_guesses 6 = .ok (.ifCond .ne 5, 3) := by decide +kernel
theorem dX5_guesses_9 : decode cX5_guesses 9 = .ok (.iconst (-1), 1) := by decide +kernel
theorem dX5_guesses_10 : decode cX5_guesses 10 = .ok (.ireturn, 1) := by decide +kernel
theorem dX5_guesses_11 : decode cX5_guesses 11 = .ok (.iconst 0, 1) := by decide +kernel
theorem dX5_guesses_12 : decode cX5_guesses 12 = .ok (.istore_n 2, 1) := by decide +kernel
theorem dX5_guesses_13 : decode cX5_guesses 13 = .ok (.bipush (-9), 2) := by decide +kernel
theorem dX5_guesses_15 : decode cX5_guesses 15 = .ok (.istore_n 3, 1) := by decide +kernel
theorem dX5_guesses_16 : decode cX5_guesses 16 = .ok (.bipush 12, 2) := by decide +kernel
theorem dX5_guesses_18 : decode cX5_guesses 18 = .ok (.aload_n 0, 1) := by decide +kernel
theorem dX5_guesses_19 : decode cX5_guesses 19 = .ok (.getfield 13, 3) := by decide +kernel
theorem dX5_guesses_22 : decode cX5_guesses 22 = .ok (.imul, 1) := by decide +kernel
theorem dX5_guesses_23 : decode cX5_guesses 23 = .ok (.iconst 1, 1) := by decide +kernel
theorem dX5_guesses_24 : decode cX5_guesses 24 = .ok (.isub, 1) := by decide +kernel
theorem dX5_guesses_25 : decode cX5_guesses 25 = .ok (.istore 4, 2) := by decide +kernel
theorem dX5_guesses_27 : decode cX5_guesses 27 = .ok (.iload 4, 2) := by decide +kernel
theorem dX5_guesses_29 : decode cX5_guesses 29 = .ok (.ifCond .lt 48, 3) := by decide +kernel
theorem dX5_guesses_32 : decode cX5_guesses 32 = .ok (.aload_n 0, 1) := by decide +kernel
theorem dX5_guesses_33 : decode cX5_guesses 33 = .ok (.iload 4, 2) := by decide +kernel
theorem dX5_guesses_35 : decode cX5_guesses 35 = .ok (.invokevirtual 166, 3) := by decide +kernel
theorem dX5_guesses_38 : decode cX5_guesses 38 = .ok (.ifCond .eq 33, 3) := by decide +kernel
theorem dX5_guesses_41 : decode cX5_guesses 41 = .ok (.iinc 2 1, 3) := by decide +kernel
theorem dX5_guesses_44 : decode cX5_guesses 44 = .ok (.bipush 100, 2) := by decide +kernel
theorem dX5_guesses_46 : decode cX5_guesses 46 = .ok (.iload 4, 2) := by decide +kernel
theorem dX5_guesses_48 : decode cX5_guesses 48 = .ok (.bipush 12, 2) := by decide +kernel
theorem dX5_guesses_50 : decode cX5_guesses 50 = .ok (.idiv, 1) := by decide +kernel
theorem dX5_guesses_51 : decode cX5_guesses 51 = .ok (.imul, 1) := by decide +kernel
theorem dX5_guesses_52 : decode cX5_guesses 52 = .ok (.bipush 10, 2) := by decide +kernel
theorem dX5_guesses_54 : decode cX5_guesses 54 = .ok (.iload 4, 2) := by decide +kernel
theorem dX5_guesses_56 : decode cX5_guesses 56 = .ok (.iconst 2, 1) := by decide +kernel
theorem dX5_guesses_57 : decode cX5_guesses 57 = .ok (.idiv, 1) := by decide +kernel
theorem dX5_guesses_58 : decode cX5_guesses 58 = .ok (.bipush 6, 2) := by decide +kernel
theorem dX5_guesses_60 : decode cX5_guesses 60 = .ok (.irem, 1) := by decide +kernel
theorem dX5_guesses_61 : decode cX5_guesses 61 = .ok (.iconst 1, 1) := by decide +kernel
theorem dX5_guesses_62 : decode cX5_guesses 62 = .ok (.iadd, 1) := by decide +kernel
theorem dX5_guesses_63 : decode cX5_guesses 63 = .ok (.imul, 1) := by decide +kernel
theorem dX5_guesses_64 : decode cX5_guesses 64 = .ok (.iadd, 1) := by decide +kernel
theorem dX5_guesses_65 : decode cX5_guesses 65 = .ok (.iload 4, 2) := by decide +kernel
theorem dX5_guesses_67 : decode cX5_guesses 67 = .ok (.iconst 2, 1) := by decide +kernel
theorem dX5_guesses_68 : decode cX5_guesses 68 = .ok (.irem, 1) := by decide +kernel
theorem dX5_guesses_69 : decode cX5_guesses 69 = .ok (.iadd, 1) := by decide +kernel
theorem dX5_guesses_70 : decode cX5_guesses 70 = .ok (.istore_n 3, 1) := by decide +kernel
theorem dX5_guesses_71 : decode cX5_guesses 71 = .ok (.iinc 4 (-1), 3) := by decide +kernel
theorem dX5_guesses_74 : decode cX5_guesses 74 = .ok (.goto (-47), 3) := by decide +kernel
theorem dX5_guesses_77 : decode cX5_guesses 77 = .ok (.iload_n 1, 1) := by decide +kernel
theorem dX5_guesses_78 : decode cX5_guesses 78 = .ok (.ifCond .ne 7, 3) := by decide +kernel
theorem dX5_guesses_81 : decode cX5_guesses 81 = .ok (.iload_n 2, 1) := by decide +kernel
theorem dX5_guesses_82 : decode cX5_guesses 82 = .ok (.goto 4, 3) := by decide +kernel
theorem dX5_guesses_85 : decode cX5_guesses 85 = .ok (.iload_n 3, 1) := by decide +kernel
theorem dX5_guesses_86 : decode cX5_guesses 86 = .ok (.ireturn, 1) := by decide +kernel
set_option maxRecDepth 20000 in
theorem ggX5_ask_X5_in : GoodIn wsX5_ask wsX5_in := goodIn_r _ [5] (by decide +kernel) (by decide +kernel)
set_option maxRecDepth 20000 in
theorem gX5_ask_X5_in : GoodIn wsX5_ask (va_wsS RX5 39 yX5_in wsX5_in) := goodIn_app (goodIn_of _ (by decide +kernel)) ggX5_ask_X5_in
set_option maxRecDepth 20000 in
theorem ggX5_ask_X5_guesses : GoodIn wsX5_ask wsX5_guesses := goodIn_r _ [9, 1, 2, 3, 4, 5, 10, 11, 12, 13, 14, 15, 16, 17, 18, 19, 20, 21, 22, 23, 24, 25, 26, 27, 28, 29, 30, 31, 32, 33, 34, 35, 36, 37, 38, 39, 40, 41, 42, 43, 44, 45, 46, 47, 48] (by decide +kernel) (by decide +kernel)
set_option maxRecDepth 20000 in
theorem gX5_ask_X5_guesses : GoodIn wsX5_ask (wsV RX5 169 RX5 yX5_guesses wsX5_guesses) := goodIn_app (goodIn_of _ (by decide +kernel)) ggX5_ask_X5_guesses
set_option maxRecDepth 20000 in
theorem ggX5_ask_X5_fits : GoodIn wsX5_ask wsX5_fits := goodIn_r _ [13, 14, 15, 16, 17, 18, 4, 19, 20, 21, 22, 23, 24, 25, 26, 27, 1, 28, 29, 30, 31, 32, 33, 34, 35, 36, 37, 38, 39, 40, 41, 42, 43, 44, 45, 46, 47, 48] (by decide +kernel) (by decide +kernel)
set_option maxRecDepth 20000 in
theorem gX5_ask_X5_fits : GoodIn wsX5_ask (wsV RX5 166 RX5 yX5_fits wsX5_fits) := goodIn_app (goodIn_of _ (by decide +kernel)) ggX5_ask_X5_fits
set_option maxRecDepth 20000 in
theorem ggX5_ask_X5_guessAt : GoodIn wsX5_ask wsX5_guessAt := goodIn_r _ [19, 20, 21, 22, 4, 23, 24, 25, 26, 27, 1, 28, 29, 30, 31, 32, 33, 34, 35, 36, 37, 38, 39, 40, 41, 42, 43, 44, 45, 46, 47, 48] (by decide +kernel) (by decide +kernel)
