set_option maxRecDepth 20000 in
theorem ggX0_init_X2_init : GoodIn wsX0_init wsX2_init := goodIn_r _ [14, 15, 2, 3, 10, 16, 17, 18, 19, 20, 21, 28, 29, 30, 31, 32, 33, 34, 35, 36, 37] (by decide +kernel) (by decide +kernel)
set_option maxRecDepth 20000 in
theorem gX0_init_X2_init_n20 : GoodIn wsX0_init (wsX2_init) := ggX0_init_X2_init
theorem dX0_init_0 : decode cX0_init 0 = .ok (.aload_n 0, 1) := by decide +kernel
theorem dX0_init_1 : decode cX0_init 1 = .ok (.invokespecial 3, 3) := by decide +kernel
theorem dX0_init_4 : decode cX0_init 4 = .ok (.aload_n 0, 1) := by decide +kernel
theorem dX0_init_5 : decode cX0_init 5 = .ok (.bipush 12, 2) := by decide +kernel
theorem dX0_init_7 : decode cX0_init 7 = .ok (.putfield 9, 3) := by decide +kernel
theorem dX0_init_10 : decode cX0_init 10 = .ok (.aload_n 0, 1) := by decide +kernel
theorem dX0_init_11 : decode cX0_init 11 = .ok (.iconst 1, 1) := by decide +kernel
theorem dX0_init_12 : decode cX0_init 12 = .ok (.putfield 15, 3) := by decide +kernel
theorem dX0_init_15 : decode cX0_init 15 = .ok (.aload_n 0, 1) := by decide +kernel
theorem dX0_init_16 : decode cX0_init 16 = .ok (.new 18, 3) := by decide +kernel
theorem dX0_init_19 : decode cX0_init 19 = .ok (.dup, 1) := by decide +kernel
theorem dX0_init_20 : decode cX0_init 20 = .ok (.invokespecial 20, 3) := by decide +kernel
theorem dX0_init_23 : decode cX0_init 23 = .ok (.putfield 21, 3) := by decide +kernel
theorem dX0_init_26 : decode cX0_init 26 = .ok (.aload_n 0, 1) := by decide +kernel
theorem dX0_init_27 : decode cX0_init 27 = .ok (.bipush 8, 2) := by decide +kernel
theorem dX0_init_29 : decode cX0_init 29 = .ok (.newarray .int, 2) := by decide +kernel
theorem dX0_init_31 : decode cX0_init 31 = .ok (.putfield 25, 3) := by decide +kernel
theorem dX0_init_34 : decode cX0_init 34 = .ok (.aload_n 0, 1) := by decide +kernel
theorem dX0_init_35 : decode cX0_init 35 = .ok (.bipush 8, 2) := by decide +kernel
theorem dX0_init_37 : decode cX0_init 37 = .ok (.newarray .int, 2) := by decide +kernel
theorem dX0_init_39 : decode cX0_init 39 = .ok (.putfield 29, 3) := by decide +kernel
theorem dX0_init_42 : decode cX0_init 42 = .ok (.return_, 1) := by decide +kernel
set_option maxRecDepth 20000 in
theorem ggX0_empty_X2_empty : GoodIn wsX0_empty wsX2_empty := goodIn_r _ [9, 10, 11, 12, 13, 20, 21, 22, 23, 24, 25, 26, 27, 28, 29] (by decide +kernel) (by decide +kernel)
set_option maxRecDepth 20000 in
theorem gX0_empty_X2_empty : GoodIn wsX0_empty (wsV RX0 35 RX2 yX2_empty wsX2_empty) := goodIn_app (goodIn_of _ (by decide +kernel)) ggX0_empty_X2_empty
theorem dX0_empty_0 : decode cX0_empty 0 = .ok (.aload_n 0, 1) := by decide +kernel
theorem dX0_empty_1 : decode cX0_empty 1 = .ok (.bipush 12, 2) := by decide +kernel
theorem dX0_empty_3 : decode cX0_empty 3 = .ok (.putfield 9, 3) := by decide +kernel
theorem dX0_empty_6 : decode cX0_empty 6 = .ok (.aload_n 0, 1) := by decide +kernel
theorem dX0_empty_7 : decode cX0_empty 7 = .ok (.iconst 1, 1) := by decide +kernel
theorem dX0_empty_8 : decode cX0_empty 8 = .ok (.putfield 15, 3) := by decide +kernel
theorem dX0_empty_11 : decode cX0_empty 11 = .ok (.aload_n 0, 1) := by decide +kernel
theorem dX0_empty_12 : decode cX0_empty 12 = .ok (.iconst 0, 1) := by decide +kernel
theorem dX0_empty_13 : decode cX0_empty 13 = .ok (.putfield 32, 3) := by decide +kernel
theorem dX0_empty_16 : decode cX0_empty 16 = .ok (.aload_n 0, 1) := by decide +kernel
theorem dX0_empty_17 : decode cX0_empty 17 = .ok (.getfield 21, 3) := by decide +kernel
theorem dX0_empty_20 : decode cX0_empty 20 = .ok (.invokevirtual 35, 3) := by decide +kernel
theorem dX0_empty_23 : decode cX0_empty 23 = .ok (.return_, 1) := by decide +kernel
set_option maxRecDepth 20000 in
theorem ggX0_hasPlace_X4_within : GoodIn wsX0_hasPlace wsX4_within := goodIn_r _ [4] (by decide +kernel) (by decide +kernel)
set_option maxRecDepth 20000 in
theorem gX0_hasPlace_X4_within_n38 : GoodIn wsX0_hasPlace (wsX4_within) := ggX0_hasPlace_X4_within
theorem dX0_hasPlace_0 : decode cX0_hasPlace 0 = .ok (.iload_n 1, 1) := by decide +kernel
theorem dX0_hasPlace_1 : decode cX0_hasPlace 1 = .ok (.iconst 0, 1) := by decide +kernel
theorem dX0_hasPlace_2 : decode cX0_hasPlace 2 = .ok (.aload_n 0, 1) := by decide +kernel
theorem dX0_hasPlace_3 : decode cX0_hasPlace 3 = .ok (.getfield 9, 3) := by decide +kernel
theorem dX0_hasPlace_6 : decode cX0_hasPlace 6 = .ok (.iconst 1, 1) := by decide +kernel
theorem dX0_hasPlace_7 : decode cX0_hasPlace 7 = .ok (.isub, 1) := by decide +kernel
theorem dX0_hasPlace_8 : decode cX0_hasPlace 8 = .ok (.invokestatic 38, 3) := by decide +kernel
theorem dX0_hasPlace_11 : decode cX0_hasPlace 11 = .ok (.ireturn, 1) := by decide +kernel
set_option maxRecDepth 20000 in
theorem ggX0_hasSaying_X4_within : GoodIn wsX0_hasSaying wsX4_within := goodIn_r _ [5] (by decide +kernel) (by decide +kernel)
set_option maxRecDepth 20000 in
theorem gX0_hasSaying_X4_within_n38 : GoodIn wsX0_hasSaying (wsX4_within) := ggX0_hasSaying_X4_within
theorem dX0_hasSaying_0 : decode cX0_hasSaying 0 = .ok (.iload_n 1, 1) := by decide +kernel
theorem dX0_hasSaying_1 : decode cX0_hasSaying 1 = .ok (.iconst 0, 1) := by decide +kernel
theorem dX0_hasSaying_2 : decode cX0_hasSaying 2 = .ok (.aload_n 0, 1) := by decide +kernel
theorem dX0_hasSaying_3 : decode cX0_hasSaying 3 = .ok (.getfield 21, 3) := by decide +kernel
theorem dX0_hasSaying_6 : decode cX0_hasSaying 6 = .ok (.getfield 42, 3) := by decide +kernel
theorem dX0_hasSaying_9 : decode cX0_hasSaying 9 = .ok (.iconst 1, 1) := by decide +kernel
theorem dX0_hasSaying_10 : decode cX0_hasSaying 10 = .ok (.isub, 1) := by decide +kernel
theorem dX0_hasSaying_11 : decode cX0_hasSaying 11 = .ok (.invokestatic 38, 3) := by decide +kernel
theorem dX0_hasSaying_14 : decode cX0_hasSaying 14 = .ok (.ireturn, 1) := by decide +kernel
theorem dX0_isNiche_0 : decode cX0_isNiche 0 = .ok (.aload_n 0, 1) := by decide +kernel
theorem dX0_isNiche_1 : decode cX0_isNiche 1 = .ok (.getfield 32, 3) := by decide +kernel
theorem dX0_isNiche_4 : decode cX0_isNiche 4 = .ok (.iload_n 1, 1) := by decide +kernel
theorem dX0_isNiche_5 : decode cX0_isNiche 5 = .ok (.ishr, 1) := by decide +kernel
theorem dX0_isNiche_6 : decode cX0_isNiche 6 = .ok (.iconst 1, 1) := by decide +kernel
theorem dX0_isNiche_7 : decode cX0_isNiche 7 = .ok (.iand, 1) := by decide +kernel
theorem dX0_isNiche_8 : decode cX0_isNiche 8 = .ok (.iconst 1, 1) := by decide +kernel
theorem dX0_isNiche_9 : decode cX0_isNiche 9 = .ok (.if_icmp .ne 7, 3) := by decide +kernel
theorem dX0_isNiche_12 : decode cX0_isNiche 12 = .ok (.iconst 1, 1) := by decide +kernel
theorem dX0_isNiche_13 : decode cX0_isNiche 13 = .ok (.goto 4, 3) := by decide +kernel
theorem dX0_isNiche_16 : decode cX0_isNiche 16 = .ok (.iconst 0, 1) := by decide +kernel
theorem dX0_isNiche_17 : decode cX0_isNiche 17 = .ok (.ireturn, 1) := by decide +kernel
set_option maxRecDepth 20000 in
theorem ggX0_reach_J9_floorMod_7cf53 : GoodIn wsX0_reach wsJ9_floorMod_7cf53 := goodIn_r _ [5] (by decide +kernel) (by decide +kernel)
set_option maxRecDepth 20000 in
theorem gX0_reach_J9_floorMod_7cf53 : GoodIn wsX0_reach (va_wsS RX0 45 yJ9_floorMod_7cf53 wsJ9_floorMod_7cf53) := goodIn_app (goodIn_of _ (by decide +kernel)) ggX0_reach_J9_floorMod_7cf53
theorem dX0_reach_0 : decode cX0_reach 0 = .ok (.iload_n 2, 1) := by decide +kernel
theorem dX0_reach_1 : decode cX0_reach 1 = .ok (.ifCond .ne 9, 3) := by decide +kernel
theorem dX0_reach_4 : decode cX0_reach 4 = .ok (.iload_n 1, 1) := by decide +kernel
theorem dX0_reach_5 : decode cX0_reach 5 = .ok (.iload_n 3, 1) := by decide +kernel
theorem dX0_reach_6 : decode cX0_reach 6 = .ok (.iadd, 1) := by decide +kernel
theorem dX0_reach_7 : decode cX0_reach 7 = .ok (.goto 6, 3) := by decide +kernel
theorem dX0_reach_10 : decode cX0_reach 10 = .ok (.iload_n 1, 1) := by decide +kernel
theorem dX0_reach_11 : decode cX0_reach 11 = .ok (.iload_n 3, 1) := by decide +kernel
theorem dX0_reach_12 : decode cX0_reach 12 = .ok (.isub, 1) := by decide +kernel
theorem dX0_reach_13 : decode cX0_reach 13 = .ok (.istore 4, 2) := by decide +kernel
theorem dX0_reach_15 : decode cX0_reach 15 = .ok (.aload_n 0, 1) := by decide +kernel
theorem dX0_reach_16 : decode cX0_reach 16 = .ok (.getfield 9, 3) := by decide +kernel
theorem dX0_reach_19 : decode cX0_reach 19 = .ok (.ifCond .le 15, 3) := by decide +kernel
theorem dX0_reach_22 : decode cX0_reach 22 = .ok (.iload 4, 2) := by decide +kernel
theorem dX0_reach_24 : decode cX0_reach 24 = .ok (.aload_n 0, 1) := by decide +kernel
theorem dX0_reach_25 : decode cX0_reach 25 = .ok (.getfield 9, 3) := by decide +kernel
theorem dX0_reach_28 : decode cX0_reach 28 = .ok (.invokestatic 45, 3) := by decide +kernel
theorem dX0_reach_31 : decode cX0_reach 31 = .ok (.goto 4, 3) := by decide +kernel
theorem dX0_reach_34 : decode cX0_reach 34 = .ok (.iconst 0, 1) := by decide +kernel
theorem dX0_reach_35 : decode cX0_reach 35 = .ok (.ireturn, 1) := by decide +kernel
theorem dX0_lapsOf_0 : decode cX0_lapsOf 0 = .ok (.aload_n 0, 1) := by decide +kernel
theorem dX0_lapsOf_1 : decode cX0_lapsOf 1 = .ok (.getfield 9, 3) := by decide +kernel
theorem dX0_lapsOf_4 : decode cX0_lapsOf 4 = .ok (.ifCond .le 12, 3) := by decide +kernel
theorem dX0_lapsOf_7 : decode cX0_lapsOf 7 = .ok (.iload_n 1, 1) := by decide +kernel
theorem dX0_lapsOf_8 : decode cX0_lapsOf 8 = .ok (.aload_n 0, 1) := by decide +kernel
theorem dX0_lapsOf_9 : decode cX0_lapsOf 9 = .ok (.getfield 9, 3) := by decide +kernel
theorem dX0_lapsOf_12 : decode cX0_lapsOf 12 = .ok (.idiv, 1) := by decide +kernel
theorem dX0_lapsOf_13 : decode cX0_lapsOf 13 = .ok (.goto 4, 3) := by decide +kernel
theorem dX0_lapsOf_16 : decode cX0_lapsOf 16 = .ok (.iconst 0, 1) := by decide +kernel
theorem dX0_lapsOf_17 : decode cX0_lapsOf 17 = .ok (.ireturn, 1) := by decide +kernel
set_option maxRecDepth 20000 in
theorem ggX0_strengthLeft_X0_lapsOf : GoodIn wsX0_strengthLeft wsX0_lapsOf := goodIn_r _ [10, 11, 12, 13, 14, 15, 16, 17] (by decide +kernel) (by decide +kernel)
set_option maxRecDepth 20000 in
theorem gX0_strengthLeft_X0_lapsOf : GoodIn wsX0_strengthLeft (wsV RX0 51 RX0 yX0_lapsOf wsX0_lapsOf) := goodIn_app (goodIn_of _ (by decide +kernel)) ggX0_strengthLeft_X0_lapsOf
theorem dX0_strengthLeft_0 : decode cX0_strengthLeft 0 = .ok (.iconst 0, 1) := by decide +kernel
theorem dX0_strengthLeft_1 : decode cX0_strengthLeft 1 = .ok (.iload_n 1, 1) := by decide +kernel
theorem dX0_strengthLeft_2 : decode cX0_strengthLeft 2 = .ok (.aload_n 0, 1) := by decide +kernel
theorem dX0_strengthLeft_3 : decode cX0_strengthLeft 3 = .ok (.getfield 15, 3) := by decide +kernel
theorem dX0_strengthLeft_6 : decode cX0_strengthLeft 6 = .ok (.aload_n 0, 1) := by decide +kernel
theorem dX0_strengthLeft_7 : decode cX0_strengthLeft 7 = .ok (.iload_n 2, 1) := by decide +kernel
theorem dX0_strengthLeft_8 : decode cX0_strengthLeft 8 = .ok (.invokevirtual 51, 3) := by decide +kernel
theorem dX0_strengthLeft_11 : decode cX0_strengthLeft 11 = .ok (.imul, 1) := by decide +kernel
theorem dX0_strengthLeft_12 : decode cX0_strengthLeft 12 = .ok (.isub, 1) := by decide +kernel
theorem dX0_strengthLeft_13 : decode cX0_strengthLeft 13 = .ok (.invokestatic 55, 3) := by decide +kernel
theorem dX0_strengthLeft_16 : decode cX0_strengthLeft 16 = .ok (.ireturn, 1) := by decide +kernel
theorem dX0_goneAfter_0 : decode cX0_goneAfter 0 = .ok (.aload_n 0, 1) := by decide +kernel
theorem dX0_goneAfter_1 : decode cX0_goneAfter 1 = .ok (.getfield 21, 3) := by decide +kernel
theorem dX0_goneAfter_4 : decode cX0_goneAfter 4 = .ok (.getfield 58, 3) := by decide +kernel
theorem dX0_goneAfter_7 : decode cX0_goneAfter 7 = .ok (.iload_n 1, 1) := by decide +kernel
theorem dX0_goneAfter_8 : decode cX0_goneAfter 8 = .ok (.iaload, 1) := by decide +kernel
theorem dX0_goneAfter_9 : decode cX0_goneAfter 9 = .ok (.aload_n 0, 1) := by decide +kernel
theorem dX0_goneAfter_10 : decode cX0_goneAfter 10 = .ok (.getfield 21, 3) := by decide +kernel
theorem dX0_goneAfter_13 : decode cX0_goneAfter 13 = .ok (.getfield 61, 3) := by decide +kernel
theorem dX0_goneAfter_16 : decode cX0_goneAfter 16 = .ok (.iload_n 2, 1) := by decide +kernel
theorem dX0_goneAfter_17 : decode cX0_goneAfter 17 = .ok (.iadd, 1) := by decide +kernel
theorem dX0_goneAfter_18 : decode cX0_goneAfter 18 = .ok (.aload_n 0, 1) := by decide +kernel
theorem dX0_goneAfter_19 : decode cX0_goneAfter 19 = .ok (.getfield 21, 3) := by decide +kernel
theorem dX0_goneAfter_22 : decode cX0_goneAfter 22 = .ok (.getfield 64, 3) := by decide +kernel
theorem dX0_goneAfter_25 : decode cX0_goneAfter 25 = .ok (.iload_n 1, 1) := by decide +kernel
theorem dX0_goneAfter_26 : decode cX0_goneAfter 26 = .ok (.iaload, 1) := by decide +kernel
theorem dX0_goneAfter_27 : decode cX0_goneAfter 27 = .ok (.isub, 1) := by decide +kernel
theorem dX0_goneAfter_28 : decode cX0_goneAfter 28 = .ok (.imul, 1) := by decide +kernel
theorem dX0_goneAfter_29 : decode cX0_goneAfter 29 = .ok (.ireturn, 1) := by decide +kernel
set_option maxRecDepth 20000 in
theorem ggX0_placeAfter_X0_goneAfter : GoodIn wsX0_placeAfter wsX0_goneAfter := goodIn_r _ [8, 1, 9, 10, 11, 21, 22, 23, 24, 25, 26, 27, 28, 29, 30, 31, 32, 33, 34, 35, 36] (by decide +kernel) (by decide +kernel)
set_option maxRecDepth 20000 in
theorem gX0_placeAfter_X0_goneAfter : GoodIn wsX0_placeAfter (wsV RX0 73 RX0 yX0_goneAfter wsX0_goneAfter) := goodIn_app (goodIn_of _ (by decide +kernel)) ggX0_placeAfter_X0_goneAfter
set_option maxRecDepth 20000 in
theorem ggX0_placeAfter_X0_reach : GoodIn wsX0_placeAfter wsX0_reach := goodIn_r _ [15, 16, 17, 18, 19, 20, 21, 22, 23, 24, 25, 26] (by decide +kernel) (by decide +kernel)
set_option maxRecDepth 20000 in
theorem gX0_placeAfter_X0_reach : GoodIn wsX0_placeAfter (wsV RX0 76 RX0 yX0_reach wsX0_reach) := goodIn_app (goodIn_of _ (by decide +kernel)) ggX0_placeAfter_X0_reach
theorem dX0_placeAfter_0 : decode cX0_placeAfter 0 = .ok (.aload_n 0, 1) := by decide +kernel
theorem dX0_placeAfter_1 : decode cX0_placeAfter 1 = .ok (.aload_n 0, 1) := by decide +kernel
theorem dX0_placeAfter_2 : decode cX0_placeAfter 2 = .ok (.getfield 21, 3) := by decide +kernel
theorem dX0_placeAfter_5 : decode cX0_placeAfter 5 = .ok (.getfield 67, 3) := by decide +kernel
theorem dX0_placeAfter_8 : decode cX0_placeAfter 8 = .ok (.iload_n 1, 1) := by decide +kernel
theorem dX0_placeAfter_9 : decode cX0_placeAfter 9 = .ok (.iaload, 1) := by decide +kernel
theorem dX0_placeAfter_10 : decode cX0_placeAfter 10 = .ok (.aload_n 0, 1) := by decide +kernel
theorem dX0_placeAfter_11 : decode cX0_placeAfter 11 = .ok (.getfield 21, 3) := by decide +kernel
theorem dX0_placeAfter_14 : decode cX0_placeAfter 14 = .ok (.getfield 70, 3) := by decide +kernel
theorem dX0_placeAfter_17 : decode cX0_placeAfter 17 = .ok (.iload_n 1, 1) := by decide +kernel
theorem dX0_placeAfter_18 : decode cX0_placeAfter 18 = .ok (.iaload, 1) := by decide +kernel
theorem dX0_placeAfter_19 : decode cX0_placeAfter 19 = .ok (.aload_n 0, 1) := by decide +kernel
theorem dX0_placeAfter_20 : decode cX0_placeAfter 20 = .ok (.iload_n 1, 1) := by decide +kernel
theorem dX0_placeAfter_21 : decode cX0_placeAfter 21 = .ok (.iload_n 2, 1) := by decide +kernel
theorem dX0_placeAfter_22 : decode cX0_placeAfter 22 = .ok (.invokevirtual 73, 3) := by decide +kernel
theorem dX0_placeAfter_25 : decode cX0_placeAfter 25 = .ok (.invokevirtual 76, 3) := by decide +kernel
theorem dX0_placeAfter_28 : decode cX0_placeAfter 28 = .ok (.ireturn, 1) := by decide +kernel
set_option maxRecDepth 20000 in
theorem ggX0_lapsAfter_X0_goneAfter : GoodIn wsX0_lapsAfter wsX0_goneAfter := goodIn_r _ [5, 6, 7, 8, 9, 15, 16, 17, 18, 19, 20, 21, 22, 23, 24, 25, 26, 27, 28, 29, 30] (by decide +kernel) (by decide +kernel)
set_option maxRecDepth 20000 in
theorem gX0_lapsAfter_X0_goneAfter : GoodIn wsX0_lapsAfter (wsV RX0 73 RX0 yX0_goneAfter wsX0_goneAfter) := goodIn_app (goodIn_of _ (by decide +kernel)) ggX0_lapsAfter_X0_goneAfter
set_option maxRecDepth 20000 in
theorem ggX0_lapsAfter_X0_lapsOf : GoodIn wsX0_lapsAfter wsX0_lapsOf := goodIn_r _ [13, 14, 15, 16, 17, 18, 19, 20] (by decide +kernel) (by decide +kernel)
set_option maxRecDepth 20000 in
theorem gX0_lapsAfter_X0_lapsOf : GoodIn wsX0_lapsAfter (wsV RX0 51 RX0 yX0_lapsOf wsX0_lapsOf) := goodIn_app (goodIn_of _ (by decide +kernel)) ggX0_lapsAfter_X0_lapsOf
theorem dX0_lapsAfter_0 : decode cX0_lapsAfter 0 = .ok (.aload_n 0, 1) := by decide +kernel
theorem dX0_lapsAfter_1 : decode cX0_lapsAfter 1 = .ok (.aload_n 0, 1) := by decide +kernel
theorem dX0_lapsAfter_2 : decode cX0_lapsAfter 2 = .ok (.iload_n 1, 1) := by decide +kernel
theorem dX0_lapsAfter_3 : decode cX0_lapsAfter 3 = .ok (.iload_n 2, 1) := by decide +kernel
theorem dX0_lapsAfter_4 : decode cX0_lapsAfter 4 = .ok (.invokevirtual 73, 3) := by decide +kernel
theorem dX0_lapsAfter_7 : decode cX0_lapsAfter 7 = .ok (.invokevirtual 51, 3) := by decide +kernel
theorem dX0_lapsAfter_10 : decode cX0_lapsAfter 10 = .ok (.ireturn, 1) := by decide +kernel
set_option maxRecDepth 20000 in
theorem ggX0_strengthAfter_X2_isHushed : GoodIn wsX0_strengthAfter wsX2_isHushed := goodIn_r _ [7, 8, 37, 38, 39, 40, 41, 42, 43, 44, 45, 46] (by decide +kernel) (by decide +kernel)
set_option maxRecDepth 20000 in
theorem gX0_strengthAfter_X2_isHushed : GoodIn wsX0_strengthAfter (wsV RX0 80 RX2 yX2_isHushed wsX2_isHushed) := goodIn_app (goodIn_of _ (by decide +kernel)) ggX0_strengthAfter_X2_isHushed
set_option maxRecDepth 20000 in
theorem ggX0_strengthAfter_X0_goneAfter : GoodIn wsX0_strengthAfter wsX0_goneAfter := goodIn_r _ [13, 1, 14, 15, 16, 31, 32, 33, 34, 35, 36, 37, 38, 39, 40, 41, 42, 43, 44, 45, 46] (by decide +kernel) (by decide +kernel)
set_option maxRecDepth 20000 in
theorem gX0_strengthAfter_X0_goneAfter : GoodIn wsX0_strengthAfter (wsV RX0 73 RX0 yX0_goneAfter wsX0_goneAfter) := goodIn_app (goodIn_of _ (by decide +kernel)) ggX0_strengthAfter_X0_goneAfter
set_option maxRecDepth 20000 in
theorem ggX0_strengthAfter_X0_strengthLeft : GoodIn wsX0_strengthAfter wsX0_strengthLeft := goodIn_r _ [20, 21, 22, 23, 24, 25, 26, 27, 28, 12, 29, 30, 31, 32, 33, 34, 35, 36] (by decide +kernel) (by decide +kernel)
set_option maxRecDepth 20000 in
theorem gX0_strengthAfter_X0_strengthLeft : GoodIn wsX0_strengthAfter (wsV RX0 87 RX0 yX0_strengthLeft wsX0_strengthLeft) := goodIn_app (goodIn_of _ (by decide +kernel)) ggX0_strengthAfter_X0_strengthLeft
theorem dX0_strengthAfter_0 : decode cX0_strengthAfter 0 = .ok (.aload_n 0, 1) := by decide +kernel
theorem dX0_strengthAfter_1 : decode cX0_strengthAfter 1 = .ok (.getfield 21, 3) := by decide +kernel
theorem dX0_strengthAfter_4 : decode cX0_strengthAfter 4 = .ok (.iload_n 1, 1) := by decide +kernel
theorem dX0_strengthAfter_5 : decode cX0_strengthAfter 5 = .ok (.invokevirtual 80, 3) := by decide +kernel
theorem dX0_strengthAfter_8 : decode cX0_strengthAfter 8 = .ok (.ifCond .eq 7, 3) := by decide +kernel
theorem dX0_strengthAfter_11 : decode cX0_strengthAfter 11 = .ok (.iconst 0, 1) := by decide +kernel
theorem dX0_strengthAfter_12 : decode cX0_strengthAfter 12 = .ok (.goto 22, 3) := by decide +kernel
theorem dX0_strengthAfter_15 : decode cX0_strengthAfter 15 = .ok (.aload_n 0, 1) := by decide +kernel
theorem dX0_strengthAfter_16 : decode cX0_strengthAfter 16 = .ok (.aload_n 0, 1) := by decide +kernel
theorem dX0_strengthAfter_17 : decode cX0_strengthAfter 17 = .ok (.getfield 21, 3) := by decide +kernel
theorem dX0_strengthAfter_20 : decode cX0_strengthAfter 20 = .ok (.getfield 84, 3) := by decide +kernel
theorem dX0_strengthAfter_23 : decode cX0_strengthAfter 23 = .ok (.iload_n 1, 1) := by decide +kernel
theorem dX0_strengthAfter_24 : decode cX0_strengthAfter 24 = .ok (.iaload, 1) := by decide +kernel
theorem dX0_strengthAfter_25 : decode cX0_strengthAfter 25 = .ok (.aload_n 0, 1) := by decide +kernel
theorem dX0_strengthAfter_26 : decode cX0_strengthAfter 26 = .ok (.iload_n 1, 1) := by decide +kernel
theorem dX0_strengthAfter_27 : decode cX0_strengthAfter 27 = .ok (.iload_n 2, 1) := by decide +kernel
theorem dX0_strengthAfter_28 : decode cX0_strengthAfter 28 = .ok (.invokevirtual 73, 3) := by decide +kernel
theorem dX0_strengthAfter_31 : decode cX0_strengthAfter 31 = .ok (.invokevirtual 87, 3) := by decide +kernel
theorem dX0_strengthAfter_34 : decode cX0_strengthAfter 34 = .ok (.ireturn, 1) := by decide +kernel
set_option maxRecDepth 20000 in
theorem ggX0_sounds_X0_placeAfter : GoodIn wsX0_sounds wsX0_placeAfter := goodIn_r _ [5, 6, 7, 8, 9, 10, 11, 4, 12, 13, 14, 15, 16, 17, 18, 19, 20, 21, 22, 23, 24, 49, 50, 51, 52, 53, 54, 55, 56, 57, 58, 59, 60, 61, 62, 63, 64] (by decide +kernel) (by decide +kernel)
set_option maxRecDepth 20000 in
theorem gX0_sounds_X0_placeAfter : GoodIn wsX0_sounds (wsV RX0 90 RX0 yX0_placeAfter wsX0_placeAfter) := goodIn_app (goodIn_of _ (by decide +kernel)) ggX0_sounds_X0_placeAfter
set_option maxRecDepth 20000 in
theorem ggX0_sounds_X0_strengthAfter : GoodIn wsX0_sounds wsX0_strengthAfter := goodIn_r _ [28, 6, 29, 30, 31, 32, 33, 34, 35, 9, 10, 11, 4, 12, 13, 14, 15, 36, 37, 38, 39, 40, 41, 42, 43, 44, 45, 46, 47, 48, 20, 49, 50, 51, 52, 53, 54, 55, 56, 57, 58, 59, 60, 61, 62, 63, 64] (by decide +kernel) (by decide +kernel)
set_option maxRecDepth 20000 in
theorem gX0_sounds_X0_strengthAfter : GoodIn wsX0_sounds (wsV RX0 93 RX0 yX0_strengthAfter wsX0_strengthAfter) := goodIn_app (goodIn_of _ (by decide +kernel)) ggX0_sounds_X0_strengthAfter
theorem dX0_sounds_0 : decode cX0_sounds 0 = .ok (.aload_n 0, 1) := by decide +kernel
theorem dX0_sounds_1 : decode cX0_sounds 1 = .ok (.iload_n 1, 1) := by decide +kernel
theorem dX0_sounds_2 : decode cX0_sounds 2 = .ok (.iload_n 3, 1) := by decide +kernel
theorem dX0_sounds_3 : decode cX0_sounds 3 = .ok (.invokevirtual 90, 3) := by decide +kernel
theorem dX0_sounds_6 : decode cX0_sounds 6 = .ok (.iload_n 2, 1) := by decide +kernel
theorem dX0_sounds_7 : decode cX0_sounds 7 = .ok (.if_icmp .ne 16, 3) := by decide +kernel
theorem dX0_sounds_10 : decode cX0_sounds 10 = .ok (.aload_n 0, 1) := by decide +kernel
theorem dX0_sounds_11 : decode cX0_sounds 11 = .ok (.iload_n 1, 1) := by decide +kernel
theorem dX0_sounds_12 : decode cX0_sounds 12 = .ok (.iload_n 3, 1) := by decide +kernel
theorem dX0_sounds_13 : decode cX0_sounds 13 = .ok (.invokevirtual 93, 3) := by decide +kernel
theorem dX0_sounds_16 : decode cX0_sounds 16 = .ok (.ifCond .le 7, 3) := by decide +kernel
theorem dX0_sounds_19 : decode cX0_sounds 19 = .ok (.iconst 1, 1) := by decide +kernel
theorem dX0_sounds_20 : decode cX0_sounds 20 = .ok (.goto 4, 3) := by decide +kernel
theorem dX0_sounds_23 : decode cX0_sounds 23 = .ok (.iconst 0, 1) := by decide +kernel
theorem dX0_sounds_24 : decode cX0_sounds 24 = .ok (.ireturn, 1) := by decide +kernel
set_option maxRecDepth 20000 in
theorem ggX0_listen_X0_placeAfter : GoodIn wsX0_listen wsX0_placeAfter := goodIn_r _ [9, 1, 10, 11, 12, 13, 14, 8, 15, 16, 17, 18, 19, 20, 21, 22, 23, 24, 25, 26, 27, 52, 53, 54, 55, 56, 57, 58, 59, 60, 61, 62, 63, 64, 65, 66, 67] (by decide +kernel) (by decide +kernel)
set_option maxRecDepth 20000 in
theorem gX0_listen_X0_placeAfter : GoodIn wsX0_listen (wsV RX0 90 RX0 yX0_placeAfter wsX0_placeAfter) := goodIn_app (goodIn_of _ (by decide +kernel)) ggX0_listen_X0_placeAfter
set_option maxRecDepth 20000 in
theorem ggX0_listen_X0_strengthAfter : GoodIn wsX0_listen wsX0_strengthAfter := goodIn_r _ [31, 1, 32, 33, 34, 35, 36, 37, 38, 12, 13, 14, 8, 15, 16, 17, 18, 39, 40, 41, 42, 43, 44, 45, 46, 47, 48, 49, 50, 51, 23, 52, 53, 54, 55, 56, 57, 58, 59, 60, 61, 62, 63, 64, 65, 66, 67] (by decide +kernel) (by decide +kernel)
set_option maxRecDepth 20000 in
theorem gX0_listen_X0_strengthAfter : GoodIn wsX0_listen (wsV RX0 93 RX0 yX0_strengthAfter wsX0_strengthAfter) := goodIn_app (goodIn_of _ (by decide +kernel)) ggX0_listen_X0_strengthAfter
theorem dX0_listen_0 : decode cX0_listen 0 = .ok (.iconst 0, 1) := by decide +kernel
theorem dX0_listen_1 : decode cX0_listen 1 = .ok (.istore_n 2, 1) := by decide +kernel
theorem dX0_listen_2 : decode cX0_listen 2 = .ok (.iload_n 2, 1) := by decide +kernel
theorem dX0_listen_3 : decode cX0_listen 3 = .ok (.aload_n 0, 1) := by decide +kernel
theorem dX0_listen_4 : decode cX0_listen 4 = .ok (.getfield 21, 3) := by decide +kernel
theorem dX0_listen_7 : decode cX0_listen 7 = .ok (.getfield 42, 3) := by decide +kernel
theorem dX0_listen_10 : decode cX0_listen 10 = .ok (.if_icmp .ge 33, 3) := by decide +kernel
theorem dX0_listen_13 : decode cX0_listen 13 = .ok (.aload_n 0, 1) := by decide +kernel
theorem dX0_listen_14 : decode cX0_listen 14 = .ok (.getfield 25, 3) := by decide +kernel
theorem dX0_listen_17 : decode cX0_listen 17 = .ok (.iload_n 2, 1) := by decide +kernel
theorem dX0_listen_18 : decode cX0_listen 18 = .ok (.aload_n 0, 1) := by decide +kernel
theorem dX0_listen_19 : decode cX0_listen 19 = .ok (.iload_n 2, 1) := by decide +kernel
theorem dX0_listen_20 : decode cX0_listen 20 = .ok (.iload_n 1, 1) := by decide +kernel
theorem dX0_listen_21 : decode cX0_listen 21 = .ok (.invokevirtual 90, 3) := by decide +kernel
theorem dX0_listen_24 : decode cX0_listen 24 = .ok (.iastore, 1) := by decide +kernel
theorem dX0_listen_25 : decode cX0_listen 25 = .ok (.aload_n 0, 1) := by decide +kernel
theorem dX0_listen_26 : decode cX0_listen 26 = .ok (.getfield 29, 3) := by decide +kernel
theorem dX0_listen_29 : decode cX0_listen 29 = .ok (.iload_n 2, 1) := by decide +kernel
theorem dX0_listen_30 : decode cX0_listen 30 = .ok (.aload_n 0, 1) := by decide +kernel
theorem dX0_listen_31 : decode cX0_listen 31 = .ok (.iload_n 2, 1) := by decide +kernel
theorem dX0_listen_32 : decode cX0_listen 32 = .ok (.iload_n 1, 1) := by decide +kernel
theorem dX0_listen_33 : decode cX0_listen 33 = .ok (.invokevirtual 93, 3) := by decide +kernel
theorem dX0_listen_36 : decode cX0_listen 36 = .ok (.iastore, 1) := by decide +kernel
theorem dX0_listen_37 : decode cX0_listen 37 = .ok (.iinc 2 1, 3) := by decide +kernel
theorem dX0_listen_40 : decode cX0_listen 40 = .ok (.goto (-38), 3) := by decide +kernel
theorem dX0_listen_43 : decode cX0_listen 43 = .ok (.return_, 1) := by decide +kernel
theorem dX0_soundingAt_0 : decode cX0_soundingAt 0 = .ok (.iconst 0, 1) := by decide +kernel
theorem dX0_soundingAt_1 : decode cX0_soundingAt 1 = .ok (.istore_n 2, 1) := by decide +kernel
theorem dX0_soundingAt_2 : decode cX0_soundingAt 2 = .ok (.iconst 0, 1) := by decide +kernel
theorem dX0_soundingAt_3 : decode cX0_soundingAt 3 = .ok (.istore_n 3, 1) := by decide +kernel
theorem dX0_soundingAt_4 : decode cX0_soundingAt 4 = .ok (.iload_n 3, 1) := by decide +kernel
theorem dX0_soundingAt_5 : decode cX0_soundingAt 5 = .ok (.aload_n 0, 1) := by decide +kernel
theorem dX0_soundingAt_6 : decode cX0_soundingAt 6 = .ok (.getfield 21, 3) := by decide +kernel
theorem dX0_soundingAt_9 : decode cX0_soundingAt 9 = .ok (.getfield 42, 3) := by decide +kernel
theorem dX0_soundingAt_12 : decode cX0_soundingAt 12 = .ok (.if_icmp .ge 34, 3) := by decide +kernel
theorem dX0_soundingAt_15 : decode cX0_soundingAt 15 = .ok (.aload_n 0, 1) := by decide +kernel
theorem dX0_soundingAt_16 : decode cX0_soundingAt 16 = .ok (.getfield 25, 3) := by decide +kernel
theorem dX0_soundingAt_19 : decode cX0_soundingAt 19 = .ok (.iload_n 3, 1) := by decide +kernel
theorem dX0_soundingAt_20 : decode cX0_soundingAt 20 = .ok (.iaload, 1) := by decide +kernel
theorem dX0_soundingAt_21 : decode cX0_soundingAt 21 = .ok (.iload_n 1, 1) := by decide +kernel
theorem dX0_soundingAt_22 : decode cX0_soundingAt 22 = .ok (.if_icmp .ne 18, 3) := by decide +kernel
theorem dX0_soundingAt_25 : decode cX0_soundingAt 25 = .ok (.aload_n 0, 1) := by decide +kernel
theorem dX0_soundingAt_26 : decode cX0_soundingAt 26 = .ok (.getfield 29, 3) := by decide +kernel
theorem dX0_soundingAt_29 : decode cX0_soundingAt 29 = .ok (.iload_n 3, 1) := by decide +kernel
theorem dX0_soundingAt_30 : decode cX0_soundingAt 30 = .ok (.iaload, 1) := by decide +kernel
theorem dX0_soundingAt_31 : decode cX0_soundingAt 31 = .ok (.ifCond .le 9, 3) := by decide +kernel
theorem dX0_soundingAt_34 : decode cX0_soundingAt 34 = .ok (.iload_n 2, 1) := by decide +kernel
theorem dX0_soundingAt_35 : decode cX0_soundingAt 35 = .ok (.iconst 1, 1) := by decide +kernel
theorem dX0_soundingAt_36 : decode cX0_soundingAt 36 = .ok (.iload_n 3, 1) := by decide +kernel
theorem dX0_soundingAt_37 : decode cX0_soundingAt 37 = .ok (.ishl, 1) := by decide +kernel
theorem dX0_soundingAt_38 : decode cX0_soundingAt 38 = .ok (.ior, 1) := by decide +kernel
theorem dX0_soundingAt_39 : decode cX0_soundingAt 39 = .ok (.istore_n 2, 1) := by decide +kernel
theorem dX0_soundingAt_40 : decode cX0_soundingAt 40 = .ok (.iinc 3 1, 3) := by decide +kernel
theorem dX0_soundingAt_43 : decode cX0_soundingAt 43 = .ok (.goto (-39), 3) := by decide +kernel
theorem dX0_soundingAt_46 : decode cX0_soundingAt 46 = .ok (.iload_n 2, 1) := by decide +kernel
theorem dX0_soundingAt_47 : decode cX0_soundingAt 47 = .ok (.ireturn, 1) := by decide +kernel
theorem dX0_strengthAt_0 : decode cX0_strengthAt 0 = .ok (.iconst 0, 1) := by decide +kernel
theorem dX0_strengthAt_1 : decode cX0_strengthAt 1 = .ok (.istore_n 2, 1) := by decide +kernel
theorem dX0_strengthAt_2 : decode cX0_strengthAt 2 = .ok (.iconst 0, 1) := by decide +kernel
theorem dX0_strengthAt_3 : decode cX0_strengthAt 3 = .ok (.istore_n 3, 1) := by decide +kernel
theorem dX0_strengthAt_4 : decode cX0_strengthAt 4 = .ok (.iload_n 3, 1) := by decide +kernel
theorem dX0_strengthAt_5 : decode cX0_strengthAt 5 = .ok (.aload_n 0, 1) := by decide +kernel
theorem dX0_strengthAt_6 : decode cX0_strengthAt 6 = .ok (.getfield 21, 3) := by decide +kernel
theorem dX0_strengthAt_9 : decode cX0_strengthAt 9 = .ok (.getfield 42, 3) := by decide +kernel
theorem dX0_strengthAt_12 : decode cX0_strengthAt 12 = .ok (.if_icmp .ge 28, 3) := by decide +kernel
theorem dX0_strengthAt_15 : decode cX0_strengthAt 15 = .ok (.aload_n 0, 1) := by decide +kernel
theorem dX0_strengthAt_16 : decode cX0_strengthAt 16 = .ok (.getfield 25, 3) := by decide +kernel
theorem dX0_strengthAt_19 : decode cX0_strengthAt 19 = .ok (.iload_n 3, 1) := by decide +kernel
theorem dX0_strengthAt_20 : decode cX0_strengthAt 20 = .ok (.iaload, 1) := by decide +kernel
theorem dX0_strengthAt_21 : decode cX0_strengthAt 21 = .ok (.iload_n 1, 1) := by decide +kernel
theorem dX0_strengthAt_22 : decode cX0_strengthAt 22 = .ok (.if_icmp .ne 12, 3) := by decide +kernel
theorem dX0_strengthAt_25 : decode cX0_strengthAt 25 = .ok (.iload_n 2, 1) := by decide +kernel
theorem dX0_strengthAt_26 : decode cX0_strengthAt 26 = .ok (.aload_n 0, 1) := by decide +kernel
theorem dX0_strengthAt_27 : decode cX0_strengthAt 27 = .ok (.getfield 29, 3) := by decide +kernel
theorem dX0_strengthAt_30 : decode cX0_strengthAt 30 = .ok (.iload_n 3, 1) := by decide +kernel
theorem dX0_strengthAt_31 : decode cX0_strengthAt 31 = .ok (.iaload, 1) := by decide +kernel
theorem dX0_strengthAt_32 : decode cX0_strengthAt 32 = .ok (.iadd, 1) := by decide +kernel
theorem dX0_strengthAt_33 : decode cX0_strengthAt 33 = .ok (.istore_n 2, 1) := by decide +kernel
theorem dX0_strengthAt_34 : decode cX0_strengthAt 34 = .ok (.iinc 3 1, 3) := by decide +kernel
theorem dX0_strengthAt_37 : decode cX0_strengthAt 37 = .ok (.goto (-33), 3) := by decide +kernel
theorem dX0_strengthAt_40 : decode cX0_strengthAt 40 = .ok (.iload_n 2, 1) := by decide +kernel
theorem dX0_strengthAt_41 : decode cX0_strengthAt 41 = .ok (.ireturn, 1) := by decide +kernel
set_option maxRecDepth 20000 in
theorem ggX0_clearAt_X0_strengthAt : GoodIn wsX0_clearAt wsX0_strengthAt := goodIn_r _ [9, 1, 2, 3, 4, 10, 11, 12, 13, 14, 15, 16, 17, 18, 19, 20, 21, 22, 23, 24, 25] (by decide +kernel) (by decide +kernel)
set_option maxRecDepth 20000 in
theorem gX0_clearAt_X0_strengthAt : GoodIn wsX0_clearAt (wsV RX0 96 RX0 yX0_strengthAt wsX0_strengthAt) := goodIn_app (goodIn_of _ (by decide +kernel)) ggX0_clearAt_X0_strengthAt
theorem dX0_clearAt_0 : decode cX0_clearAt 0 = .ok (.aload_n 0, 1) := by decide +kernel
theorem dX0_clearAt_1 : decode cX0_clearAt 1 = .ok (.iload_n 1, 1) := by decide +kernel
theorem dX0_clearAt_2 : decode cX0_clearAt 2 = .ok (.invokevirtual 96, 3) := by decide +kernel
theorem dX0_clearAt_5 : decode cX0_clearAt 5 = .ok (.istore_n 2, 1) := by decide +kernel
theorem dX0_clearAt_6 : decode cX0_clearAt 6 = .ok (.iconst 0, 1) := by decide +kernel
theorem dX0_clearAt_7 : decode cX0_clearAt 7 = .ok (.istore_n 3, 1) := by decide +kernel
theorem dX0_clearAt_8 : decode cX0_clearAt 8 = .ok (.iload_n 3, 1) := by decide +kernel
theorem dX0_clearAt_9 : decode cX0_clearAt 9 = .ok (.aload_n 0, 1) := by decide +kernel
theorem dX0_clearAt_10 : decode cX0_clearAt 10 = .ok (.getfield 21, 3) := by decide +kernel
theorem dX0_clearAt_13 : decode cX0_clearAt 13 = .ok (.getfield 42, 3) := by decide +kernel
theorem dX0_clearAt_16 : decode cX0_clearAt 16 = .ok (.if_icmp .ge 33, 3) := by decide +kernel
theorem dX0_clearAt_19 : decode cX0_clearAt 19 = .ok (.aload_n 0, 1) := by decide +kernel
theorem dX0_clearAt_20 : decode cX0_clearAt 20 = .ok (.getfield 25, 3) := by decide +kernel
theorem dX0_clearAt_23 : decode cX0_clearAt 23 = .ok (.iload_n 3, 1) := by decide +kernel
theorem dX0_clearAt_24 : decode cX0_clearAt 24 = .ok (.iaload, 1) := by decide +kernel
theorem dX0_clearAt_25 : decode cX0_clearAt 25 = .ok (.iload_n 1, 1) := by decide +kernel
theorem dX0_clearAt_26 : decode cX0_clearAt 26 = .ok (.if_icmp .ne 17, 3) := by decide +kernel
theorem dX0_clearAt_29 : decode cX0_clearAt 29 = .ok (.iconst 2, 1) := by decide +kernel
theorem dX0_clearAt_30 : decode cX0_clearAt 30 = .ok (.aload_n 0, 1) := by decide +kernel
theorem dX0_clearAt_31 : decode cX0_clearAt 31 = .ok (.getfield 29, 3) := by decide +kernel
theorem dX0_clearAt_34 : decode cX0_clearAt 34 = .ok (.iload_n 3, 1) := by decide +kernel
theorem dX0_clearAt_35 : decode cX0_clearAt 35 = .ok (.iaload, 1) := by decide +kernel
theorem dX0_clearAt_36 : decode cX0_clearAt 36 = .ok (.imul, 1) := by decide +kernel
theorem dX0_clearAt_37 : decode cX0_clearAt 37 = .ok (.iload_n 2, 1) := by decide +kernel
theorem dX0_clearAt_38 : decode cX0_clearAt 38 = .ok (.if_icmp .le 5, 3) := by decide +kernel
theorem dX0_clearAt_41 : decode cX0_clearAt 41 = .ok (.iload_n 3, 1) := by decide +kernel
theorem dX0_clearAt_42 : decode cX0_clearAt 42 = .ok (.ireturn, 1) := by decide +kernel
theorem dX0_clearAt_43 : decode cX0_clearAt 43 = .ok (.iinc 3 1, 3) := by decide +kernel
theorem dX0_clearAt_46 : decode cX0_clearAt 46 = .ok (.goto (-38), 3) := by decide +kernel
theorem dX0_clearAt_49 : decode cX0_clearAt 49 = .ok (.bipush (-9), 2) := by decide +kernel
theorem dX0_clearAt_51 : decode cX0_clearAt 51 = .ok (.ireturn, 1) := by decide +kernel
set_option maxRecDepth 20000 in
theorem ggX0_isSea_X0_soundingAt : GoodIn wsX0_isSea wsX0_soundingAt := goodIn_r _ [5, 6, 7, 8, 9, 18, 19, 20, 21, 22, 23, 24, 25, 26, 27, 28, 29, 30, 31, 32, 33] (by decide +kernel) (by decide +kernel)
set_option maxRecDepth 20000 in
theorem gX0_isSea_X0_soundingAt : GoodIn wsX0_isSea (wsV RX0 99 RX0 yX0_soundingAt wsX0_soundingAt) := goodIn_app (goodIn_of _ (by decide +kernel)) ggX0_isSea_X0_soundingAt
set_option maxRecDepth 20000 in
theorem ggX0_isSea_X0_clearAt : GoodIn wsX0_isSea wsX0_clearAt := goodIn_r _ [13, 6, 7, 8, 9, 14, 15, 16, 4, 17, 18, 19, 20, 21, 22, 23, 24, 25, 26, 27, 28, 29, 30, 31, 32, 33] (by decide +kernel) (by decide +kernel)
set_option maxRecDepth 20000 in
theorem gX0_isSea_X0_clearAt : GoodIn wsX0_isSea (wsV RX0 102 RX0 yX0_clearAt wsX0_clearAt) := goodIn_app (goodIn_of _ (by decide +kernel)) ggX0_isSea_X0_clearAt
theorem dX0_isSea_0 : decode cX0_isSea 0 = .ok (.aload_n 0, 1) := by decide +kernel
theorem dX0_isSea_1 : decode cX0_isSea 1 = .ok (.iload_n 1, 1) := by decide +kernel
theorem dX0_isSea_2 : decode cX0_isSea 2 = .ok (.invokevirtual 99, 3) := by decide +kernel
theorem dX0_isSea_5 : decode cX0_isSea 5 = .ok (.ifCond .eq 17, 3) := by decide +kernel
theorem dX0_isSea_8 : decode cX0_isSea 8 = .ok (.aload_n 0, 1) := by decide +kernel
theorem dX0_isSea_9 : decode cX0_isSea 9 = .ok (.iload_n 1, 1) := by decide +kernel
theorem dX0_isSea_10 : decode cX0_isSea 10 = .ok (.invokevirtual 102, 3) := by decide +kernel
theorem dX0_isSea_13 : decode cX0_isSea 13 = .ok (.bipush (-9), 2) := by decide +kernel
theorem dX0_isSea_15 : decode cX0_isSea 15 = .ok (.if_icmp .ne 7, 3) := by decide +kernel
theorem dX0_isSea_18 : decode cX0_isSea 18 = .ok (.iconst 1, 1) := by decide +kernel
theorem dX0_isSea_19 : decode cX0_isSea 19 = .ok (.goto 4, 3) := by decide +kernel
theorem dX0_isSea_22 : decode cX0_isSea 22 = .ok (.iconst 0, 1) := by decide +kernel
theorem dX0_isSea_23 : decode cX0_isSea 23 = .ok (.ireturn, 1) := by decide +kernel
theorem dX0_lasting_0 : decode cX0_lasting 0 = .ok (.iconst 0, 1) := by decide +kernel
theorem dX0_lasting_1 : decode cX0_lasting 1 = .ok (.istore_n 1, 1) := by decide +kernel
theorem dX0_lasting_2 : decode cX0_lasting 2 = .ok (.iconst 0, 1) := by decide +kernel
theorem dX0_lasting_3 : decode cX0_lasting 3 = .ok (.istore_n 2, 1) := by decide +kernel
theorem dX0_lasting_4 : decode cX0_lasting 4 = .ok (.iload_n 2, 1) := by decide +kernel
theorem dX0_lasting_5 : decode cX0_lasting 5 = .ok (.aload_n 0, 1) := by decide +kernel
theorem dX0_lasting_6 : decode cX0_lasting 6 = .ok (.getfield 21, 3) := by decide +kernel
theorem dX0_lasting_9 : decode cX0_lasting 9 = .ok (.getfield 42, 3) := by decide +kernel
theorem dX0_lasting_12 : decode cX0_lasting 12 = .ok (.if_icmp .ge 24, 3) := by decide +kernel
theorem dX0_lasting_15 : decode cX0_lasting 15 = .ok (.aload_n 0, 1) := by decide +kernel
theorem dX0_lasting_16 : decode cX0_lasting 16 = .ok (.getfield 29, 3) := by decide +kernel
theorem dX0_lasting_19 : decode cX0_lasting 19 = .ok (.iload_n 2, 1) := by decide +kernel
theorem dX0_lasting_20 : decode cX0_lasting 20 = .ok (.iaload, 1) := by decide +kernel
theorem dX0_lasting_21 : decode cX0_lasting 21 = .ok (.ifCond .le 9, 3) := by decide +kernel
theorem dX0_lasting_24 : decode cX0_lasting 24 = .ok (.iload_n 1, 1) := by decide +kernel
theorem dX0_lasting_25 : decode cX0_lasting 25 = .ok (.iconst 1, 1) := by decide +kernel
theorem dX0_lasting_26 : decode cX0_lasting 26 = .ok (.iload_n 2, 1) := by decide +kernel
theorem dX0_lasting_27 : decode cX0_lasting 27 = .ok (.ishl, 1) := by decide +kernel
theorem dX0_lasting_28 : decode cX0_lasting 28 = .ok (.ior, 1) := by decide +kernel
theorem dX0_lasting_29 : decode cX0_lasting 29 = .ok (.istore_n 1, 1) := by decide +kernel
theorem dX0_lasting_30 : decode cX0_lasting 30 = .ok (.iinc 2 1, 3) := by decide +kernel
theorem dX0_lasting_33 : decode cX0_lasting 33 = .ok (.goto (-29), 3) := by decide +kernel
theorem dX0_lasting_36 : decode cX0_lasting 36 = .ok (.iload_n 1, 1) := by decide +kernel
theorem dX0_lasting_37 : decode cX0_lasting 37 = .ok (.ireturn, 1) := by decide +kernel
theorem dX0_strengthOf_0 : decode cX0_strengthOf 0 = .ok (.iconst 0, 1) := by decide +kernel
theorem dX0_strengthOf_1 : decode cX0_strengthOf 1 = .ok (.istore_n 2, 1) := by decide +kernel
theorem dX0_strengthOf_2 : decode cX0_strengthOf 2 = .ok (.iconst 0, 1) := by decide +kernel
theorem dX0_strengthOf_3 : decode cX0_strengthOf 3 = .ok (.istore_n 3, 1) := by decide +kernel
theorem dX0_strengthOf_4 : decode cX0_strengthOf 4 = .ok (.iload_n 3, 1) := by decide +kernel
theorem dX0_strengthOf_5 : decode cX0_strengthOf 5 = .ok (.aload_n 0, 1) := by decide +kernel
theorem dX0_strengthOf_6 : decode cX0_strengthOf 6 = .ok (.getfield 21, 3) := by decide +kernel
theorem dX0_strengthOf_9 : decode cX0_strengthOf 9 = .ok (.getfield 42, 3) := by decide +kernel
theorem dX0_strengthOf_12 : decode cX0_strengthOf 12 = .ok (.if_icmp .ge 27, 3) := by decide +kernel
theorem dX0_strengthOf_15 : decode cX0_strengthOf 15 = .ok (.iload_n 1, 1) := by decide +kernel
theorem dX0_strengthOf_16 : decode cX0_strengthOf 16 = .ok (.iload_n 3, 1) := by decide +kernel
theorem dX0_strengthOf_17 : decode cX0_strengthOf 17 = .ok (.ishr, 1) := by decide +kernel
theorem dX0_strengthOf_18 : decode cX0_strengthOf 18 = .ok (.iconst 1, 1) := by decide +kernel
theorem dX0_strengthOf_19 : decode cX0_strengthOf 19 = .ok (.iand, 1) := by decide +kernel
theorem dX0_strengthOf_20 : decode cX0_strengthOf 20 = .ok (.iconst 1, 1) := by decide +kernel
theorem dX0_strengthOf_21 : decode cX0_strengthOf 21 = .ok (.if_icmp .ne 12, 3) := by decide +kernel
theorem dX0_strengthOf_24 : decode cX0_strengthOf 24 = .ok (.iload_n 2, 1) := by decide +kernel
theorem dX0_strengthOf_25 : decode cX0_strengthOf 25 = .ok (.aload_n 0, 1) := by decide +kernel
theorem dX0_strengthOf_26 : decode cX0_strengthOf 26 = .ok (.getfield 29, 3) := by decide +kernel
theorem dX0_strengthOf_29 : decode cX0_strengthOf 29 = .ok (.iload_n 3, 1) := by decide +kernel
theorem dX0_strengthOf_30 : decode cX0_strengthOf 30 = .ok (.iaload, 1) := by decide +kernel
theorem dX0_strengthOf_31 : decode cX0_strengthOf 31 = .ok (.iadd, 1) := by decide +kernel
theorem dX0_strengthOf_32 : decode cX0_strengthOf 32 = .ok (.istore_n 2, 1) := by decide +kernel
theorem dX0_strengthOf_33 : decode cX0_strengthOf 33 = .ok (.iinc 3 1, 3) := by decide +kernel
theorem dX0_strengthOf_36 : decode cX0_strengthOf 36 = .ok (.goto (-32), 3) := by decide +kernel
theorem dX0_strengthOf_39 : decode cX0_strengthOf 39 = .ok (.iload_n 2, 1) := by decide +kernel
theorem dX0_strengthOf_40 : decode cX0_strengthOf 40 = .ok (.ireturn, 1) := by decide +kernel
set_option maxRecDepth 20000 in
theorem ggX0_placesThatSound_X0_soundingAt : GoodIn wsX0_placesThatSound wsX0_soundingAt := goodIn_r _ [6, 7, 8, 9, 10, 11, 12, 13, 14, 15, 16, 17, 18, 19, 20, 21, 22, 23, 24, 25, 26] (by decide +kernel) (by decide +kernel)
set_option maxRecDepth 20000 in
theorem gX0_placesThatSound_X0_soundingAt : GoodIn wsX0_placesThatSound (wsV RX0 99 RX0 yX0_soundingAt wsX0_soundingAt) := goodIn_app (goodIn_of _ (by decide +kernel)) ggX0_placesThatSound_X0_soundingAt
theorem dX0_placesThatSound_0 : decode cX0_placesThatSound 0 = .ok (.iconst 0, 1) := by decide +kernel
theorem dX0_placesThatSound_1 : decode cX0_placesThatSound 1 = .ok (.istore_n 1, 1) := by decide +kernel
theorem dX0_placesThatSound_2 : decode cX0_placesThatSound 2 = .ok (.iconst 0, 1) := by decide +kernel
theorem dX0_placesThatSound_3 : decode cX0_placesThatSound 3 = .ok (.istore_n 2, 1) := by decide +kernel
theorem dX0_placesThatSound_4 : decode cX0_placesThatSound 4 = .ok (.iload_n 2, 1) := by decide +kernel
theorem dX0_placesThatSound_5 : decode cX0_placesThatSound 5 = .ok (.aload_n 0, 1) := by decide +kernel
theorem dX0_placesThatSound_6 : decode cX0_placesThatSound 6 = .ok (.getfield 9, 3) := by decide +kernel
theorem dX0_placesThatSound_9 : decode cX0_placesThatSound 9 = .ok (.if_icmp .ge 20, 3) := by decide +kernel
theorem dX0_placesThatSound_12 : decode cX0_placesThatSound 12 = .ok (.aload_n 0, 1) := by decide +kernel
theorem dX0_placesThatSound_13 : decode cX0_placesThatSound 13 = .ok (.iload_n 2, 1) := by decide +kernel
theorem dX0_placesThatSound_14 : decode cX0_placesThatSound 14 = .ok (.invokevirtual 99, 3) := by decide +kernel
theorem dX0_placesThatSound_17 : decode cX0_placesThatSound 17 = .ok (.ifCond .eq 6, 3) := by decide +kernel
theorem dX0_placesThatSound_20 : decode cX0_placesThatSound 20 = .ok (.iinc 1 1, 3) := by decide +kernel
theorem dX0_placesThatSound_23 : decode cX0_placesThatSound 23 = .ok (.iinc 2 1, 3) := by decide +kernel
theorem dX0_placesThatSound_26 : decode cX0_placesThatSound 26 = .ok (.goto (-22), 3) := by decide +kernel
theorem dX0_placesThatSound_29 : decode cX0_placesThatSound 29 = .ok (.iload_n 1, 1) := by decide +kernel
theorem dX0_placesThatSound_30 : decode cX0_placesThatSound 30 = .ok (.ireturn, 1) := by decide +kernel
set_option maxRecDepth 20000 in
theorem ggX0_seas_X0_isSea : GoodIn wsX0_seas wsX0_isSea := goodIn_r _ [6, 7, 8, 9, 5, 10, 11, 12, 13, 14, 15, 16, 17, 18, 19, 20, 21, 22, 23, 24, 25, 26, 27, 28, 29, 30, 31, 32, 33, 34, 35, 36, 37, 38] (by decide +kernel) (by decide +kernel)
set_option maxRecDepth 20000 in
theorem gX0_seas_X0_isSea : GoodIn wsX0_seas (wsV RX0 105 RX0 yX0_isSea wsX0_isSea) := goodIn_app (goodIn_of _ (by decide +kernel)) ggX0_seas_X0_isSea
theorem dX0_seas_0 : decode cX0_seas 0 = .ok (.iconst 0, 1) := by decide +kernel
theorem dX0_seas_1 : decode cX0_seas 1 = .ok (.istore_n 1, 1) := by decide +kernel
theorem dX0_seas_2 : decode cX0_seas 2 = .ok (.iconst 0, 1) := by decide +kernel
theorem dX0_seas_3 : decode cX0_seas 3 = .ok (.istore_n 2, 1) := by decide +kernel
theorem dX0_seas_4 : decode cX0_seas 4 = .ok (.iload_n 2, 1) := by decide +kernel
theorem dX0_seas_5 : decode cX0_seas 5 = .ok (.aload_n 0, 1) := by decide +kernel
theorem dX0_seas_6 : decode cX0_seas 6 = .ok (.getfield 9, 3) := by decide +kernel
theorem dX0_seas_9 : decode cX0_seas 9 = .ok (.if_icmp .ge 20, 3) := by decide +kernel
theorem dX0_seas_12 : decode cX0_seas 12 = .ok (.aload_n 0, 1) := by decide +kernel
theorem dX0_seas_13 : decode cX0_seas 13 = .ok (.iload_n 2, 1) := by decide +kernel
theorem dX0_seas_14 : decode cX0_seas 14 = .ok (.invokevirtual 105, 3) := by decide +kernel
theorem dX0_seas_17 : decode cX0_seas 17 = .ok (.ifCond .eq 6, 3) := by decide +kernel
theorem dX0_seas_20 : decode cX0_seas 20 = .ok (.iinc 1 1, 3) := by decide +kernel
theorem dX0_seas_23 : decode cX0_seas 23 = .ok (.iinc 2 1, 3) := by decide +kernel
theorem dX0_seas_26 : decode cX0_seas 26 = .ok (.goto (-22), 3) := by decide +kernel
theorem dX0_seas_29 : decode cX0_seas 29 = .ok (.iload_n 1, 1) := by decide +kernel
theorem dX0_seas_30 : decode cX0_seas 30 = .ok (.ireturn, 1) := by decide +kernel
set_option maxRecDepth 20000 in
theorem ggX0_fewestToHush_X0_soundingAt : GoodIn wsX0_fewestToHush wsX0_soundingAt := goodIn_r _ [7, 8, 9, 1, 2, 21, 22, 23, 24, 25, 26, 27, 28, 29, 30, 31, 32, 33, 34, 35, 36] (by decide +kernel) (by decide +kernel)
set_option maxRecDepth 20000 in
theorem gX0_fewestToHush_X0_soundingAt : GoodIn wsX0_fewestToHush (wsV RX0 99 RX0 yX0_soundingAt wsX0_soundingAt) := goodIn_app (goodIn_of _ (by decide +kernel)) ggX0_fewestToHush_X0_soundingAt
set_option maxRecDepth 20000 in
theorem ggX0_fewestToHush_J6_bitCount_0f7a4 : GoodIn wsX0_fewestToHush wsJ6_bitCount_0f7a4 := goodIn_r _ [13, 14, 15, 16] (by decide +kernel) (by decide +kernel)
set_option maxRecDepth 20000 in
theorem gX0_fewestToHush_J6_bitCount_0f7a4 : GoodIn wsX0_fewestToHush (va_wsS RX0 108 yJ6_bitCount_0f7a4 wsJ6_bitCount_0f7a4) := goodIn_app (goodIn_of _ (by decide +kernel)) ggX0_fewestToHush_J6_bitCount_0f7a4
set_option maxRecDepth 20000 in
theorem ggX0_fewestToHush_X0_strengthOf : GoodIn wsX0_fewestToHush wsX0_strengthOf := goodIn_r _ [20, 8, 9, 2, 21, 22, 23, 24, 25, 26, 27, 28, 29, 30, 31, 32, 33, 34, 35, 36] (by decide +kernel) (by decide +kernel)
set_option maxRecDepth 20000 in
theorem gX0_fewestToHush_X0_strengthOf : GoodIn wsX0_fewestToHush (wsV RX0 113 RX0 yX0_strengthOf wsX0_strengthOf) := goodIn_app (goodIn_of _ (by decide +kernel)) ggX0_fewestToHush_X0_strengthOf
theorem dX0_fewestToHush_0 : decode cX0_fewestToHush 0 = .ok (.aload_n 0, 1) := by decide +kernel
theorem dX0_fewestToHush_1 : decode cX0_fewestToHush 1 = .ok (.aload_n 0, 1) := by decide +kernel
theorem dX0_fewestToHush_2 : decode cX0_fewestToHush 2 = .ok (.getfield 25, 3) := by decide +kernel
theorem dX0_fewestToHush_5 : decode cX0_fewestToHush 5 = .ok (.iload_n 1, 1) := by decide +kernel
theorem dX0_fewestToHush_6 : decode cX0_fewestToHush 6 = .ok (.iaload, 1) := by decide +kernel
theorem dX0_fewestToHush_7 : decode cX0_fewestToHush 7 = .ok (.invokevirtual 99, 3) := by decide +kernel
theorem dX0_fewestToHush_10 : decode cX0_fewestToHush 10 = .ok (.iconst 1, 1) := by decide +kernel
theorem dX0_fewestToHush_11 : decode cX0_fewestToHush 11 = .ok (.iload_n 1, 1) := by decide +kernel
theorem dX0_fewestToHush_12 : decode cX0_fewestToHush 12 = .ok (.ishl, 1) := by decide +kernel
theorem dX0_fewestToHush_13 : decode cX0_fewestToHush 13 = .ok (.iconst (-1), 1) := by decide +kernel
theorem dX0_fewestToHush_14 : decode cX0_fewestToHush 14 = .ok (.ixor, 1) := by decide +kernel
theorem dX0_fewestToHush_15 : decode cX0_fewestToHush 15 = .ok (.iand, 1) := by decide +kernel
theorem dX0_fewestToHush_16 : decode cX0_fewestToHush 16 = .ok (.istore_n 2, 1) := by decide +kernel
theorem dX0_fewestToHush_17 : decode cX0_fewestToHush 17 = .ok (.iload_n 2, 1) := by decide +kernel
theorem dX0_fewestToHush_18 : decode cX0_fewestToHush 18 = .ok (.istore_n 3, 1) := by decide +kernel
theorem dX0_fewestToHush_19 : decode cX0_fewestToHush 19 = .ok (.iconst 0, 1) := by decide +kernel
theorem dX0_fewestToHush_20 : decode cX0_fewestToHush 20 = .ok (.istore 4, 2) := by decide +kernel
theorem dX0_fewestToHush_22 : decode cX0_fewestToHush 22 = .ok (.iload 4, 2) := by decide +kernel
theorem dX0_fewestToHush_24 : decode cX0_fewestToHush 24 = .ok (.iload_n 2, 1) := by decide +kernel
theorem dX0_fewestToHush_25 : decode cX0_fewestToHush 25 = .ok (.if_icmp .gt 64, 3) := by decide +kernel
theorem dX0_fewestToHush_28 : decode cX0_fewestToHush 28 = .ok (.iload 4, 2) := by decide +kernel
theorem dX0_fewestToHush_30 : decode cX0_fewestToHush 30 = .ok (.invokestatic 108, 3) := by decide +kernel
theorem dX0_fewestToHush_33 : decode cX0_fewestToHush 33 = .ok (.iload_n 3, 1) := by decide +kernel
theorem dX0_fewestToHush_34 : decode cX0_fewestToHush 34 = .ok (.invokestatic 108, 3) := by decide +kernel
theorem dX0_fewestToHush_37 : decode cX0_fewestToHush 37 = .ok (.if_icmp .ge 7, 3) := by decide +kernel
theorem dX0_fewestToHush_40 : decode cX0_fewestToHush 40 = .ok (.iconst 1, 1) := by decide +kernel
theorem dX0_fewestToHush_41 : decode cX0_fewestToHush 41 = .ok (.goto 4, 3) := by decide +kernel
theorem dX0_fewestToHush_44 : decode cX0_fewestToHush 44 = .ok (.iconst 0, 1) := by decide +kernel
theorem dX0_fewestToHush_45 : decode cX0_fewestToHush 45 = .ok (.istore 5, 2) := by decide +kernel
theorem dX0_fewestToHush_47 : decode cX0_fewestToHush 47 = .ok (.iload 5, 2) := by decide +kernel
theorem dX0_fewestToHush_49 : decode cX0_fewestToHush 49 = .ok (.ifCond .eq 34, 3) := by decide +kernel
theorem dX0_fewestToHush_52 : decode cX0_fewestToHush 52 = .ok (.iload 4, 2) := by decide +kernel
theorem dX0_fewestToHush_54 : decode cX0_fewestToHush 54 = .ok (.iload_n 2, 1) := by decide +kernel
theorem dX0_fewestToHush_55 : decode cX0_fewestToHush 55 = .ok (.iconst (-1), 1) := by decide +kernel
theorem dX0_fewestToHush_56 : decode cX0_fewestToHush 56 = .ok (.ixor, 1) := by decide +kernel
theorem dX0_fewestToHush_57 : decode cX0_fewestToHush 57 = .ok (.iand, 1) := by decide +kernel
theorem dX0_fewestToHush_58 : decode cX0_fewestToHush 58 = .ok (.ifCond .ne 25, 3) := by decide +kernel
theorem dX0_fewestToHush_61 : decode cX0_fewestToHush 61 = .ok (.aload_n 0, 1) := by decide +kernel
theorem dX0_fewestToHush_62 : decode cX0_fewestToHush 62 = .ok (.getfield 29, 3) := by decide +kernel
theorem dX0_fewestToHush_65 : decode cX0_fewestToHush 65 = .ok (.iload_n 1, 1) := by decide +kernel
theorem dX0_fewestToHush_66 : decode cX0_fewestToHush 66 = .ok (.iaload, 1) := by decide +kernel
theorem dX0_fewestToHush_67 : decode cX0_fewestToHush 67 = .ok (.aload_n 0, 1) := by decide +kernel
theorem dX0_fewestToHush_68 : decode cX0_fewestToHush 68 = .ok (.iload_n 2, 1) := by decide +kernel
theorem dX0_fewestToHush_69 : decode cX0_fewestToHush 69 = .ok (.iload 4, 2) := by decide +kernel
theorem dX0_fewestToHush_71 : decode cX0_fewestToHush 71 = .ok (.iconst (-1), 1) := by decide +kernel
theorem dX0_fewestToHush_72 : decode cX0_fewestToHush 72 = .ok (.ixor, 1) := by decide +kernel
theorem dX0_fewestToHush_73 : decode cX0_fewestToHush 73 = .ok (.iand, 1) := by decide +kernel
theorem dX0_fewestToHush_74 : decode cX0_fewestToHush 74 = .ok (.invokevirtual 113, 3) := by decide +kernel
theorem dX0_fewestToHush_77 : decode cX0_fewestToHush 77 = .ok (.if_icmp .le 6, 3) := by decide +kernel
theorem dX0_fewestToHush_80 : decode cX0_fewestToHush 80 = .ok (.iload 4, 2) := by decide +kernel
theorem dX0_fewestToHush_82 : decode cX0_fewestToHush 82 = .ok (.istore_n 3, 1) := by decide +kernel
theorem dX0_fewestToHush_83 : decode cX0_fewestToHush 83 = .ok (.iinc 4 1, 3) := by decide +kernel
theorem dX0_fewestToHush_86 : decode cX0_fewestToHush 86 = .ok (.goto (-64), 3) := by decide +kernel
theorem dX0_fewestToHush_89 : decode cX0_fewestToHush 89 = .ok (.iload_n 3, 1) := by decide +kernel
theorem dX0_fewestToHush_90 : decode cX0_fewestToHush 90 = .ok (.ireturn, 1) := by decide +kernel
set_option maxRecDepth 20000 in
theorem ggX0_lastOf_X0_strengthAfter : GoodIn wsX0_lastOf wsX0_strengthAfter := goodIn_r _ [5, 6, 7, 8, 9, 10, 11, 12, 13, 14, 15, 16, 4, 17, 18, 19, 20, 21, 22, 23, 24, 25, 26, 27, 28, 29, 30, 31, 32, 33, 34, 35, 36, 37, 38, 39, 40, 41, 42, 43, 44, 45, 46, 47, 48, 49, 50] (by decide +kernel) (by decide +kernel)
set_option maxRecDepth 20000 in
theorem gX0_lastOf_X0_strengthAfter : GoodIn wsX0_lastOf (wsV RX0 93 RX0 yX0_strengthAfter wsX0_strengthAfter) := goodIn_app (goodIn_of _ (by decide +kernel)) ggX0_lastOf_X0_strengthAfter
theorem dX0_lastOf_0 : decode cX0_lastOf 0 = .ok (.iconst 0, 1) := by decide +kernel
theorem dX0_lastOf_1 : decode cX0_lastOf 1 = .ok (.istore_n 2, 1) := by decide +kernel
theorem dX0_lastOf_2 : decode cX0_lastOf 2 = .ok (.iload_n 2, 1) := by decide +kernel
theorem dX0_lastOf_3 : decode cX0_lastOf 3 = .ok (.sipush 999, 3) := by decide +kernel
theorem dX0_lastOf_6 : decode cX0_lastOf 6 = .ok (.if_icmp .gt 20, 3) := by decide +kernel
theorem dX0_lastOf_9 : decode cX0_lastOf 9 = .ok (.aload_n 0, 1) := by decide +kernel
theorem dX0_lastOf_10 : decode cX0_lastOf 10 = .ok (.iload_n 1, 1) := by decide +kernel
theorem dX0_lastOf_11 : decode cX0_lastOf 11 = .ok (.iload_n 2, 1) := by decide +kernel
theorem dX0_lastOf_12 : decode cX0_lastOf 12 = .ok (.invokevirtual 93, 3) := by decide +kernel
theorem dX0_lastOf_15 : decode cX0_lastOf 15 = .ok (.ifCond .ne 5, 3) := by decide +kernel
theorem dX0_lastOf_18 : decode cX0_lastOf 18 = .ok (.iload_n 2, 1) := by decide +kernel
theorem dX0_lastOf_19 : decode cX0_lastOf 19 = .ok (.ireturn, 1) := by decide +kernel
theorem dX0_lastOf_20 : decode cX0_lastOf 20 = .ok (.iinc 2 1, 3) := by decide +kernel
theorem dX0_lastOf_23 : decode cX0_lastOf 23 = .ok (.goto (-21), 3) := by decide +kernel
theorem dX0_lastOf_26 : decode cX0_lastOf 26 = .ok (.bipush (-9), 2) := by decide +kernel
theorem dX0_lastOf_28 : decode cX0_lastOf 28 = .ok (.ireturn, 1) := by decide +kernel
set_option maxRecDepth 20000 in
theorem ggX0_quietOf_X0_listen : GoodIn wsX0_quietOf wsX0_listen := goodIn_r _ [5, 6, 7, 8, 9, 10, 11, 12, 4, 13, 14, 15, 16, 17, 18, 19, 20, 21, 22, 23, 24, 25, 26, 27, 28, 29, 30, 31, 32, 33, 34, 35, 36, 37, 38, 39, 40, 41, 42, 43, 44, 45, 46, 47, 48, 49, 50, 51, 52, 53, 54, 55, 60, 61, 62, 63, 64, 65, 66, 67, 68, 69, 70, 71, 72, 73, 74, 75] (by decide +kernel) (by decide +kernel)
set_option maxRecDepth 20000 in
theorem gX0_quietOf_X0_listen : GoodIn wsX0_quietOf (wsV RX0 116 RX0 yX0_listen wsX0_listen) := goodIn_app (goodIn_of _ (by decide +kernel)) ggX0_quietOf_X0_listen
set_option maxRecDepth 20000 in
theorem ggX0_quietOf_X0_soundingAt : GoodIn wsX0_quietOf wsX0_soundingAt := goodIn_r _ [59, 6, 7, 8, 9, 60, 61, 62, 63, 64, 65, 66, 67, 68, 69, 70, 71, 72, 73, 74, 75] (by decide +kernel) (by decide +kernel)
set_option maxRecDepth 20000 in
theorem gX0_quietOf_X0_soundingAt : GoodIn wsX0_quietOf (wsV RX0 99 RX0 yX0_soundingAt wsX0_soundingAt) := goodIn_app (goodIn_of _ (by decide +kernel)) ggX0_quietOf_X0_soundingAt
theorem dX0_quietOf_0 : decode cX0_quietOf 0 = .ok (.iconst 0, 1) := by decide +kernel
theorem dX0_quietOf_1 : decode cX0_quietOf 1 = .ok (.istore_n 2, 1) := by decide +kernel
theorem dX0_quietOf_2 : decode cX0_quietOf 2 = .ok (.iload_n 2, 1) := by decide +kernel
theorem dX0_quietOf_3 : decode cX0_quietOf 3 = .ok (.bipush 99, 2) := by decide +kernel
theorem dX0_quietOf_5 : decode cX0_quietOf 5 = .ok (.if_icmp .gt 24, 3) := by decide +kernel
theorem dX0_quietOf_8 : decode cX0_quietOf 8 = .ok (.aload_n 0, 1) := by decide +kernel
theorem dX0_quietOf_9 : decode cX0_quietOf 9 = .ok (.iload_n 2, 1) := by decide +kernel
theorem dX0_quietOf_10 : decode cX0_quietOf 10 = .ok (.invokevirtual 116, 3) := by decide +kernel
theorem dX0_quietOf_13 : decode cX0_quietOf 13 = .ok (.aload_n 0, 1) := by decide +kernel
theorem dX0_quietOf_14 : decode cX0_quietOf 14 = .ok (.iload_n 1, 1) := by decide +kernel
theorem dX0_quietOf_15 : decode cX0_quietOf 15 = .ok (.invokevirtual 99, 3) := by decide +kernel
theorem dX0_quietOf_18 : decode cX0_quietOf 18 = .ok (.ifCond .ne 5, 3) := by decide +kernel
theorem dX0_quietOf_21 : decode cX0_quietOf 21 = .ok (.iload_n 2, 1) := by decide +kernel
theorem dX0_quietOf_22 : decode cX0_quietOf 22 = .ok (.ireturn, 1) := by decide +kernel
theorem dX0_quietOf_23 : decode cX0_quietOf 23 = .ok (.iinc 2 1, 3) := by decide +kernel
theorem dX0_quietOf_26 : decode cX0_quietOf 26 = .ok (.goto (-24), 3) := by decide +kernel
theorem dX0_quietOf_29 : decode cX0_quietOf 29 = .ok (.bipush (-9), 2) := by decide +kernel
theorem dX0_quietOf_31 : decode cX0_quietOf 31 = .ok (.ireturn, 1) := by decide +kernel
set_option maxRecDepth 20000 in
theorem ggX0_whenAt_X0_sounds : GoodIn wsX0_whenAt wsX0_sounds := goodIn_r _ [5, 6, 7, 8, 4, 9, 10, 11, 12, 13, 14, 15, 16, 17, 18, 19, 20, 21, 22, 23, 24, 25, 26, 27, 28, 29, 30, 31, 32, 33, 34, 35, 36, 37, 38, 39, 40, 41, 42, 43, 44, 45, 46, 47, 48, 49, 50, 51, 52, 53, 54, 55, 56, 57, 58, 59, 60, 61, 62, 63, 64, 65, 66, 67, 68] (by decide +kernel) (by decide +kernel)
set_option maxRecDepth 20000 in
theorem gX0_whenAt_X0_sounds : GoodIn wsX0_whenAt (wsV RX0 120 RX0 yX0_sounds wsX0_sounds) := goodIn_app (goodIn_of _ (by decide +kernel)) ggX0_whenAt_X0_sounds
theorem dX0_whenAt_0 : decode cX0_whenAt 0 = .ok (.iconst 0, 1) := by decide +kernel
theorem dX0_whenAt_1 : decode cX0_whenAt 1 = .ok (.istore_n 3, 1) := by decide +kernel
theorem dX0_whenAt_2 : decode cX0_whenAt 2 = .ok (.iload_n 3, 1) := by decide +kernel
theorem dX0_whenAt_3 : decode cX0_whenAt 3 = .ok (.sipush 999, 3) := by decide +kernel
theorem dX0_whenAt_6 : decode cX0_whenAt 6 = .ok (.if_icmp .gt 21, 3) := by decide +kernel
theorem dX0_whenAt_9 : decode cX0_whenAt 9 = .ok (.aload_n 0, 1) := by decide +kernel
theorem dX0_whenAt_10 : decode cX0_whenAt 10 = .ok (.iload_n 1, 1) := by decide +kernel
theorem dX0_whenAt_11 : decode cX0_whenAt 11 = .ok (.iload_n 2, 1) := by decide +kernel
theorem dX0_whenAt_12 : decode cX0_whenAt 12 = .ok (.iload_n 3, 1) := by decide +kernel
theorem dX0_whenAt_13 : decode cX0_whenAt 13 = .ok (.invokevirtual 120, 3) := by decide +kernel
theorem dX0_whenAt_16 : decode cX0_whenAt 16 = .ok (.ifCond .eq 5, 3) := by decide +kernel
theorem dX0_whenAt_19 : decode cX0_whenAt 19 = .ok (.iload_n 3, 1) := by decide +kernel
theorem dX0_whenAt_20 : decode cX0_whenAt 20 = .ok (.ireturn, 1) := by decide +kernel
theorem dX0_whenAt_21 : decode cX0_whenAt 21 = .ok (.iinc 3 1, 3) := by decide +kernel
theorem dX0_whenAt_24 : decode cX0_whenAt 24 = .ok (.goto (-22), 3) := by decide +kernel
theorem dX0_whenAt_27 : decode cX0_whenAt 27 = .ok (.bipush (-9), 2) := by decide +kernel
theorem dX0_whenAt_29 : decode cX0_whenAt 29 = .ok (.ireturn, 1) := by decide +kernel
set_option maxRecDepth 20000 in
theorem ggX0_oftenAt_X0_sounds : GoodIn wsX0_oftenAt wsX0_sounds := goodIn_r _ [5, 6, 7, 8, 4, 9, 10, 11, 12, 13, 14, 15, 16, 17, 18, 19, 20, 21, 22, 23, 24, 25, 26, 27, 28, 29, 30, 31, 32, 33, 34, 35, 36, 37, 38, 39, 40, 41, 42, 43, 44, 45, 46, 47, 48, 49, 50, 51, 52, 53, 54, 55, 56, 57, 58, 59, 60, 61, 62, 63, 64, 65, 66, 67, 68] (by decide +kernel) (by decide +kernel)
set_option maxRecDepth 20000 in
theorem gX0_oftenAt_X0_sounds : GoodIn wsX0_oftenAt (wsV RX0 120 RX0 yX0_sounds wsX0_sounds) := goodIn_app (goodIn_of _ (by decide +kernel)) ggX0_oftenAt_X0_sounds
theorem dX0_oftenAt_0 : decode cX0_oftenAt 0 = .ok (.iconst 0, 1) := by decide +kernel
theorem dX0_oftenAt_1 : decode cX0_oftenAt 1 = .ok (.istore_n 3, 1) := by decide +kernel
theorem dX0_oftenAt_2 : decode cX0_oftenAt 2 = .ok (.iconst 0, 1) := by decide +kernel
theorem dX0_oftenAt_3 : decode cX0_oftenAt 3 = .ok (.istore 4, 2) := by decide +kernel
theorem dX0_oftenAt_5 : decode cX0_oftenAt 5 = .ok (.iload 4, 2) := by decide +kernel
theorem dX0_oftenAt_7 : decode cX0_oftenAt 7 = .ok (.sipush 999, 3) := by decide +kernel
theorem dX0_oftenAt_10 : decode cX0_oftenAt 10 = .ok (.if_icmp .gt 23, 3) := by decide +kernel
theorem dX0_oftenAt_13 : decode cX0_oftenAt 13 = .ok (.aload_n 0, 1) := by decide +kernel
theorem dX0_oftenAt_14 : decode cX0_oftenAt 14 = .ok (.iload_n 1, 1) := by decide +kernel
theorem dX0_oftenAt_15 : decode cX0_oftenAt 15 = .ok (.iload_n 2, 1) := by decide +kernel
theorem dX0_oftenAt_16 : decode cX0_oftenAt 16 = .ok (.iload 4, 2) := by decide +kernel
theorem dX0_oftenAt_18 : decode cX0_oftenAt 18 = .ok (.invokevirtual 120, 3) := by decide +kernel
theorem dX0_oftenAt_21 : decode cX0_oftenAt 21 = .ok (.ifCond .eq 6, 3) := by decide +kernel
theorem dX0_oftenAt_24 : decode cX0_oftenAt 24 = .ok (.iinc 3 1, 3) := by decide +kernel
theorem dX0_oftenAt_27 : decode cX0_oftenAt 27 = .ok (.iinc 4 1, 3) := by decide +kernel
theorem dX0_oftenAt_30 : decode cX0_oftenAt 30 = .ok (.goto (-25), 3) := by decide +kernel
theorem dX0_oftenAt_33 : decode cX0_oftenAt 33 = .ok (.iload_n 3, 1) := by decide +kernel
theorem dX0_oftenAt_34 : decode cX0_oftenAt 34 = .ok (.ireturn, 1) := by decide +kernel
set_option maxRecDepth 20000 in
theorem ggX0_meetingOf_X0_strengthAfter : GoodIn wsX0_meetingOf wsX0_strengthAfter := goodIn_r _ [5, 6, 7, 8, 9, 10, 11, 12, 13, 14, 15, 16, 4, 17, 18, 19, 20, 21, 22, 23, 24, 25, 26, 27, 28, 29, 30, 31, 32, 33, 34, 53, 54, 55, 56, 57, 58, 59, 60, 61, 62, 63, 64, 65, 66, 67, 68] (by decide +kernel) (by decide +kernel)
set_option maxRecDepth 20000 in
theorem gX0_meetingOf_X0_strengthAfter : GoodIn wsX0_meetingOf (wsV RX0 93 RX0 yX0_strengthAfter wsX0_strengthAfter) := goodIn_app (goodIn_of _ (by decide +kernel)) ggX0_meetingOf_X0_strengthAfter
set_option maxRecDepth 20000 in
theorem ggX0_meetingOf_X0_placeAfter : GoodIn wsX0_meetingOf wsX0_placeAfter := goodIn_r _ [38, 6, 39, 40, 14, 15, 16, 4, 17, 18, 19, 20, 41, 42, 43, 44, 34, 45, 46, 47, 48, 53, 54, 55, 56, 57, 58, 59, 60, 61, 62, 63, 64, 65, 66, 67, 68] (by decide +kernel) (by decide +kernel)
set_option maxRecDepth 20000 in
theorem gX0_meetingOf_X0_placeAfter : GoodIn wsX0_meetingOf (wsV RX0 90 RX0 yX0_placeAfter wsX0_placeAfter) := goodIn_app (goodIn_of _ (by decide +kernel)) ggX0_meetingOf_X0_placeAfter
set_option maxRecDepth 20000 in
theorem ggX0_meetingOf_X0_sounds : GoodIn wsX0_meetingOf wsX0_sounds := goodIn_r _ [52, 35, 36, 37, 4, 38, 6, 39, 40, 14, 15, 16, 17, 18, 19, 20, 41, 42, 43, 44, 34, 45, 46, 47, 48, 1, 2, 3, 5, 7, 8, 9, 10, 11, 12, 13, 21, 22, 23, 24, 25, 26, 27, 28, 29, 30, 31, 32, 33, 53, 54, 55, 56, 57, 58, 59, 60, 61, 62, 63, 64, 65, 66, 67, 68] (by decide +kernel) (by decide +kernel)
set_option maxRecDepth 20000 in
theorem gX0_meetingOf_X0_sounds : GoodIn wsX0_meetingOf (wsV RX0 120 RX0 yX0_sounds wsX0_sounds) := goodIn_app (goodIn_of _ (by decide +kernel)) ggX0_meetingOf_X0_sounds
theorem dX0_meetingOf_0 : decode cX0_meetingOf 0 = .ok (.iconst 0, 1) := by decide +kernel
theorem dX0_meetingOf_1 : decode cX0_meetingOf 1 = .ok (.istore_n 3, 1) := by decide +kernel
theorem dX0_meetingOf_2 : decode cX0_meetingOf 2 = .ok (.iload_n 3, 1) := by decide +kernel
theorem dX0_meetingOf_3 : decode cX0_meetingOf 3 = .ok (.sipush 999, 3) := by decide +kernel
theorem dX0_meetingOf_6 : decode cX0_meetingOf 6 = .ok (.if_icmp .gt 35, 3) := by decide +kernel
theorem dX0_meetingOf_9 : decode cX0_meetingOf 9 = .ok (.aload_n 0, 1) := by decide +kernel
theorem dX0_meetingOf_10 : decode cX0_meetingOf 10 = .ok (.iload_n 1, 1) := by decide +kernel
theorem dX0_meetingOf_11 : decode cX0_meetingOf 11 = .ok (.iload_n 3, 1) := by decide +kernel
theorem dX0_meetingOf_12 : decode cX0_meetingOf 12 = .ok (.invokevirtual 93, 3) := by decide +kernel
theorem dX0_meetingOf_15 : decode cX0_meetingOf 15 = .ok (.ifCond .le 20, 3) := by decide +kernel
theorem dX0_meetingOf_18 : decode cX0_meetingOf 18 = .ok (.aload_n 0, 1) := by decide +kernel
theorem dX0_meetingOf_19 : decode cX0_meetingOf 19 = .ok (.iload_n 2, 1) := by decide +kernel
theorem dX0_meetingOf_20 : decode cX0_meetingOf 20 = .ok (.aload_n 0, 1) := by decide +kernel
theorem dX0_meetingOf_21 : decode cX0_meetingOf 21 = .ok (.iload_n 1, 1) := by decide +kernel
theorem dX0_meetingOf_22 : decode cX0_meetingOf 22 = .ok (.iload_n 3, 1) := by decide +kernel
theorem dX0_meetingOf_23 : decode cX0_meetingOf 23 = .ok (.invokevirtual 90, 3) := by decide +kernel
theorem dX0_meetingOf_26 : decode cX0_meetingOf 26 = .ok (.iload_n 3, 1) := by decide +kernel
theorem dX0_meetingOf_27 : decode cX0_meetingOf 27 = .ok (.invokevirtual 120, 3) := by decide +kernel
theorem dX0_meetingOf_30 : decode cX0_meetingOf 30 = .ok (.ifCond .eq 5, 3) := by decide +kernel
theorem dX0_meetingOf_33 : decode cX0_meetingOf 33 = .ok (.iload_n 3, 1) := by decide +kernel
theorem dX0_meetingOf_34 : decode cX0_meetingOf 34 = .ok (.ireturn, 1) := by decide +kernel
theorem dX0_meetingOf_35 : decode cX0_meetingOf 35 = .ok (.iinc 3 1, 3) := by decide +kernel
theorem dX0_meetingOf_38 : decode cX0_meetingOf 38 = .ok (.goto (-36), 3) := by decide +kernel
theorem dX0_meetingOf_41 : decode cX0_meetingOf 41 = .ok (.bipush (-9), 2) := by decide +kernel
theorem dX0_meetingOf_43 : decode cX0_meetingOf 43 = .ok (.ireturn, 1) := by decide +kernel
set_option maxRecDepth 20000 in
theorem ggX0_ticksTo_X0_reach : GoodIn wsX0_ticksTo wsX0_reach := goodIn_r _ [6, 1, 7, 8, 9, 10, 11, 12, 13, 14, 15, 16] (by decide +kernel) (by decide +kernel)
set_option maxRecDepth 20000 in
theorem gX0_ticksTo_X0_reach : GoodIn wsX0_ticksTo (wsV RX0 76 RX0 yX0_reach wsX0_reach) := goodIn_app (goodIn_of _ (by decide +kernel)) ggX0_ticksTo_X0_reach
theorem dX0_ticksTo_0 : decode cX0_ticksTo 0 = .ok (.iconst 0, 1) := by decide +kernel
theorem dX0_ticksTo_1 : decode cX0_ticksTo 1 = .ok (.istore 5, 2) := by decide +kernel
theorem dX0_ticksTo_3 : decode cX0_ticksTo 3 = .ok (.iload 5, 2) := by decide +kernel
theorem dX0_ticksTo_5 : decode cX0_ticksTo 5 = .ok (.aload_n 0, 1) := by decide +kernel
theorem dX0_ticksTo_6 : decode cX0_ticksTo 6 = .ok (.getfield 9, 3) := by decide +kernel
theorem dX0_ticksTo_9 : decode cX0_ticksTo 9 = .ok (.if_icmp .ge 27, 3) := by decide +kernel
theorem dX0_ticksTo_12 : decode cX0_ticksTo 12 = .ok (.aload_n 0, 1) := by decide +kernel
theorem dX0_ticksTo_13 : decode cX0_ticksTo 13 = .ok (.iload_n 1, 1) := by decide +kernel
theorem dX0_ticksTo_14 : decode cX0_ticksTo 14 = .ok (.iload 4, 2) := by decide +kernel
theorem dX0_ticksTo_16 : decode cX0_ticksTo 16 = .ok (.iload_n 3, 1) := by decide +kernel
theorem dX0_ticksTo_17 : decode cX0_ticksTo 17 = .ok (.iload 5, 2) := by decide +kernel
theorem dX0_ticksTo_19 : decode cX0_ticksTo 19 = .ok (.imul, 1) := by decide +kernel
theorem dX0_ticksTo_20 : decode cX0_ticksTo 20 = .ok (.invokevirtual 76, 3) := by decide +kernel
theorem dX0_ticksTo_23 : decode cX0_ticksTo 23 = .ok (.iload_n 2, 1) := by decide +kernel
theorem dX0_ticksTo_24 : decode cX0_ticksTo 24 = .ok (.if_icmp .ne 6, 3) := by decide +kernel
theorem dX0_ticksTo_27 : decode cX0_ticksTo 27 = .ok (.iload 5, 2) := by decide +kernel
theorem dX0_ticksTo_29 : decode cX0_ticksTo 29 = .ok (.ireturn, 1) := by decide +kernel
theorem dX0_ticksTo_30 : decode cX0_ticksTo 30 = .ok (.iinc 5 1, 3) := by decide +kernel
theorem dX0_ticksTo_33 : decode cX0_ticksTo 33 = .ok (.goto (-30), 3) := by decide +kernel
theorem dX0_ticksTo_36 : decode cX0_ticksTo 36 = .ok (.bipush (-9), 2) := by decide +kernel
theorem dX0_ticksTo_38 : decode cX0_ticksTo 38 = .ok (.ireturn, 1) := by decide +kernel
set_option maxRecDepth 20000 in
theorem ggX0_firstWait_X0_listen : GoodIn wsX0_firstWait wsX0_listen := goodIn_r _ [5, 6, 7, 8, 9, 10, 11, 12, 4, 13, 14, 15, 16, 17, 18, 19, 20, 21, 22, 23, 24, 25, 26, 27, 28, 29, 30, 31, 32, 33, 34, 35, 36, 37, 38, 39, 40, 41, 42, 43, 44, 45, 46, 47, 48, 49, 50, 51, 52, 53, 54, 55, 60, 61, 62, 63, 64, 65, 66, 67, 68, 69, 70, 71, 72, 73, 74, 75] (by decide +kernel) (by decide +kernel)
set_option maxRecDepth 20000 in
theorem gX0_firstWait_X0_listen : GoodIn wsX0_firstWait (wsV RX0 116 RX0 yX0_listen wsX0_listen) := goodIn_app (goodIn_of _ (by decide +kernel)) ggX0_firstWait_X0_listen
set_option maxRecDepth 20000 in
theorem ggX0_firstWait_X0_strengthAt : GoodIn wsX0_firstWait wsX0_strengthAt := goodIn_r _ [59, 6, 7, 8, 9, 60, 61, 62, 63, 64, 65, 66, 67, 68, 69, 70, 71, 72, 73, 74, 75] (by decide +kernel) (by decide +kernel)
set_option maxRecDepth 20000 in
theorem gX0_firstWait_X0_strengthAt : GoodIn wsX0_firstWait (wsV RX0 96 RX0 yX0_strengthAt wsX0_strengthAt) := goodIn_app (goodIn_of _ (by decide +kernel)) ggX0_firstWait_X0_strengthAt
theorem dX0_firstWait_0 : decode cX0_firstWait 0 = .ok (.iconst 0, 1) := by decide +kernel
theorem dX0_firstWait_1 : decode cX0_firstWait 1 = .ok (.istore 4, 2) := by decide +kernel
theorem dX0_firstWait_3 : decode cX0_firstWait 3 = .ok (.iload 4, 2) := by decide +kernel
theorem dX0_firstWait_5 : decode cX0_firstWait 5 = .ok (.bipush 99, 2) := by decide +kernel
theorem dX0_firstWait_7 : decode cX0_firstWait 7 = .ok (.if_icmp .gt 29, 3) := by decide +kernel
theorem dX0_firstWait_10 : decode cX0_firstWait 10 = .ok (.aload_n 0, 1) := by decide +kernel
theorem dX0_firstWait_11 : decode cX0_firstWait 11 = .ok (.iload 4, 2) := by decide +kernel
theorem dX0_firstWait_13 : decode cX0_firstWait 13 = .ok (.iload_n 2, 1) := by decide +kernel
theorem dX0_firstWait_14 : decode cX0_firstWait 14 = .ok (.iadd, 1) := by decide +kernel
theorem dX0_firstWait_15 : decode cX0_firstWait 15 = .ok (.invokevirtual 116, 3) := by decide +kernel
theorem dX0_firstWait_18 : decode cX0_firstWait 18 = .ok (.iload_n 3, 1) := by decide +kernel
theorem dX0_firstWait_19 : decode cX0_firstWait 19 = .ok (.aload_n 0, 1) := by decide +kernel
theorem dX0_firstWait_20 : decode cX0_firstWait 20 = .ok (.iload_n 1, 1) := by decide +kernel
theorem dX0_firstWait_21 : decode cX0_firstWait 21 = .ok (.invokevirtual 96, 3) := by decide +kernel
theorem dX0_firstWait_24 : decode cX0_firstWait 24 = .ok (.if_icmp .le 6, 3) := by decide +kernel
theorem dX0_firstWait_27 : decode cX0_firstWait 27 = .ok (.iload 4, 2) := by decide +kernel
theorem dX0_firstWait_29 : decode cX0_firstWait 29 = .ok (.ireturn, 1) := by decide +kernel
theorem dX0_firstWait_30 : decode cX0_firstWait 30 = .ok (.iinc 4 1, 3) := by decide +kernel
theorem dX0_firstWait_33 : decode cX0_firstWait 33 = .ok (.goto (-30), 3) := by decide +kernel
theorem dX0_firstWait_36 : decode cX0_firstWait 36 = .ok (.bipush (-9), 2) := by decide +kernel
theorem dX0_firstWait_38 : decode cX0_firstWait 38 = .ok (.ireturn, 1) := by decide +kernel
theorem dX1_init_0 : decode cX1_init 0 = .ok (.aload_n 0, 1) := by decide +kernel
theorem dX1_init_1 : decode cX1_init 1 = .ok (.invokespecial 3, 3) := by decide +kernel
theorem dX1_init_4 : decode cX1_init 4 = .ok (.aload_n 0, 1) := by decide +kernel
theorem dX1_init_5 : decode cX1_init 5 = .ok (.bipush 6, 2) := by decide +kernel
theorem dX1_init_7 : decode cX1_init 7 = .ok (.newarray .int, 2) := by decide +kernel
theorem dX1_init_9 : decode cX1_init 9 = .ok (.putfield 9, 3) := by decide +kernel
theorem dX1_init_12 : decode cX1_init 12 = .ok (.aload_n 0, 1) := by decide +kernel
theorem dX1_init_13 : decode cX1_init 13 = .ok (.bipush 6, 2) := by decide +kernel
theorem dX1_init_15 : decode cX1_init 15 = .ok (.newarray .int, 2) := by decide +kernel
theorem dX1_init_17 : decode cX1_init 17 = .ok (.putfield 15, 3) := by decide +kernel
theorem dX1_init_20 : decode cX1_init 20 = .ok (.aload_n 0, 1) := by decide +kernel
theorem dX1_init_21 : decode cX1_init 21 = .ok (.bipush 6, 2) := by decide +kernel
theorem dX1_init_23 : decode cX1_init 23 = .ok (.newarray .int, 2) := by decide +kernel
theorem dX1_init_25 : decode cX1_init 25 = .ok (.putfield 18, 3) := by decide +kernel
theorem dX1_init_28 : decode cX1_init 28 = .ok (.return_, 1) := by decide +kernel
theorem dX1_add_0 : decode cX1_add 0 = .ok (.aload_n 0, 1) := by decide +kernel
theorem dX1_add_1 : decode cX1_add 1 = .ok (.getfield 21, 3) := by decide +kernel
theorem dX1_add_4 : decode cX1_add 4 = .ok (.bipush 6, 2) := by decide +kernel
theorem dX1_add_6 : decode cX1_add 6 = .ok (.if_icmp .lt 5, 3) := by decide +kernel
theorem dX1_add_9 : decode cX1_add 9 = .ok (.iconst 0, 1) := by decide +kernel
theorem dX1_add_10 : decode cX1_add 10 = .ok (.ireturn, 1) := by decide +kernel
theorem dX1_add_11 : decode cX1_add 11 = .ok (.aload_n 0, 1) := by decide +kernel
theorem dX1_add_12 : decode cX1_add 12 = .ok (.getfield 9, 3) := by decide +kernel
theorem dX1_add_15 : decode cX1_add 15 = .ok (.aload_n 0, 1) := by decide +kernel
theorem dX1_add_16 : decode cX1_add 16 = .ok (.getfield 21, 3) := by decide +kernel
theorem dX1_add_19 : decode cX1_add 19 = .ok (.iload_n 1, 1) := by decide +kernel
theorem dX1_add_20 : decode cX1_add 20 = .ok (.iastore, 1) := by decide +kernel
theorem dX1_add_21 : decode cX1_add 21 = .ok (.aload_n 0, 1) := by decide +kernel
theorem dX1_add_22 : decode cX1_add 22 = .ok (.getfield 15, 3) := by decide +kernel
theorem dX1_add_25 : decode cX1_add 25 = .ok (.aload_n 0, 1) := by decide +kernel
theorem dX1_add_26 : decode cX1_add 26 = .ok (.getfield 21, 3) := by decide +kernel
theorem dX1_add_29 : decode cX1_add 29 = .ok (.iload_n 2, 1) := by decide +kernel
theorem dX1_add_30 : decode cX1_add 30 = .ok (.iastore, 1) := by decide +kernel
theorem dX1_add_31 : decode cX1_add 31 = .ok (.aload_n 0, 1) := by decide +kernel
theorem dX1_add_32 : decode cX1_add 32 = .ok (.getfield 18, 3) := by decide +kernel
theorem dX1_add_35 : decode cX1_add 35 = .ok (.aload_n 0, 1) := by decide +kernel
theorem dX1_add_36 : decode cX1_add 36 = .ok (.getfield 21, 3) := by decide +kernel
theorem dX1_add_39 : decode cX1_add 39 = .ok (.iload_n 3, 1) := by decide +kernel
theorem dX1_add_40 : decode cX1_add 40 = .ok (.iastore, 1) := by decide +kernel
theorem dX1_add_41 : decode cX1_add 41 = .ok (.aload_n 0, 1) := by decide +kernel
theorem dX1_add_42 : decode cX1_add 42 = .ok (.dup, 1) := by decide +kernel
theorem dX1_add_43 : decode cX1_add 43 = .ok (.getfield 21, 3) := by decide +kernel
theorem dX1_add_46 : decode cX1_add 46 = .ok (.iconst 1, 1) := by decide +kernel
theorem dX1_add_47 : decode cX1_add 47 = .ok (.iadd, 1) := by decide +kernel
theorem dX1_add_48 : decode cX1_add 48 = .ok (.putfield 21, 3) := by decide +kernel
theorem dX1_add_51 : decode cX1_add 51 = .ok (.iconst 1, 1) := by decide +kernel
theorem dX1_add_52 : decode cX1_add 52 = .ok (.ireturn, 1) := by decide +kernel
theorem dX1_placeIn_0 : decode cX1_placeIn 0 = .ok (.iload_n 0, 1) := by decide +kernel
theorem dX1_placeIn_1 : decode cX1_placeIn 1 = .ok (.bipush 12, 2) := by decide +kernel
theorem dX1_placeIn_3 : decode cX1_placeIn 3 = .ok (.idiv, 1) := by decide +kernel
theorem dX1_placeIn_4 : decode cX1_placeIn 4 = .ok (.ireturn, 1) := by decide +kernel
theorem dX1_speedIn_0 : decode cX1_speedIn 0 = .ok (.iload_n 0, 1) := by decide +kernel
theorem dX1_speedIn_1 : decode cX1_speedIn 1 = .ok (.bipush 12, 2) := by decide +kernel
theorem dX1_speedIn_3 : decode cX1_speedIn 3 = .ok (.irem, 1) := by decide +kernel
theorem dX1_speedIn_4 : decode cX1_speedIn 4 = .ok (.iconst 2, 1) := by decide +kernel
theorem dX1_speedIn_5 : decode cX1_speedIn 5 = .ok (.idiv, 1) := by decide +kernel
theorem dX1_speedIn_6 : decode cX1_speedIn 6 = .ok (.iconst 1, 1) := by decide +kernel
theorem dX1_speedIn_7 : decode cX1_speedIn 7 = .ok (.iadd, 1) := by decide +kernel
theorem dX1_speedIn_8 : decode cX1_speedIn 8 = .ok (.ireturn, 1) := by decide +kernel
theorem dX1_wayIn_0 : decode cX1_wayIn 0 = .ok (.iload_n 0, 1) := by decide +kernel
theorem dX1_wayIn_1 : decode cX1_wayIn 1 = .ok (.iconst 2, 1) := by decide +kernel
theorem dX1_wayIn_2 : decode cX1_wayIn 2 = .ok (.irem, 1) := by decide +kernel
theorem dX1_wayIn_3 : decode cX1_wayIn 3 = .ok (.ireturn, 1) := by decide +kernel
set_option maxRecDepth 20000 in
theorem ggX1_placeBehind_X1_placeIn : GoodIn wsX1_placeBehind wsX1_placeIn := goodIn_r _ [4] (by decide +kernel) (by decide +kernel)
set_option maxRecDepth 20000 in
theorem gX1_placeBehind_X1_placeIn : GoodIn wsX1_placeBehind (va_wsS RX1 25 yX1_placeIn wsX1_placeIn) := goodIn_app (goodIn_of _ (by decide +kernel)) ggX1_placeBehind_X1_placeIn
set_option maxRecDepth 20000 in
theorem ggX1_placeBehind_X1_wayIn : GoodIn wsX1_placeBehind wsX1_wayIn := goodIn_r _ [7] (by decide +kernel) (by decide +kernel)
set_option maxRecDepth 20000 in
theorem gX1_placeBehind_X1_wayIn : GoodIn wsX1_placeBehind (va_wsS RX1 29 yX1_wayIn wsX1_wayIn) := goodIn_app (goodIn_of _ (by decide +kernel)) ggX1_placeBehind_X1_wayIn
set_option maxRecDepth 20000 in
theorem ggX1_placeBehind_X1_speedIn : GoodIn wsX1_placeBehind wsX1_speedIn := goodIn_r _ [10] (by decide +kernel) (by decide +kernel)
set_option maxRecDepth 20000 in
theorem gX1_placeBehind_X1_speedIn : GoodIn wsX1_placeBehind (va_wsS RX1 32 yX1_speedIn wsX1_speedIn) := goodIn_app (goodIn_of _ (by decide +kernel)) ggX1_placeBehind_X1_speedIn
set_option maxRecDepth 20000 in
theorem ggX1_placeBehind_X0_reach : GoodIn wsX1_placeBehind wsX0_reach := goodIn_r _ [15, 16, 17, 18, 19, 20, 21, 22, 23, 24, 25, 26] (by decide +kernel) (by decide +kernel)
set_option maxRecDepth 20000 in
theorem gX1_placeBehind_X0_reach : GoodIn wsX1_placeBehind (wsV RX1 35 RX0 yX0_reach wsX0_reach) := goodIn_app (goodIn_of _ (by decide +kernel)) ggX1_placeBehind_X0_reach
theorem dX1_placeBehind_0 : decode cX1_placeBehind 0 = .ok (.aload_n 0, 1) := by decide +kernel
theorem dX1_placeBehind_1 : decode cX1_placeBehind 1 = .ok (.iload_n 1, 1) := by decide +kernel
theorem dX1_placeBehind_2 : decode cX1_placeBehind 2 = .ok (.invokestatic 25, 3) := by decide +kernel
theorem dX1_placeBehind_5 : decode cX1_placeBehind 5 = .ok (.iload_n 1, 1) := by decide +kernel
theorem dX1_placeBehind_6 : decode cX1_placeBehind 6 = .ok (.invokestatic 29, 3) := by decide +kernel
theorem dX1_placeBehind_9 : decode cX1_placeBehind 9 = .ok (.iload_n 1, 1) := by decide +kernel
theorem dX1_placeBehind_10 : decode cX1_placeBehind 10 = .ok (.invokestatic 32, 3) := by decide +kernel
theorem dX1_placeBehind_13 : decode cX1_placeBehind 13 = .ok (.iload_n 2, 1) := by decide +kernel
theorem dX1_placeBehind_14 : decode cX1_placeBehind 14 = .ok (.imul, 1) := by decide +kernel
theorem dX1_placeBehind_15 : decode cX1_placeBehind 15 = .ok (.invokevirtual 35, 3) := by decide +kernel
theorem dX1_placeBehind_18 : decode cX1_placeBehind 18 = .ok (.ireturn, 1) := by decide +kernel
set_option maxRecDepth 20000 in
theorem ggX1_fits_X1_placeBehind : GoodIn wsX1_fits wsX1_placeBehind := goodIn_r _ [8, 9, 10, 7, 11, 12, 13, 14, 15, 16, 17, 18, 19, 20, 21, 22, 23, 24, 25, 26, 27, 32, 33, 34, 35, 36, 37] (by decide +kernel) (by decide +kernel)
set_option maxRecDepth 20000 in
theorem gX1_fits_X1_placeBehind : GoodIn wsX1_fits (va_wsS RX1 41 yX1_placeBehind wsX1_placeBehind) := goodIn_app (goodIn_of _ (by decide +kernel)) ggX1_fits_X1_placeBehind
theorem dX1_fits_0 : decode cX1_fits 0 = .ok (.iconst 0, 1) := by decide +kernel
theorem dX1_fits_1 : decode cX1_fits 1 = .ok (.istore_n 3, 1) := by decide +kernel
theorem dX1_fits_2 : decode cX1_fits 2 = .ok (.iload_n 3, 1) := by decide +kernel
theorem dX1_fits_3 : decode cX1_fits 3 = .ok (.aload_n 0, 1) := by decide +kernel
theorem dX1_fits_4 : decode cX1_fits 4 = .ok (.getfield 21, 3) := by decide +kernel
theorem dX1_fits_7 : decode cX1_fits 7 = .ok (.if_icmp .ge 58, 3) := by decide +kernel
theorem dX1_fits_10 : decode cX1_fits 10 = .ok (.aload_n 1, 1) := by decide +kernel
theorem dX1_fits_11 : decode cX1_fits 11 = .ok (.iload_n 2, 1) := by decide +kernel
theorem dX1_fits_12 : decode cX1_fits 12 = .ok (.aload_n 0, 1) := by decide +kernel
theorem dX1_fits_13 : decode cX1_fits 13 = .ok (.getfield 15, 3) := by decide +kernel
theorem dX1_fits_16 : decode cX1_fits 16 = .ok (.iload_n 3, 1) := by decide +kernel
theorem dX1_fits_17 : decode cX1_fits 17 = .ok (.iaload, 1) := by decide +kernel
theorem dX1_fits_18 : decode cX1_fits 18 = .ok (.invokestatic 41, 3) := by decide +kernel
theorem dX1_fits_21 : decode cX1_fits 21 = .ok (.aload_n 0, 1) := by decide +kernel
theorem dX1_fits_22 : decode cX1_fits 22 = .ok (.getfield 9, 3) := by decide +kernel
theorem dX1_fits_25 : decode cX1_fits 25 = .ok (.iload_n 3, 1) := by decide +kernel
theorem dX1_fits_26 : decode cX1_fits 26 = .ok (.iaload, 1) := by decide +kernel
theorem dX1_fits_27 : decode cX1_fits 27 = .ok (.if_icmp .ne 7, 3) := by decide +kernel
theorem dX1_fits_30 : decode cX1_fits 30 = .ok (.iconst 1, 1) := by decide +kernel
theorem dX1_fits_31 : decode cX1_fits 31 = .ok (.goto 4, 3) := by decide +kernel
theorem dX1_fits_34 : decode cX1_fits 34 = .ok (.iconst 0, 1) := by decide +kernel
theorem dX1_fits_35 : decode cX1_fits 35 = .ok (.istore 4, 2) := by decide +kernel
theorem dX1_fits_37 : decode cX1_fits 37 = .ok (.iload 4, 2) := by decide +kernel
theorem dX1_fits_39 : decode cX1_fits 39 = .ok (.aload_n 0, 1) := by decide +kernel
theorem dX1_fits_40 : decode cX1_fits 40 = .ok (.getfield 18, 3) := by decide +kernel
theorem dX1_fits_43 : decode cX1_fits 43 = .ok (.iload_n 3, 1) := by decide +kernel
theorem dX1_fits_44 : decode cX1_fits 44 = .ok (.iaload, 1) := by decide +kernel
theorem dX1_fits_45 : decode cX1_fits 45 = .ok (.iconst 1, 1) := by decide +kernel
theorem dX1_fits_46 : decode cX1_fits 46 = .ok (.if_icmp .ne 7, 3) := by decide +kernel
theorem dX1_fits_49 : decode cX1_fits 49 = .ok (.iconst 1, 1) := by decide +kernel
theorem dX1_fits_50 : decode cX1_fits 50 = .ok (.goto 4, 3) := by decide +kernel
theorem dX1_fits_53 : decode cX1_fits 53 = .ok (.iconst 0, 1) := by decide +kernel
theorem dX1_fits_54 : decode cX1_fits 54 = .ok (.if_icmp .eq 5, 3) := by decide +kernel
theorem dX1_fits_57 : decode cX1_fits 57 = .ok (.iconst 0, 1) := by decide +kernel
theorem dX1_fits_58 : decode cX1_fits 58 = .ok (.ireturn, 1) := by decide +kernel
theorem dX1_fits_59 : decode cX1_fits 59 = .ok (.iinc 3 1, 3) := by decide +kernel
theorem dX1_fits_62 : decode cX1_fits 62 = .ok (.goto (-60), 3) := by decide +kernel
theorem dX1_fits_65 : decode cX1_fits 65 = .ok (.iconst 1, 1) := by decide +kernel
theorem dX1_fits_66 : decode cX1_fits 66 = .ok (.ireturn, 1) := by decide +kernel
theorem dX2_init_0 : decode cX2_init 0 = .ok (.aload_n 0, 1) := by decide +kernel
theorem dX2_init_1 : decode cX2_init 1 = .ok (.invokespecial 3, 3) := by decide +kernel
theorem dX2_init_4 : decode cX2_init 4 = .ok (.aload_n 0, 1) := by decide +kernel
theorem dX2_init_5 : decode cX2_init 5 = .ok (.bipush 8, 2) := by decide +kernel
theorem dX2_init_7 : decode cX2_init 7 = .ok (.newarray .int, 2) := by decide +kernel
theorem dX2_init_9 : decode cX2_init 9 = .ok (.putfield 9, 3) := by decide +kernel
theorem dX2_init_12 : decode cX2_init 12 = .ok (.aload_n 0, 1) := by decide +kernel
theorem dX2_init_13 : decode cX2_init 13 = .ok (.bipush 8, 2) := by decide +kernel
theorem dX2_init_15 : decode cX2_init 15 = .ok (.newarray .int, 2) := by decide +kernel
theorem dX2_init_17 : decode cX2_init 17 = .ok (.putfield 15, 3) := by decide +kernel
theorem dX2_init_20 : decode cX2_init 20 = .ok (.aload_n 0, 1) := by decide +kernel
theorem dX2_init_21 : decode cX2_init 21 = .ok (.bipush 8, 2) := by decide +kernel
theorem dX2_init_23 : decode cX2_init 23 = .ok (.newarray .int, 2) := by decide +kernel
theorem dX2_init_25 : decode cX2_init 25 = .ok (.putfield 18, 3) := by decide +kernel
theorem dX2_init_28 : decode cX2_init 28 = .ok (.aload_n 0, 1) := by decide +kernel
theorem dX2_init_29 : decode cX2_init 29 = .ok (.bipush 8, 2) := by decide +kernel
theorem dX2_init_31 : decode cX2_init 31 = .ok (.newarray .int, 2) := by decide +kernel
theorem dX2_init_33 : decode cX2_init 33 = .ok (.putfield 21, 3) := by decide +kernel
theorem dX2_init_36 : decode cX2_init 36 = .ok (.aload_n 0, 1) := by decide +kernel
theorem dX2_init_37 : decode cX2_init 37 = .ok (.bipush 8, 2) := by decide +kernel
theorem dX2_init_39 : decode cX2_init 39 = .ok (.newarray .int, 2) := by decide +kernel
theorem dX2_init_41 : decode cX2_init 41 = .ok (.putfield 24, 3) := by decide +kernel
theorem dX2_init_44 : decode cX2_init 44 = .ok (.aload_n 0, 1) := by decide +kernel
theorem dX2_init_45 : decode cX2_init 45 = .ok (.bipush 10, 2) := by decide +kernel
theorem dX2_init_47 : decode cX2_init 47 = .ok (.newarray .int, 2) := by decide +kernel
theorem dX2_init_49 : decode cX2_init 49 = .ok (.putfield 27, 3) := by decide +kernel
theorem dX2_init_52 : decode cX2_init 52 = .ok (.return_, 1) := by decide +kernel
theorem dX2_empty_0 : decode cX2_empty 0 = .ok (.aload_n 0, 1) := by decide +kernel
theorem dX2_empty_1 : decode cX2_empty 1 = .ok (.iconst 0, 1) := by decide +kernel
theorem dX2_empty_2 : decode cX2_empty 2 = .ok (.putfield 30, 3) := by decide +kernel
theorem dX2_empty_5 : decode cX2_empty 5 = .ok (.aload_n 0, 1) := by decide +kernel
theorem dX2_empty_6 : decode cX2_empty 6 = .ok (.iconst 0, 1) := by decide +kernel
theorem dX2_empty_7 : decode cX2_empty 7 = .ok (.putfield 34, 3) := by decide +kernel
theorem dX2_empty_10 : decode cX2_empty 10 = .ok (.aload_n 0, 1) := by decide +kernel
theorem dX2_empty_11 : decode cX2_empty 11 = .ok (.iconst 0, 1) := by decide +kernel
theorem dX2_empty_12 : decode cX2_empty 12 = .ok (.putfield 37, 3) := by decide +kernel
theorem dX2_empty_15 : decode cX2_empty 15 = .ok (.aload_n 0, 1) := by decide +kernel
theorem dX2_empty_16 : decode cX2_empty 16 = .ok (.iconst 0, 1) := by decide +kernel
theorem dX2_empty_17 : decode cX2_empty 17 = .ok (.putfield 40, 3) := by decide +kernel
theorem dX2_empty_20 : decode cX2_empty 20 = .ok (.return_, 1) := by decide +kernel
theorem dX2_become_0 : decode cX2_become 0 = .ok (.aload_n 0, 1) := by decide +kernel
theorem dX2_become_1 : decode cX2_become 1 = .ok (.aload_n 1, 1) := by decide +kernel
theorem dX2_become_2 : decode cX2_become 2 = .ok (.getfield 30, 3) := by decide +kernel
theorem dX2_become_5 : decode cX2_become 5 = .ok (.putfield 30, 3) := by decide +kernel
theorem dX2_become_8 : decode cX2_become 8 = .ok (.aload_n 0, 1) := by decide +kernel
theorem dX2_become_9 : decode cX2_become 9 = .ok (.aload_n 1, 1) := by decide +kernel
theorem dX2_become_10 : decode cX2_become 10 = .ok (.getfield 34, 3) := by decide +kernel
theorem dX2_become_13 : decode cX2_become 13 = .ok (.putfield 34, 3) := by decide +kernel
theorem dX2_become_16 : decode cX2_become 16 = .ok (.aload_n 0, 1) := by decide +kernel
theorem dX2_become_17 : decode cX2_become 17 = .ok (.aload_n 1, 1) := by decide +kernel
theorem dX2_become_18 : decode cX2_become 18 = .ok (.getfield 37, 3) := by decide +kernel
theorem dX2_become_21 : decode cX2_become 21 = .ok (.putfield 37, 3) := by decide +kernel
theorem dX2_become_24 : decode cX2_become 24 = .ok (.aload_n 0, 1) := by decide +kernel
theorem dX2_become_25 : decode cX2_become 25 = .ok (.aload_n 1, 1) := by decide +kernel
theorem dX2_become_26 : decode cX2_become 26 = .ok (.getfield 40, 3) := by decide +kernel
theorem dX2_become_29 : decode cX2_become 29 = .ok (.putfield 40, 3) := by decide +kernel
theorem dX2_become_32 : decode cX2_become 32 = .ok (.aload_n 1, 1) := by decide +kernel
theorem dX2_become_33 : decode cX2_become 33 = .ok (.getfield 9, 3) := by decide +kernel
theorem dX2_become_36 : decode cX2_become 36 = .ok (.iconst 0, 1) := by decide +kernel
theorem dX2_become_37 : decode cX2_become 37 = .ok (.aload_n 0, 1) := by decide +kernel
theorem dX2_become_38 : decode cX2_become 38 = .ok (.getfield 9, 3) := by decide +kernel
theorem dX2_become_41 : decode cX2_become 41 = .ok (.iconst 0, 1) := by decide +kernel
theorem dX2_become_42 : decode cX2_become 42 = .ok (.bipush 8, 2) := by decide +kernel
theorem dX2_become_44 : decode cX2_become 44 = .ok (.invokestatic 43, 3) := by decide +kernel
theorem dX2_become_47 : decode cX2_become 47 = .ok (.aload_n 1, 1) := by decide +kernel
theorem dX2_become_48 : decode cX2_become 48 = .ok (.getfield 15, 3) := by decide +kernel
theorem dX2_become_51 : decode cX2_become 51 = .ok (.iconst 0, 1) := by decide +kernel
theorem dX2_become_52 : decode cX2_become 52 = .ok (.aload_n 0, 1) := by decide +kernel
theorem dX2_become_53 : decode cX2_become 53 = .ok (.getfield 15, 3) := by decide +kernel
theorem dX2_become_56 : decode cX2_become 56 = .ok (.iconst 0, 1) := by decide +kernel
theorem dX2_become_57 : decode cX2_become 57 = .ok (.bipush 8, 2) := by decide +kernel
theorem dX2_become_59 : decode cX2_become 59 = .ok (.invokestatic 43, 3) := by decide +kernel
theorem dX2_become_62 : decode cX2_become 62 = .ok (.aload_n 1, 1) := by decide +kernel
theorem dX2_become_63 : decode cX2_become 63 = .ok (.getfield 18, 3) := by decide +kernel
theorem dX2_become_66 : decode cX2_become 66 = .ok (.iconst 0, 1) := by decide +kernel
theorem dX2_become_67 : decode cX2_become 67 = .ok (.aload_n 0, 1) := by decide +kernel
theorem dX2_become_68 : decode cX2_become 68 = .ok (.getfield 18, 3) := by decide +kernel
theorem dX2_become_71 : decode cX2_become 71 = .ok (.iconst 0, 1) := by decide +kernel
theorem dX2_become_72 : decode cX2_become 72 = .ok (.bipush 8, 2) := by decide +kernel
theorem dX2_become_74 : decode cX2_become 74 = .ok (.invokestatic 43, 3) := by decide +kernel
theorem dX2_become_77 : decode cX2_become 77 = .ok (.aload_n 1, 1) := by decide +kernel
theorem dX2_become_78 : decode cX2_become 78 = .ok (.getfield 21, 3) := by decide +kernel
theorem dX2_become_81 : decode cX2_become 81 = .ok (.iconst 0, 1) := by decide +kernel
theorem dX2_become_82 : decode cX2_become 82 = .ok (.aload_n 0, 1) := by decide +kernel
theorem dX2_become_83 : decode cX2_become 83 = .ok (.getfield 21, 3) := by decide +kernel
theorem dX2_become_86 : decode cX2_become 86 = .ok (.iconst 0, 1) := by decide +kernel
theorem dX2_become_87 : decode cX2_become 87 = .ok (.bipush 8, 2) := by decide +kernel
theorem dX2_become_89 : decode cX2_become 89 = .ok (.invokestatic 43, 3) := by decide +kernel
theorem dX2_become_92 : decode cX2_become 92 = .ok (.aload_n 1, 1) := by decide +kernel
theorem dX2_become_93 : decode cX2_become 93 = .ok (.getfield 24, 3) := by decide +kernel
theorem dX2_become_96 : decode cX2_become 96 = .ok (.iconst 0, 1) := by decide +kernel
theorem dX2_become_97 : decode cX2_become 97 = .ok (.aload_n 0, 1) := by decide +kernel
theorem dX2_become_98 : decode cX2_become 98 = .ok (.getfield 24, 3) := by decide +kernel
theorem dX2_become_101 : decode cX2_become 101 = .ok (.iconst 0, 1) := by decide +kernel
theorem dX2_become_102 : decode cX2_become 102 = .ok (.bipush 8, 2) := by decide +kernel
theorem dX2_become_104 : decode cX2_become 104 = .ok (.invokestatic 43, 3) := by decide +kernel
theorem dX2_become_107 : decode cX2_become 107 = .ok (.aload_n 1, 1) := by decide +kernel
theorem dX2_become_108 : decode cX2_become 108 = .ok (.getfield 27, 3) := by decide +kernel
theorem dX2_become_111 : decode cX2_become 111 = .ok (.iconst 0, 1) := by decide +kernel
theorem dX2_become_112 : decode cX2_become 112 = .ok (.aload_n 0, 1) := by decide +kernel
theorem dX2_become_113 : decode cX2_become 113 = .ok (.getfield 27, 3) := by decide +kernel
theorem dX2_become_116 : decode cX2_become 116 = .ok (.iconst 0, 1) := by decide +kernel
theorem dX2_become_117 : decode cX2_become 117 = .ok (.bipush 10, 2) := by decide +kernel
theorem dX2_become_119 : decode cX2_become 119 = .ok (.invokestatic 43, 3) := by decide +kernel
theorem dX2_become_122 : decode cX2_become 122 = .ok (.return_, 1) := by decide +kernel
theorem dX2_isHushed_0 : decode cX2_isHushed 0 = .ok (.aload_n 0, 1) := by decide +kernel
theorem dX2_isHushed_1 : decode cX2_isHushed 1 = .ok (.getfield 37, 3) := by decide +kernel
theorem dX2_isHushed_4 : decode cX2_isHushed 4 = .ok (.iload_n 1, 1) := by decide +kernel
theorem dX2_isHushed_5 : decode cX2_isHushed 5 = .ok (.ishr, 1) := by decide +kernel
theorem dX2_isHushed_6 : decode cX2_isHushed 6 = .ok (.iconst 1, 1) := by decide +kernel
theorem dX2_isHushed_7 : decode cX2_isHushed 7 = .ok (.iand, 1) := by decide +kernel
theorem dX2_isHushed_8 : decode cX2_isHushed 8 = .ok (.iconst 1, 1) := by decide +kernel
theorem dX2_isHushed_9 : decode cX2_isHushed 9 = .ok (.if_icmp .ne 7, 3) := by decide +kernel
theorem dX2_isHushed_12 : decode cX2_isHushed 12 = .ok (.iconst 1, 1) := by decide +kernel
theorem dX2_isHushed_13 : decode cX2_isHushed 13 = .ok (.goto 4, 3) := by decide +kernel
theorem dX2_isHushed_16 : decode cX2_isHushed 16 = .ok (.iconst 0, 1) := by decide +kernel
theorem dX2_isHushed_17 : decode cX2_isHushed 17 = .ok (.ireturn, 1) := by decide +kernel
theorem dX2_add_0 : decode cX2_add 0 = .ok (.aload_n 0, 1) := by decide +kernel
theorem dX2_add_1 : decode cX2_add 1 = .ok (.getfield 34, 3) := by decide +kernel
theorem dX2_add_4 : decode cX2_add 4 = .ok (.bipush 8, 2) := by decide +kernel
theorem dX2_add_6 : decode cX2_add 6 = .ok (.if_icmp .lt 5, 3) := by decide +kernel
theorem dX2_add_9 : decode cX2_add 9 = .ok (.iconst 0, 1) := by decide +kernel
theorem dX2_add_10 : decode cX2_add 10 = .ok (.ireturn, 1) := by decide +kernel
theorem dX2_add_11 : decode cX2_add 11 = .ok (.aload_n 0, 1) := by decide +kernel
theorem dX2_add_12 : decode cX2_add 12 = .ok (.getfield 9, 3) := by decide +kernel
theorem dX2_add_15 : decode cX2_add 15 = .ok (.aload_n 0, 1) := by decide +kernel
theorem dX2_add_16 : decode cX2_add 16 = .ok (.getfield 34, 3) := by decide +kernel
theorem dX2_add_19 : decode cX2_add 19 = .ok (.iload_n 1, 1) := by decide +kernel
theorem dX2_add_20 : decode cX2_add 20 = .ok (.iastore, 1) := by decide +kernel
theorem dX2_add_21 : decode cX2_add 21 = .ok (.aload_n 0, 1) := by decide +kernel
theorem dX2_add_22 : decode cX2_add 22 = .ok (.getfield 15, 3) := by decide +kernel
theorem dX2_add_25 : decode cX2_add 25 = .ok (.aload_n 0, 1) := by decide +kernel
theorem dX2_add_26 : decode cX2_add 26 = .ok (.getfield 34, 3) := by decide +kernel
theorem dX2_add_29 : decode cX2_add 29 = .ok (.iload_n 2, 1) := by decide +kernel
theorem dX2_add_30 : decode cX2_add 30 = .ok (.iastore, 1) := by decide +kernel
theorem dX2_add_31 : decode cX2_add 31 = .ok (.aload_n 0, 1) := by decide +kernel
theorem dX2_add_32 : decode cX2_add 32 = .ok (.getfield 18, 3) := by decide +kernel
theorem dX2_add_35 : decode cX2_add 35 = .ok (.aload_n 0, 1) := by decide +kernel
theorem dX2_add_36 : decode cX2_add 36 = .ok (.getfield 34, 3) := by decide +kernel
theorem dX2_add_39 : decode cX2_add 39 = .ok (.iload_n 3, 1) := by decide +kernel
theorem dX2_add_40 : decode cX2_add 40 = .ok (.iastore, 1) := by decide +kernel
theorem dX2_add_41 : decode cX2_add 41 = .ok (.aload_n 0, 1) := by decide +kernel
theorem dX2_add_42 : decode cX2_add 42 = .ok (.getfield 21, 3) := by decide +kernel
theorem dX2_add_45 : decode cX2_add 45 = .ok (.aload_n 0, 1) := by decide +kernel
theorem dX2_add_46 : decode cX2_add 46 = .ok (.getfield 34, 3) := by decide +kernel
theorem dX2_add_49 : decode cX2_add 49 = .ok (.iload 4, 2) := by decide +kernel
theorem dX2_add_51 : decode cX2_add 51 = .ok (.iastore, 1) := by decide +kernel
theorem dX2_add_52 : decode cX2_add 52 = .ok (.aload_n 0, 1) := by decide +kernel
theorem dX2_add_53 : decode cX2_add 53 = .ok (.getfield 24, 3) := by decide +kernel
theorem dX2_add_56 : decode cX2_add 56 = .ok (.aload_n 0, 1) := by decide +kernel
theorem dX2_add_57 : decode cX2_add 57 = .ok (.getfield 34, 3) := by decide +kernel
theorem dX2_add_60 : decode cX2_add 60 = .ok (.aload_n 0, 1) := by decide +kernel
theorem dX2_add_61 : decode cX2_add 61 = .ok (.getfield 30, 3) := by decide +kernel
theorem dX2_add_64 : decode cX2_add 64 = .ok (.iastore, 1) := by decide +kernel
theorem dX2_add_65 : decode cX2_add 65 = .ok (.aload_n 0, 1) := by decide +kernel
theorem dX2_add_66 : decode cX2_add 66 = .ok (.dup, 1) := by decide +kernel
theorem dX2_add_67 : decode cX2_add 67 = .ok (.getfield 34, 3) := by decide +kernel
theorem dX2_add_70 : decode cX2_add 70 = .ok (.iconst 1, 1) := by decide +kernel
theorem dX2_add_71 : decode cX2_add 71 = .ok (.iadd, 1) := by decide +kernel
theorem dX2_add_72 : decode cX2_add 72 = .ok (.putfield 34, 3) := by decide +kernel
theorem dX2_add_75 : decode cX2_add 75 = .ok (.iconst 1, 1) := by decide +kernel
theorem dX2_add_76 : decode cX2_add 76 = .ok (.ireturn, 1) := by decide +kernel
set_option maxRecDepth 20000 in
theorem ggX2_goBy_X2_note : GoodIn wsX2_goBy wsX2_note := goodIn_r _ [6, 7, 8, 9, 10, 11, 12, 13, 14, 15, 16, 17, 18, 19, 20, 21, 22] (by decide +kernel) (by decide +kernel)
set_option maxRecDepth 20000 in
theorem gX2_goBy_X2_note : GoodIn wsX2_goBy (wsV RX2 49 RX2 yX2_note wsX2_note) := goodIn_app (goodIn_of _ (by decide +kernel)) ggX2_goBy_X2_note
theorem dX2_goBy_0 : decode cX2_goBy 0 = .ok (.aload_n 0, 1) := by decide +kernel
theorem dX2_goBy_1 : decode cX2_goBy 1 = .ok (.dup, 1) := by decide +kernel
theorem dX2_goBy_2 : decode cX2_goBy 2 = .ok (.getfield 30, 3) := by decide +kernel
theorem dX2_goBy_5 : decode cX2_goBy 5 = .ok (.iload_n 1, 1) := by decide +kernel
theorem dX2_goBy_6 : decode cX2_goBy 6 = .ok (.iadd, 1) := by decide +kernel
theorem dX2_goBy_7 : decode cX2_goBy 7 = .ok (.putfield 30, 3) := by decide +kernel
theorem dX2_goBy_10 : decode cX2_goBy 10 = .ok (.aload_n 0, 1) := by decide +kernel
theorem dX2_goBy_11 : decode cX2_goBy 11 = .ok (.iload_n 1, 1) := by decide +kernel
theorem dX2_goBy_12 : decode cX2_goBy 12 = .ok (.invokevirtual 49, 3) := by decide +kernel
theorem dX2_goBy_15 : decode cX2_goBy 15 = .ok (.return_, 1) := by decide +kernel
set_option maxRecDepth 20000 in
theorem ggX2_hush_X2_note : GoodIn wsX2_hush wsX2_note := goodIn_r _ [6, 7, 8, 9, 10, 11, 12, 13, 14, 15, 16, 17, 18, 19, 20, 21, 22] (by decide +kernel) (by decide +kernel)
set_option maxRecDepth 20000 in
theorem gX2_hush_X2_note : GoodIn wsX2_hush (wsV RX2 49 RX2 yX2_note wsX2_note) := goodIn_app (goodIn_of _ (by decide +kernel)) ggX2_hush_X2_note
theorem dX2_hush_0 : decode cX2_hush 0 = .ok (.aload_n 0, 1) := by decide +kernel
theorem dX2_hush_1 : decode cX2_hush 1 = .ok (.dup, 1) := by decide +kernel
theorem dX2_hush_2 : decode cX2_hush 2 = .ok (.getfield 37, 3) := by decide +kernel
theorem dX2_hush_5 : decode cX2_hush 5 = .ok (.iconst 1, 1) := by decide +kernel
theorem dX2_hush_6 : decode cX2_hush 6 = .ok (.iload_n 1, 1) := by decide +kernel
theorem dX2_hush_7 : decode cX2_hush 7 = .ok (.ishl, 1) := by decide +kernel
theorem dX2_hush_8 : decode cX2_hush 8 = .ok (.ior, 1) := by decide +kernel
theorem dX2_hush_9 : decode cX2_hush 9 = .ok (.putfield 37, 3) := by decide +kernel
theorem dX2_hush_12 : decode cX2_hush 12 = .ok (.aload_n 0, 1) := by decide +kernel
theorem dX2_hush_13 : decode cX2_hush 13 = .ok (.iconst (-1), 1) := by decide +kernel
theorem dX2_hush_14 : decode cX2_hush 14 = .ok (.iload_n 1, 1) := by decide +kernel
theorem dX2_hush_15 : decode cX2_hush 15 = .ok (.isub, 1) := by decide +kernel
theorem dX2_hush_16 : decode cX2_hush 16 = .ok (.invokevirtual 49, 3) := by decide +kernel
theorem dX2_hush_19 : decode cX2_hush 19 = .ok (.return_, 1) := by decide +kernel
theorem dX2_note_0 : decode cX2_note 0 = .ok (.aload_n 0, 1) := by decide +kernel
theorem dX2_note_1 : decode cX2_note 1 = .ok (.getfield 40, 3) := by decide +kernel
theorem dX2_note_4 : decode cX2_note 4 = .ok (.bipush 10, 2) := by decide +kernel
theorem dX2_note_6 : decode cX2_note 6 = .ok (.if_icmp .lt 24, 3) := by decide +kernel
theorem dX2_note_9 : decode cX2_note 9 = .ok (.aload_n 0, 1) := by decide +kernel
theorem dX2_note_10 : decode cX2_note 10 = .ok (.getfield 27, 3) := by decide +kernel
theorem dX2_note_13 : decode cX2_note 13 = .ok (.iconst 1, 1) := by decide +kernel
theorem dX2_note_14 : decode cX2_note 14 = .ok (.aload_n 0, 1) := by decide +kernel
theorem dX2_note_15 : decode cX2_note 15 = .ok (.getfield 27, 3) := by decide +kernel
theorem dX2_note_18 : decode cX2_note 18 = .ok (.iconst 0, 1) := by decide +kernel
theorem dX2_note_19 : decode cX2_note 19 = .ok (.bipush 9, 2) := by decide +kernel
theorem dX2_note_21 : decode cX2_note 21 = .ok (.invokestatic 43, 3) := by decide +kernel
theorem dX2_note_24 : decode cX2_note 24 = .ok (.aload_n 0, 1) := by decide +kernel
theorem dX2_note_25 : decode cX2_note 25 = .ok (.bipush 9, 2) := by decide +kernel
theorem dX2_note_27 : decode cX2_note 27 = .ok (.putfield 40, 3) := by decide +kernel
theorem dX2_note_30 : decode cX2_note 30 = .ok (.aload_n 0, 1) := by decide +kernel
theorem dX2_note_31 : decode cX2_note 31 = .ok (.getfield 27, 3) := by decide +kernel
theorem dX2_note_34 : decode cX2_note 34 = .ok (.aload_n 0, 1) := by decide +kernel
theorem dX2_note_35 : decode cX2_note 35 = .ok (.getfield 40, 3) := by decide +kernel
theorem dX2_note_38 : decode cX2_note 38 = .ok (.iload_n 1, 1) := by decide +kernel
theorem dX2_note_39 : decode cX2_note 39 = .ok (.iastore, 1) := by decide +kernel
theorem dX2_note_40 : decode cX2_note 40 = .ok (.aload_n 0, 1) := by decide +kernel
theorem dX2_note_41 : decode cX2_note 41 = .ok (.dup, 1) := by decide +kernel
theorem dX2_note_42 : decode cX2_note 42 = .ok (.getfield 40, 3) := by decide +kernel
theorem dX2_note_45 : decode cX2_note 45 = .ok (.iconst 1, 1) := by decide +kernel
theorem dX2_note_46 : decode cX2_note 46 = .ok (.iadd, 1) := by decide +kernel
theorem dX2_note_47 : decode cX2_note 47 = .ok (.putfield 40, 3) := by decide +kernel
theorem dX2_note_50 : decode cX2_note 50 = .ok (.return_, 1) := by decide +kernel
theorem dX2_takeBack_0 : decode cX2_takeBack 0 = .ok (.aload_n 0, 1) := by decide +kernel
theorem dX2_takeBack_1 : decode cX2_takeBack 1 = .ok (.getfield 40, 3) := by decide +kernel
theorem dX2_takeBack_4 : decode cX2_takeBack 4 = .ok (.ifCond .gt 5, 3) := by decide +kernel
theorem dX2_takeBack_7 : decode cX2_takeBack 7 = .ok (.iconst 0, 1) := by decide +kernel
theorem dX2_takeBack_8 : decode cX2_takeBack 8 = .ok (.ireturn, 1) := by decide +kernel
theorem dX2_takeBack_9 : decode cX2_takeBack 9 = .ok (.aload_n 0, 1) := by decide +kernel
theorem dX2_takeBack_10 : decode cX2_takeBack 10 = .ok (.dup, 1) := by decide +kernel
theorem dX2_takeBack_11 : decode cX2_takeBack 11 = .ok (.getfield 40, 3) := by decide +kernel
theorem dX2_takeBack_14 : decode cX2_takeBack 14 = .ok (.iconst 1, 1) := by decide +kernel
theorem dX2_takeBack_15 : decode cX2_takeBack 15 = .ok (.isub, 1) := by decide +kernel
theorem dX2_takeBack_16 : decode cX2_takeBack 16 = .ok (.putfield 40, 3) := by decide +kernel
theorem dX2_takeBack_19 : decode cX2_takeBack 19 = .ok (.aload_n 0, 1) := by decide +kernel
theorem dX2_takeBack_20 : decode cX2_takeBack 20 = .ok (.getfield 27, 3) := by decide +kernel
theorem dX2_takeBack_23 : decode cX2_takeBack 23 = .ok (.aload_n 0, 1) := by decide +kernel
theorem dX2_takeBack_24 : decode cX2_takeBack 24 = .ok (.getfield 40, 3) := by decide +kernel
theorem dX2_takeBack_27 : decode cX2_takeBack 27 = .ok (.iaload, 1) := by decide +kernel
theorem dX2_takeBack_28 : decode cX2_takeBack 28 = .ok (.istore_n 1, 1) := by decide +kernel
theorem dX2_takeBack_29 : decode cX2_takeBack 29 = .ok (.iload_n 1, 1) := by decide +kernel
theorem dX2_takeBack_30 : decode cX2_takeBack 30 = .ok (.ifCond .ne 16, 3) := by decide +kernel
theorem dX2_takeBack_33 : decode cX2_takeBack 33 = .ok (.aload_n 0, 1) := by decide +kernel
theorem dX2_takeBack_34 : decode cX2_takeBack 34 = .ok (.dup, 1) := by decide +kernel
theorem dX2_takeBack_35 : decode cX2_takeBack 35 = .ok (.getfield 34, 3) := by decide +kernel
theorem dX2_takeBack_38 : decode cX2_takeBack 38 = .ok (.iconst 1, 1) := by decide +kernel
theorem dX2_takeBack_39 : decode cX2_takeBack 39 = .ok (.isub, 1) := by decide +kernel
theorem dX2_takeBack_40 : decode cX2_takeBack 40 = .ok (.putfield 34, 3) := by decide +kernel
theorem dX2_takeBack_43 : decode cX2_takeBack 43 = .ok (.goto 36, 3) := by decide +kernel
theorem dX2_takeBack_46 : decode cX2_takeBack 46 = .ok (.iload_n 1, 1) := by decide +kernel
theorem dX2_takeBack_47 : decode cX2_takeBack 47 = .ok (.ifCond .le 16, 3) := by decide +kernel
theorem dX2_takeBack_50 : decode cX2_takeBack 50 = .ok (.aload_n 0, 1) := by decide +kernel
theorem dX2_takeBack_51 : decode cX2_takeBack 51 = .ok (.dup, 1) := by decide +kernel
theorem dX2_takeBack_52 : decode cX2_takeBack 52 = .ok (.getfield 30, 3) := by decide +kernel
theorem dX2_takeBack_55 : decode cX2_takeBack 55 = .ok (.iload_n 1, 1) := by decide +kernel
theorem dX2_takeBack_56 : decode cX2_takeBack 56 = .ok (.isub, 1) := by decide +kernel
theorem dX2_takeBack_57 : decode cX2_takeBack 57 = .ok (.putfield 30, 3) := by decide +kernel
theorem dX2_takeBack_60 : decode cX2_takeBack 60 = .ok (.goto 19, 3) := by decide +kernel
theorem dX2_takeBack_63 : decode cX2_takeBack 63 = .ok (.aload_n 0, 1) := by decide +kernel
theorem dX2_takeBack_64 : decode cX2_takeBack 64 = .ok (.dup, 1) := by decide +kernel
theorem dX2_takeBack_65 : decode cX2_takeBack 65 = .ok (.getfield 37, 3) := by decide +kernel
theorem dX2_takeBack_68 : decode cX2_takeBack 68 = .ok (.iconst 1, 1) := by decide +kernel
theorem dX2_takeBack_69 : decode cX2_takeBack 69 = .ok (.iconst (-1), 1) := by decide +kernel
theorem dX2_takeBack_70 : decode cX2_takeBack 70 = .ok (.iload_n 1, 1) := by decide +kernel
theorem dX2_takeBack_71 : decode cX2_takeBack 71 = .ok (.isub, 1) := by decide +kernel
theorem dX2_takeBack_72 : decode cX2_takeBack 72 = .ok (.ishl, 1) := by decide +kernel
theorem dX2_takeBack_73 : decode cX2_takeBack 73 = .ok (.iconst (-1), 1) := by decide +kernel
theorem dX2_takeBack_74 : decode cX2_takeBack 74 = .ok (.ixor, 1) := by decide +kernel
theorem dX2_takeBack_75 : decode cX2_takeBack 75 = .ok (.iand, 1) := by decide +kernel
theorem dX2_takeBack_76 : decode cX2_takeBack 76 = .ok (.putfield 37, 3) := by decide +kernel
theorem dX2_takeBack_79 : decode cX2_takeBack 79 = .ok (.iconst 1, 1) := by decide +kernel
theorem dX2_takeBack_80 : decode cX2_takeBack 80 = .ok (.ireturn, 1) := by decide +kernel
theorem dX3_init_0 : decode cX3_init 0 = .ok (.aload_n 0, 1) := by decide +kernel
theorem dX3_init_1 : decode cX3_init 1 = .ok (.invokespecial 3, 3) := by decide +kernel
theorem dX3_init_4 : decode cX3_init 4 = .ok (.aload_n 0, 1) := by decide +kernel
theorem dX3_init_5 : decode cX3_init 5 = .ok (.bipush 120, 2) := by decide +kernel
theorem dX3_init_7 : decode cX3_init 7 = .ok (.newarray .int, 2) := by decide +kernel
theorem dX3_init_9 : decode cX3_init 9 = .ok (.putfield 9, 3) := by decide +kernel
theorem dX3_init_12 : decode cX3_init 12 = .ok (.return_, 1) := by decide +kernel
theorem dX3_append_0 : decode cX3_append 0 = .ok (.aload_n 0, 1) := by decide +kernel
theorem dX3_append_1 : decode cX3_append 1 = .ok (.getfield 15, 3) := by decide +kernel
theorem dX3_append_4 : decode cX3_append 4 = .ok (.bipush 120, 2) := by decide +kernel
theorem dX3_append_6 : decode cX3_append 6 = .ok (.if_icmp .lt 5, 3) := by decide +kernel
theorem dX3_append_9 : decode cX3_append 9 = .ok (.iconst 0, 1) := by decide +kernel
theorem dX3_append_10 : decode cX3_append 10 = .ok (.ireturn, 1) := by decide +kernel
theorem dX3_append_11 : decode cX3_append 11 = .ok (.aload_n 0, 1) := by decide +kernel
theorem dX3_append_12 : decode cX3_append 12 = .ok (.getfield 9, 3) := by decide +kernel
theorem dX3_append_15 : decode cX3_append 15 = .ok (.aload_n 0, 1) := by decide +kernel
theorem dX3_append_16 : decode cX3_append 16 = .ok (.getfield 15, 3) := by decide +kernel
theorem dX3_append_19 : decode cX3_append 19 = .ok (.iload_n 1, 1) := by decide +kernel
theorem dX3_append_20 : decode cX3_append 20 = .ok (.iastore, 1) := by decide +kernel
theorem dX3_append_21 : decode cX3_append 21 = .ok (.aload_n 0, 1) := by decide +kernel
theorem dX3_append_22 : decode cX3_append 22 = .ok (.dup, 1) := by decide +kernel
theorem dX3_append_23 : decode cX3_append 23 = .ok (.getfield 15, 3) := by decide +kernel
theorem dX3_append_26 : decode cX3_append 26 = .ok (.iconst 1, 1) := by decide +kernel
theorem dX3_append_27 : decode cX3_append 27 = .ok (.iadd, 1) := by decide +kernel
theorem dX3_append_28 : decode cX3_append 28 = .ok (.putfield 15, 3) := by decide +kernel
theorem dX3_append_31 : decode cX3_append 31 = .ok (.iconst 1, 1) := by decide +kernel
theorem dX3_append_32 : decode cX3_append 32 = .ok (.ireturn, 1) := by decide +kernel
set_option maxRecDepth 20000 in
theorem ggX3_readInto_X0_empty : GoodIn wsX3_readInto wsX0_empty := goodIn_r _ [9, 10, 11, 12, 13, 14, 15, 16, 17, 18, 19, 20, 21, 22, 90, 91, 92, 93, 94, 95, 96, 97, 98, 99, 100, 101, 102, 103, 104, 105] (by decide +kernel) (by decide +kernel)
set_option maxRecDepth 20000 in
theorem gX3_readInto_X0_empty : GoodIn wsX3_readInto (wsV RX3 19 RX0 yX0_empty wsX0_empty) := goodIn_app (goodIn_of _ (by decide +kernel)) ggX3_readInto_X0_empty
set_option maxRecDepth 20000 in
theorem ggX3_readInto_X3_step : GoodIn wsX3_readInto wsX3_step := goodIn_r _ [27, 2, 28, 29, 4, 3, 30, 31, 32, 26, 33, 34, 35, 36, 37, 83, 84, 85, 86, 87, 88, 89] (by decide +kernel) (by decide +kernel)
set_option maxRecDepth 20000 in
theorem gX3_readInto_X3_step : GoodIn wsX3_readInto (wsV RX3 31 RX3 yX3_step wsX3_step) := goodIn_app (goodIn_of _ (by decide +kernel)) ggX3_readInto_X3_step
set_option maxRecDepth 20000 in
theorem ggX3_readInto_X3_readItem : GoodIn wsX3_readInto wsX3_readItem := goodIn_r _ [41, 3, 30, 1, 42, 43, 44, 45, 46, 26, 47, 48, 49, 50, 51, 52, 23, 24, 25, 27, 2, 28, 29, 4, 31, 32, 33, 34, 35, 36, 37, 53, 54, 55, 56, 57, 58, 59, 60, 61, 62, 63, 64, 65, 66, 67, 68, 69, 70, 71, 72, 73, 74, 75, 76, 17, 77, 20, 78, 79, 80, 81, 82, 19, 83, 84, 85, 86, 87, 88, 89, 90, 91, 92, 93, 94, 95, 96, 97, 98, 99, 100, 101, 102, 103, 104, 105] (by decide +kernel) (by decide +kernel)
set_option maxRecDepth 20000 in
theorem gX3_readInto_X3_readItem : GoodIn wsX3_readInto (wsV RX3 37 RX3 yX3_readItem wsX3_readItem) := goodIn_app (goodIn_of _ (by decide +kernel)) ggX3_readInto_X3_readItem
theorem dX3_readInto_0 : decode cX3_readInto 0 = .ok (.aload_n 1, 1) := by decide +kernel
theorem dX3_readInto_1 : decode cX3_readInto 1 = .ok (.invokevirtual 19, 3) := by decide +kernel
theorem dX3_readInto_4 : decode cX3_readInto 4 = .ok (.aload_n 0, 1) := by decide +kernel
theorem dX3_readInto_5 : decode cX3_readInto 5 = .ok (.iconst 0, 1) := by decide +kernel
theorem dX3_readInto_6 : decode cX3_readInto 6 = .ok (.putfield 24, 3) := by decide +kernel
theorem dX3_readInto_9 : decode cX3_readInto 9 = .ok (.aload_n 0, 1) := by decide +kernel
theorem dX3_readInto_10 : decode cX3_readInto 10 = .ok (.iconst 0, 1) := by decide +kernel
theorem dX3_readInto_11 : decode cX3_readInto 11 = .ok (.putfield 28, 3) := by decide +kernel
theorem dX3_readInto_14 : decode cX3_readInto 14 = .ok (.iconst 0, 1) := by decide +kernel
theorem dX3_readInto_15 : decode cX3_readInto 15 = .ok (.istore_n 2, 1) := by decide +kernel
theorem dX3_readInto_16 : decode cX3_readInto 16 = .ok (.aload_n 0, 1) := by decide +kernel
theorem dX3_readInto_17 : decode cX3_readInto 17 = .ok (.invokevirtual 31, 3) := by decide +kernel
theorem dX3_readInto_20 : decode cX3_readInto 20 = .ok (.iload_n 2, 1) := by decide +kernel
theorem dX3_readInto_21 : decode cX3_readInto 21 = .ok (.bipush 120, 2) := by decide +kernel
theorem dX3_readInto_23 : decode cX3_readInto 23 = .ok (.if_icmp .ge 33, 3) := by decide +kernel
theorem dX3_readInto_26 : decode cX3_readInto 26 = .ok (.aload_n 0, 1) := by decide +kernel
theorem dX3_readInto_27 : decode cX3_readInto 27 = .ok (.getfield 34, 3) := by decide +kernel
theorem dX3_readInto_30 : decode cX3_readInto 30 = .ok (.ifCond .eq 26, 3) := by decide +kernel
theorem dX3_readInto_33 : decode cX3_readInto 33 = .ok (.aload_n 0, 1) := by decide +kernel
theorem dX3_readInto_34 : decode cX3_readInto 34 = .ok (.aload_n 1, 1) := by decide +kernel
theorem dX3_readInto_35 : decode cX3_readInto 35 = .ok (.iload_n 2, 1) := by decide +kernel
theorem dX3_readInto_36 : decode cX3_readInto 36 = .ok (.invokevirtual 37, 3) := by decide +kernel
theorem dX3_readInto_39 : decode cX3_readInto 39 = .ok (.ifCond .ne 11, 3) := by decide +kernel
theorem dX3_readInto_42 : decode cX3_readInto 42 = .ok (.bipush (-10), 2) := by decide +kernel
theorem dX3_readInto_44 : decode cX3_readInto 44 = .ok (.aload_n 0, 1) := by decide +kernel
theorem dX3_readInto_45 : decode cX3_readInto 45 = .ok (.getfield 41, 3) := by decide +kernel
theorem dX3_readInto_48 : decode cX3_readInto 48 = .ok (.isub, 1) := by decide +kernel
theorem dX3_readInto_49 : decode cX3_readInto 49 = .ok (.ireturn, 1) := by decide +kernel
theorem dX3_readInto_50 : decode cX3_readInto 50 = .ok (.iinc 2 1, 3) := by decide +kernel
theorem dX3_readInto_53 : decode cX3_readInto 53 = .ok (.goto (-33), 3) := by decide +kernel
theorem dX3_readInto_56 : decode cX3_readInto 56 = .ok (.iload_n 2, 1) := by decide +kernel
theorem dX3_readInto_57 : decode cX3_readInto 57 = .ok (.ireturn, 1) := by decide +kernel
set_option maxRecDepth 20000 in
theorem ggX3_readItem_X3_readPlaces : GoodIn wsX3_readItem wsX3_readPlaces := goodIn_r _ [10, 2, 11, 12, 13, 14, 9, 15, 1, 16, 17, 18, 19, 20, 21, 22, 23, 24, 25, 26, 27, 28, 29, 30, 31, 32, 33, 34, 35, 36, 37, 64, 65, 66, 67, 68, 69, 70, 71, 72, 73, 74, 75, 76] (by decide +kernel) (by decide +kernel)
set_option maxRecDepth 20000 in
theorem gX3_readItem_X3_readPlaces : GoodIn wsX3_readItem (wsV RX3 47 RX3 yX3_readPlaces wsX3_readPlaces) := goodIn_app (goodIn_of _ (by decide +kernel)) ggX3_readItem_X3_readPlaces
set_option maxRecDepth 20000 in
theorem ggX3_readItem_X3_readLoss : GoodIn wsX3_readItem wsX3_readLoss := goodIn_r _ [41, 2, 42, 3, 12, 13, 14, 9, 15, 1, 16, 17, 18, 19, 20, 21, 22, 23, 24, 25, 26, 27, 28, 29, 30, 31, 32, 33, 34, 35, 36, 37, 64, 65, 66, 67, 68, 69, 70, 71, 72, 73, 74, 75, 76] (by decide +kernel) (by decide +kernel)
set_option maxRecDepth 20000 in
theorem gX3_readItem_X3_readLoss : GoodIn wsX3_readItem (wsV RX3 51 RX3 yX3_readLoss wsX3_readLoss) := goodIn_app (goodIn_of _ (by decide +kernel)) ggX3_readItem_X3_readLoss
set_option maxRecDepth 20000 in
theorem ggX3_readItem_X3_readNiche : GoodIn wsX3_readItem wsX3_readNiche := goodIn_r _ [46, 11, 47, 2, 12, 13, 14, 9, 15, 1, 16, 17, 18, 19, 20, 21, 22, 23, 24, 25, 26, 27, 28, 29, 30, 31, 32, 33, 34, 35, 36, 37, 71, 72, 73, 74, 75, 76, 64, 65, 66, 67, 68, 69, 70] (by decide +kernel) (by decide +kernel)
set_option maxRecDepth 20000 in
theorem gX3_readItem_X3_readNiche : GoodIn wsX3_readItem (wsV RX3 54 RX3 yX3_readNiche wsX3_readNiche) := goodIn_app (goodIn_of _ (by decide +kernel)) ggX3_readItem_X3_readNiche
set_option maxRecDepth 20000 in
theorem ggX3_readItem_X3_readSaying : GoodIn wsX3_readItem wsX3_readSaying := goodIn_r _ [51, 11, 2, 4, 12, 13, 14, 9, 15, 1, 16, 17, 18, 19, 20, 21, 22, 23, 24, 25, 26, 27, 28, 29, 30, 31, 32, 33, 52, 53, 54, 55, 56, 57, 58, 59, 60, 61, 62, 63, 34, 35, 36, 37, 71, 72, 73, 74, 75, 76, 64, 65, 66, 67, 68, 69, 70, 77, 78, 79, 80, 81, 82, 83, 84, 85, 86] (by decide +kernel) (by decide +kernel)
set_option maxRecDepth 20000 in
theorem gX3_readItem_X3_readSaying : GoodIn wsX3_readItem (wsV RX3 66 RX3 yX3_readSaying wsX3_readSaying) := goodIn_app (goodIn_of _ (by decide +kernel)) ggX3_readItem_X3_readSaying
theorem dX3_readItem_0 : decode cX3_readItem 0 = .ok (.aload_n 0, 1) := by decide +kernel
theorem dX3_readItem_1 : decode cX3_readItem 1 = .ok (.getfield 34, 3) := by decide +kernel
theorem dX3_readItem_4 : decode cX3_readItem 4 = .ok (.iconst 1, 1) := by decide +kernel
theorem dX3_readItem_5 : decode cX3_readItem 5 = .ok (.if_icmp .eq 5, 3) := by decide +kernel
theorem dX3_readItem_8 : decode cX3_readItem 8 = .ok (.iconst 0, 1) := by decide +kernel
theorem dX3_readItem_9 : decode cX3_readItem 9 = .ok (.ireturn, 1) := by decide +kernel
theorem dX3_readItem_10 : decode cX3_readItem 10 = .ok (.aload_n 0, 1) := by decide +kernel
theorem dX3_readItem_11 : decode cX3_readItem 11 = .ok (.getfield 44, 3) := by decide +kernel
theorem dX3_readItem_14 : decode cX3_readItem 14 = .ok (.lookupswitch 113 #[(104, 81), (108, 60), (110, 42), (115, 87)], 42) := by decide +kernel
theorem dX3_readItem_56 : decode cX3_readItem 56 = .ok (.iload_n 2, 1) := by decide +kernel
theorem dX3_readItem_57 : decode cX3_readItem 57 = .ok (.ifCond .ne 15, 3) := by decide +kernel
theorem dX3_readItem_60 : decode cX3_readItem 60 = .ok (.aload_n 0, 1) := by decide +kernel
theorem dX3_readItem_61 : decode cX3_readItem 61 = .ok (.aload_n 1, 1) := by decide +kernel
theorem dX3_readItem_62 : decode cX3_readItem 62 = .ok (.invokevirtual 47, 3) := by decide +kernel
theorem dX3_readItem_65 : decode cX3_readItem 65 = .ok (.ifCond .eq 7, 3) := by decide +kernel
theorem dX3_readItem_68 : decode cX3_readItem 68 = .ok (.iconst 1, 1) := by decide +kernel
theorem dX3_readItem_69 : decode cX3_readItem 69 = .ok (.goto 4, 3) := by decide +kernel
theorem dX3_readItem_72 : decode cX3_readItem 72 = .ok (.iconst 0, 1) := by decide +kernel
theorem dX3_readItem_73 : decode cX3_readItem 73 = .ok (.ireturn, 1) := by decide +kernel
theorem dX3_readItem_74 : decode cX3_readItem 74 = .ok (.aload_n 0, 1) := by decide +kernel
theorem dX3_readItem_75 : decode cX3_readItem 75 = .ok (.getfield 24, 3) := by decide +kernel
theorem dX3_readItem_78 : decode cX3_readItem 78 = .ok (.ifCond .ne 15, 3) := by decide +kernel
theorem dX3_readItem_81 : decode cX3_readItem 81 = .ok (.aload_n 0, 1) := by decide +kernel
theorem dX3_readItem_82 : decode cX3_readItem 82 = .ok (.aload_n 1, 1) := by decide +kernel
theorem dX3_readItem_83 : decode cX3_readItem 83 = .ok (.invokevirtual 51, 3) := by decide +kernel
theorem dX3_readItem_86 : decode cX3_readItem 86 = .ok (.ifCond .eq 7, 3) := by decide +kernel
theorem dX3_readItem_89 : decode cX3_readItem 89 = .ok (.iconst 1, 1) := by decide +kernel
theorem dX3_readItem_90 : decode cX3_readItem 90 = .ok (.goto 4, 3) := by decide +kernel
theorem dX3_readItem_93 : decode cX3_readItem 93 = .ok (.iconst 0, 1) := by decide +kernel
theorem dX3_readItem_94 : decode cX3_readItem 94 = .ok (.ireturn, 1) := by decide +kernel
theorem dX3_readItem_95 : decode cX3_readItem 95 = .ok (.aload_n 0, 1) := by decide +kernel
theorem dX3_readItem_96 : decode cX3_readItem 96 = .ok (.aload_n 1, 1) := by decide +kernel
theorem dX3_readItem_97 : decode cX3_readItem 97 = .ok (.invokevirtual 54, 3) := by decide +kernel
theorem dX3_readItem_100 : decode cX3_readItem 100 = .ok (.ireturn, 1) := by decide +kernel
theorem dX3_readItem_101 : decode cX3_readItem 101 = .ok (.aload_n 1, 1) := by decide +kernel
theorem dX3_readItem_102 : decode cX3_readItem 102 = .ok (.getfield 57, 3) := by decide +kernel
theorem dX3_readItem_105 : decode cX3_readItem 105 = .ok (.getfield 61, 3) := by decide +kernel
theorem dX3_readItem_108 : decode cX3_readItem 108 = .ok (.bipush 8, 2) := by decide +kernel
theorem dX3_readItem_110 : decode cX3_readItem 110 = .ok (.if_icmp .ge 15, 3) := by decide +kernel
theorem dX3_readItem_113 : decode cX3_readItem 113 = .ok (.aload_n 0, 1) := by decide +kernel
theorem dX3_readItem_114 : decode cX3_readItem 114 = .ok (.aload_n 1, 1) := by decide +kernel
theorem dX3_readItem_115 : decode cX3_readItem 115 = .ok (.invokevirtual 66, 3) := by decide +kernel
theorem dX3_readItem_118 : decode cX3_readItem 118 = .ok (.ifCond .eq 7, 3) := by decide +kernel
theorem dX3_readItem_121 : decode cX3_readItem 121 = .ok (.iconst 1, 1) := by decide +kernel
theorem dX3_readItem_122 : decode cX3_readItem 122 = .ok (.goto 4, 3) := by decide +kernel
theorem dX3_readItem_125 : decode cX3_readItem 125 = .ok (.iconst 0, 1) := by decide +kernel
theorem dX3_readItem_126 : decode cX3_readItem 126 = .ok (.ireturn, 1) := by decide +kernel
theorem dX3_readItem_127 : decode cX3_readItem 127 = .ok (.iconst 0, 1) := by decide +kernel
theorem dX3_readItem_128 : decode cX3_readItem 128 = .ok (.ireturn, 1) := by decide +kernel
set_option maxRecDepth 20000 in
theorem ggX3_readPlaces_X3_readNumber : GoodIn wsX3_readPlaces wsX3_readNumber := goodIn_r _ [7, 8, 1, 9, 10, 11, 6, 12, 13, 14, 15, 16, 17, 18, 19, 20, 21, 22, 23, 24, 25, 26, 31, 32, 33, 34, 35, 36, 37] (by decide +kernel) (by decide +kernel)
set_option maxRecDepth 20000 in
theorem gX3_readPlaces_X3_readNumber : GoodIn wsX3_readPlaces (wsV RX3 69 RX3 yX3_readNumber wsX3_readNumber) := goodIn_app (goodIn_of _ (by decide +kernel)) ggX3_readPlaces_X3_readNumber
set_option maxRecDepth 20000 in
theorem ggX3_readPlaces_X3_readStop : GoodIn wsX3_readPlaces wsX3_readStop := goodIn_r _ [30, 8, 9, 10, 11, 6, 12, 13, 14, 15, 16, 1, 17, 18, 19, 20, 21, 22, 23, 31, 32, 33, 34, 35, 36, 37] (by decide +kernel) (by decide +kernel)
set_option maxRecDepth 20000 in
theorem gX3_readPlaces_X3_readStop : GoodIn wsX3_readPlaces (wsV RX3 76 RX3 yX3_readStop wsX3_readStop) := goodIn_app (goodIn_of _ (by decide +kernel)) ggX3_readPlaces_X3_readStop
theorem dX3_readPlaces_0 : decode cX3_readPlaces 0 = .ok (.aload_n 0, 1) := by decide +kernel
theorem dX3_readPlaces_1 : decode cX3_readPlaces 1 = .ok (.iconst 4, 1) := by decide +kernel
theorem dX3_readPlaces_2 : decode cX3_readPlaces 2 = .ok (.bipush 24, 2) := by decide +kernel
theorem dX3_readPlaces_4 : decode cX3_readPlaces 4 = .ok (.invokevirtual 69, 3) := by decide +kernel
theorem dX3_readPlaces_7 : decode cX3_readPlaces 7 = .ok (.ifCond .ne 5, 3) := by decide +kernel
theorem dX3_readPlaces_10 : decode cX3_readPlaces 10 = .ok (.iconst 0, 1) := by decide +kernel
theorem dX3_readPlaces_11 : decode cX3_readPlaces 11 = .ok (.ireturn, 1) := by decide +kernel
theorem dX3_readPlaces_12 : decode cX3_readPlaces 12 = .ok (.aload_n 1, 1) := by decide +kernel
theorem dX3_readPlaces_13 : decode cX3_readPlaces 13 = .ok (.aload_n 0, 1) := by decide +kernel
theorem dX3_readPlaces_14 : decode cX3_readPlaces 14 = .ok (.getfield 44, 3) := by decide +kernel
theorem dX3_readPlaces_17 : decode cX3_readPlaces 17 = .ok (.putfield 73, 3) := by decide +kernel
theorem dX3_readPlaces_20 : decode cX3_readPlaces 20 = .ok (.aload_n 0, 1) := by decide +kernel
theorem dX3_readPlaces_21 : decode cX3_readPlaces 21 = .ok (.invokevirtual 76, 3) := by decide +kernel
theorem dX3_readPlaces_24 : decode cX3_readPlaces 24 = .ok (.ireturn, 1) := by decide +kernel
set_option maxRecDepth 20000 in
theorem ggX3_readLoss_X3_readNumber : GoodIn wsX3_readLoss wsX3_readNumber := goodIn_r _ [8, 9, 1, 10, 11, 12, 7, 13, 14, 15, 16, 17, 18, 19, 20, 21, 22, 23, 24, 25, 26, 27, 32, 33, 34, 35, 36, 37, 38] (by decide +kernel) (by decide +kernel)
set_option maxRecDepth 20000 in
theorem gX3_readLoss_X3_readNumber : GoodIn wsX3_readLoss (wsV RX3 69 RX3 yX3_readNumber wsX3_readNumber) := goodIn_app (goodIn_of _ (by decide +kernel)) ggX3_readLoss_X3_readNumber
set_option maxRecDepth 20000 in
theorem ggX3_readLoss_X3_readStop : GoodIn wsX3_readLoss wsX3_readStop := goodIn_r _ [31, 9, 10, 11, 12, 7, 13, 14, 15, 16, 17, 1, 18, 19, 20, 21, 22, 23, 24, 32, 33, 34, 35, 36, 37, 38] (by decide +kernel) (by decide +kernel)
set_option maxRecDepth 20000 in
theorem gX3_readLoss_X3_readStop : GoodIn wsX3_readLoss (wsV RX3 76 RX3 yX3_readStop wsX3_readStop) := goodIn_app (goodIn_of _ (by decide +kernel)) ggX3_readLoss_X3_readStop
theorem dX3_readLoss_0 : decode cX3_readLoss 0 = .ok (.aload_n 0, 1) := by decide +kernel
theorem dX3_readLoss_1 : decode cX3_readLoss 1 = .ok (.iconst 1, 1) := by decide +kernel
theorem dX3_readLoss_2 : decode cX3_readLoss 2 = .ok (.bipush 9, 2) := by decide +kernel
theorem dX3_readLoss_4 : decode cX3_readLoss 4 = .ok (.invokevirtual 69, 3) := by decide +kernel
theorem dX3_readLoss_7 : decode cX3_readLoss 7 = .ok (.ifCond .ne 5, 3) := by decide +kernel
theorem dX3_readLoss_10 : decode cX3_readLoss 10 = .ok (.iconst 0, 1) := by decide +kernel
theorem dX3_readLoss_11 : decode cX3_readLoss 11 = .ok (.ireturn, 1) := by decide +kernel
theorem dX3_readLoss_12 : decode cX3_readLoss 12 = .ok (.aload_n 1, 1) := by decide +kernel
theorem dX3_readLoss_13 : decode cX3_readLoss 13 = .ok (.aload_n 0, 1) := by decide +kernel
theorem dX3_readLoss_14 : decode cX3_readLoss 14 = .ok (.getfield 44, 3) := by decide +kernel
theorem dX3_readLoss_17 : decode cX3_readLoss 17 = .ok (.putfield 80, 3) := by decide +kernel
theorem dX3_readLoss_20 : decode cX3_readLoss 20 = .ok (.aload_n 0, 1) := by decide +kernel
theorem dX3_readLoss_21 : decode cX3_readLoss 21 = .ok (.iconst 1, 1) := by decide +kernel
theorem dX3_readLoss_22 : decode cX3_readLoss 22 = .ok (.putfield 24, 3) := by decide +kernel
theorem dX3_readLoss_25 : decode cX3_readLoss 25 = .ok (.aload_n 0, 1) := by decide +kernel
theorem dX3_readLoss_26 : decode cX3_readLoss 26 = .ok (.invokevirtual 76, 3) := by decide +kernel
theorem dX3_readLoss_29 : decode cX3_readLoss 29 = .ok (.ireturn, 1) := by decide +kernel
