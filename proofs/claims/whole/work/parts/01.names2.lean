set_option maxRecDepth 20000 in
theorem ggX3_readNiche_X3_readNumber : GoodIn wsX3_readNiche wsX3_readNumber := goodIn_r _ [8, 9, 3, 10, 11, 12, 7, 13, 14, 15, 16, 17, 18, 19, 20, 21, 22, 23, 24, 25, 26, 27, 38, 39, 40, 41, 42, 43, 44] (by decide +kernel) (by decide +kernel)
set_option maxRecDepth 20000 in
theorem gX3_readNiche_X3_readNumber : GoodIn wsX3_readNiche (wsV RX3 69 RX3 yX3_readNumber wsX3_readNumber) := goodIn_app (goodIn_of _ (by decide +kernel)) ggX3_readNiche_X3_readNumber
set_option maxRecDepth 20000 in
theorem ggX3_readNiche_X3_readStop : GoodIn wsX3_readNiche wsX3_readStop := goodIn_r _ [31, 9, 10, 11, 12, 7, 13, 14, 15, 16, 17, 3, 18, 19, 20, 21, 22, 23, 24, 38, 39, 40, 41, 42, 43, 44] (by decide +kernel) (by decide +kernel)
set_option maxRecDepth 20000 in
theorem gX3_readNiche_X3_readStop : GoodIn wsX3_readNiche (wsV RX3 76 RX3 yX3_readStop wsX3_readStop) := goodIn_app (goodIn_of _ (by decide +kernel)) ggX3_readNiche_X3_readStop
theorem dX3_readNiche_0 : decode cX3_readNiche 0 = .ok (.aload_n 0, 1) := by decide +kernel
theorem dX3_readNiche_1 : decode cX3_readNiche 1 = .ok (.iconst 0, 1) := by decide +kernel
theorem dX3_readNiche_2 : decode cX3_readNiche 2 = .ok (.aload_n 1, 1) := by decide +kernel
theorem dX3_readNiche_3 : decode cX3_readNiche 3 = .ok (.getfield 73, 3) := by decide +kernel
theorem dX3_readNiche_6 : decode cX3_readNiche 6 = .ok (.iconst 1, 1) := by decide +kernel
theorem dX3_readNiche_7 : decode cX3_readNiche 7 = .ok (.isub, 1) := by decide +kernel
theorem dX3_readNiche_8 : decode cX3_readNiche 8 = .ok (.invokevirtual 69, 3) := by decide +kernel
theorem dX3_readNiche_11 : decode cX3_readNiche 11 = .ok (.ifCond .ne 5, 3) := by decide +kernel
theorem dX3_readNiche_14 : decode cX3_readNiche 14 = .ok (.iconst 0, 1) := by decide +kernel
theorem dX3_readNiche_15 : decode cX3_readNiche 15 = .ok (.ireturn, 1) := by decide +kernel
theorem dX3_readNiche_16 : decode cX3_readNiche 16 = .ok (.aload_n 1, 1) := by decide +kernel
theorem dX3_readNiche_17 : decode cX3_readNiche 17 = .ok (.dup, 1) := by decide +kernel
theorem dX3_readNiche_18 : decode cX3_readNiche 18 = .ok (.getfield 83, 3) := by decide +kernel
theorem dX3_readNiche_21 : decode cX3_readNiche 21 = .ok (.iconst 1, 1) := by decide +kernel
theorem dX3_readNiche_22 : decode cX3_readNiche 22 = .ok (.aload_n 0, 1) := by decide +kernel
theorem dX3_readNiche_23 : decode cX3_readNiche 23 = .ok (.getfield 44, 3) := by decide +kernel
theorem dX3_readNiche_26 : decode cX3_readNiche 26 = .ok (.ishl, 1) := by decide +kernel
theorem dX3_readNiche_27 : decode cX3_readNiche 27 = .ok (.ior, 1) := by decide +kernel
theorem dX3_readNiche_28 : decode cX3_readNiche 28 = .ok (.putfield 83, 3) := by decide +kernel
theorem dX3_readNiche_31 : decode cX3_readNiche 31 = .ok (.aload_n 0, 1) := by decide +kernel
theorem dX3_readNiche_32 : decode cX3_readNiche 32 = .ok (.invokevirtual 76, 3) := by decide +kernel
theorem dX3_readNiche_35 : decode cX3_readNiche 35 = .ok (.ireturn, 1) := by decide +kernel
set_option maxRecDepth 20000 in
theorem ggX3_readSaying_X3_readNumber : GoodIn wsX3_readSaying wsX3_readNumber := goodIn_r _ [8, 9, 2, 10, 11, 12, 7, 13, 14, 15, 16, 17, 18, 19, 20, 21, 22, 23, 24, 25, 26, 27, 50, 51, 52, 53, 54, 55, 56] (by decide +kernel) (by decide +kernel)
set_option maxRecDepth 20000 in
theorem gX3_readSaying_X3_readNumber : GoodIn wsX3_readSaying (wsV RX3 69 RX3 yX3_readNumber wsX3_readNumber) := goodIn_app (goodIn_of _ (by decide +kernel)) ggX3_readSaying_X3_readNumber
set_option maxRecDepth 20000 in
theorem ggX3_readSaying_X2_add : GoodIn wsX3_readSaying wsX2_add := goodIn_r _ [32, 33, 34, 35, 36, 37, 38, 39, 57, 58, 59, 60, 61, 62, 63, 64, 65, 66] (by decide +kernel) (by decide +kernel)
set_option maxRecDepth 20000 in
theorem gX3_readSaying_X2_add : GoodIn wsX3_readSaying (wsV RX3 86 RX2 yX2_add wsX2_add) := goodIn_app (goodIn_of _ (by decide +kernel)) ggX3_readSaying_X2_add
set_option maxRecDepth 20000 in
theorem ggX3_readSaying_X3_readStop : GoodIn wsX3_readSaying wsX3_readStop := goodIn_r _ [43, 9, 10, 11, 12, 7, 13, 14, 15, 16, 17, 2, 18, 19, 20, 21, 22, 23, 24, 50, 51, 52, 53, 54, 55, 56] (by decide +kernel) (by decide +kernel)
set_option maxRecDepth 20000 in
theorem gX3_readSaying_X3_readStop : GoodIn wsX3_readSaying (wsV RX3 76 RX3 yX3_readStop wsX3_readStop) := goodIn_app (goodIn_of _ (by decide +kernel)) ggX3_readSaying_X3_readStop
theorem dX3_readSaying_0 : decode cX3_readSaying 0 = .ok (.aload_n 0, 1) := by decide +kernel
theorem dX3_readSaying_1 : decode cX3_readSaying 1 = .ok (.iconst 0, 1) := by decide +kernel
theorem dX3_readSaying_2 : decode cX3_readSaying 2 = .ok (.aload_n 1, 1) := by decide +kernel
theorem dX3_readSaying_3 : decode cX3_readSaying 3 = .ok (.getfield 73, 3) := by decide +kernel
theorem dX3_readSaying_6 : decode cX3_readSaying 6 = .ok (.iconst 1, 1) := by decide +kernel
theorem dX3_readSaying_7 : decode cX3_readSaying 7 = .ok (.isub, 1) := by decide +kernel
theorem dX3_readSaying_8 : decode cX3_readSaying 8 = .ok (.invokevirtual 69, 3) := by decide +kernel
theorem dX3_readSaying_11 : decode cX3_readSaying 11 = .ok (.ifCond .ne 5, 3) := by decide +kernel
theorem dX3_readSaying_14 : decode cX3_readSaying 14 = .ok (.iconst 0, 1) := by decide +kernel
theorem dX3_readSaying_15 : decode cX3_readSaying 15 = .ok (.ireturn, 1) := by decide +kernel
theorem dX3_readSaying_16 : decode cX3_readSaying 16 = .ok (.aload_n 0, 1) := by decide +kernel
theorem dX3_readSaying_17 : decode cX3_readSaying 17 = .ok (.getfield 44, 3) := by decide +kernel
theorem dX3_readSaying_20 : decode cX3_readSaying 20 = .ok (.istore_n 2, 1) := by decide +kernel
theorem dX3_readSaying_21 : decode cX3_readSaying 21 = .ok (.aload_n 0, 1) := by decide +kernel
theorem dX3_readSaying_22 : decode cX3_readSaying 22 = .ok (.iconst 1, 1) := by decide +kernel
theorem dX3_readSaying_23 : decode cX3_readSaying 23 = .ok (.bipush 6, 2) := by decide +kernel
theorem dX3_readSaying_25 : decode cX3_readSaying 25 = .ok (.invokevirtual 69, 3) := by decide +kernel
theorem dX3_readSaying_28 : decode cX3_readSaying 28 = .ok (.ifCond .ne 5, 3) := by decide +kernel
theorem dX3_readSaying_31 : decode cX3_readSaying 31 = .ok (.iconst 0, 1) := by decide +kernel
theorem dX3_readSaying_32 : decode cX3_readSaying 32 = .ok (.ireturn, 1) := by decide +kernel
theorem dX3_readSaying_33 : decode cX3_readSaying 33 = .ok (.aload_n 0, 1) := by decide +kernel
theorem dX3_readSaying_34 : decode cX3_readSaying 34 = .ok (.getfield 44, 3) := by decide +kernel
theorem dX3_readSaying_37 : decode cX3_readSaying 37 = .ok (.istore_n 3, 1) := by decide +kernel
theorem dX3_readSaying_38 : decode cX3_readSaying 38 = .ok (.aload_n 0, 1) := by decide +kernel
theorem dX3_readSaying_39 : decode cX3_readSaying 39 = .ok (.iconst 0, 1) := by decide +kernel
theorem dX3_readSaying_40 : decode cX3_readSaying 40 = .ok (.iconst 1, 1) := by decide +kernel
theorem dX3_readSaying_41 : decode cX3_readSaying 41 = .ok (.invokevirtual 69, 3) := by decide +kernel
theorem dX3_readSaying_44 : decode cX3_readSaying 44 = .ok (.ifCond .ne 5, 3) := by decide +kernel
theorem dX3_readSaying_47 : decode cX3_readSaying 47 = .ok (.iconst 0, 1) := by decide +kernel
theorem dX3_readSaying_48 : decode cX3_readSaying 48 = .ok (.ireturn, 1) := by decide +kernel
theorem dX3_readSaying_49 : decode cX3_readSaying 49 = .ok (.aload_n 0, 1) := by decide +kernel
theorem dX3_readSaying_50 : decode cX3_readSaying 50 = .ok (.getfield 44, 3) := by decide +kernel
theorem dX3_readSaying_53 : decode cX3_readSaying 53 = .ok (.istore 4, 2) := by decide +kernel
theorem dX3_readSaying_55 : decode cX3_readSaying 55 = .ok (.aload_n 0, 1) := by decide +kernel
theorem dX3_readSaying_56 : decode cX3_readSaying 56 = .ok (.iconst 1, 1) := by decide +kernel
theorem dX3_readSaying_57 : decode cX3_readSaying 57 = .ok (.bipush 30, 2) := by decide +kernel
theorem dX3_readSaying_59 : decode cX3_readSaying 59 = .ok (.invokevirtual 69, 3) := by decide +kernel
theorem dX3_readSaying_62 : decode cX3_readSaying 62 = .ok (.ifCond .ne 5, 3) := by decide +kernel
theorem dX3_readSaying_65 : decode cX3_readSaying 65 = .ok (.iconst 0, 1) := by decide +kernel
theorem dX3_readSaying_66 : decode cX3_readSaying 66 = .ok (.ireturn, 1) := by decide +kernel
theorem dX3_readSaying_67 : decode cX3_readSaying 67 = .ok (.aload_n 1, 1) := by decide +kernel
theorem dX3_readSaying_68 : decode cX3_readSaying 68 = .ok (.getfield 57, 3) := by decide +kernel
theorem dX3_readSaying_71 : decode cX3_readSaying 71 = .ok (.iload_n 2, 1) := by decide +kernel
theorem dX3_readSaying_72 : decode cX3_readSaying 72 = .ok (.iload_n 3, 1) := by decide +kernel
theorem dX3_readSaying_73 : decode cX3_readSaying 73 = .ok (.iload 4, 2) := by decide +kernel
theorem dX3_readSaying_75 : decode cX3_readSaying 75 = .ok (.aload_n 0, 1) := by decide +kernel
theorem dX3_readSaying_76 : decode cX3_readSaying 76 = .ok (.getfield 44, 3) := by decide +kernel
theorem dX3_readSaying_79 : decode cX3_readSaying 79 = .ok (.invokevirtual 86, 3) := by decide +kernel
theorem dX3_readSaying_82 : decode cX3_readSaying 82 = .ok (.ifCond .eq 14, 3) := by decide +kernel
theorem dX3_readSaying_85 : decode cX3_readSaying 85 = .ok (.aload_n 0, 1) := by decide +kernel
theorem dX3_readSaying_86 : decode cX3_readSaying 86 = .ok (.invokevirtual 76, 3) := by decide +kernel
theorem dX3_readSaying_89 : decode cX3_readSaying 89 = .ok (.ifCond .eq 7, 3) := by decide +kernel
theorem dX3_readSaying_92 : decode cX3_readSaying 92 = .ok (.iconst 1, 1) := by decide +kernel
theorem dX3_readSaying_93 : decode cX3_readSaying 93 = .ok (.goto 4, 3) := by decide +kernel
theorem dX3_readSaying_96 : decode cX3_readSaying 96 = .ok (.iconst 0, 1) := by decide +kernel
theorem dX3_readSaying_97 : decode cX3_readSaying 97 = .ok (.ireturn, 1) := by decide +kernel
set_option maxRecDepth 20000 in
theorem ggX3_readNumber_X3_step : GoodIn wsX3_readNumber wsX3_step := goodIn_r _ [7, 8, 9, 10, 11, 1, 2, 12, 13, 6, 14, 15, 16, 17, 18, 22, 23, 24, 25, 26, 27, 28] (by decide +kernel) (by decide +kernel)
set_option maxRecDepth 20000 in
theorem gX3_readNumber_X3_step : GoodIn wsX3_readNumber (wsV RX3 31 RX3 yX3_step wsX3_step) := goodIn_app (goodIn_of _ (by decide +kernel)) ggX3_readNumber_X3_step
set_option maxRecDepth 20000 in
theorem ggX3_readNumber_X4_within : GoodIn wsX3_readNumber wsX4_within := goodIn_r _ [21] (by decide +kernel) (by decide +kernel)
set_option maxRecDepth 20000 in
theorem gX3_readNumber_X4_within_n90 : GoodIn wsX3_readNumber (wsX4_within) := ggX3_readNumber_X4_within
theorem dX3_readNumber_0 : decode cX3_readNumber 0 = .ok (.aload_n 0, 1) := by decide +kernel
theorem dX3_readNumber_1 : decode cX3_readNumber 1 = .ok (.invokevirtual 31, 3) := by decide +kernel
theorem dX3_readNumber_4 : decode cX3_readNumber 4 = .ok (.aload_n 0, 1) := by decide +kernel
theorem dX3_readNumber_5 : decode cX3_readNumber 5 = .ok (.getfield 34, 3) := by decide +kernel
theorem dX3_readNumber_8 : decode cX3_readNumber 8 = .ok (.iconst 2, 1) := by decide +kernel
theorem dX3_readNumber_9 : decode cX3_readNumber 9 = .ok (.if_icmp .ne 19, 3) := by decide +kernel
theorem dX3_readNumber_12 : decode cX3_readNumber 12 = .ok (.aload_n 0, 1) := by decide +kernel
theorem dX3_readNumber_13 : decode cX3_readNumber 13 = .ok (.getfield 44, 3) := by decide +kernel
theorem dX3_readNumber_16 : decode cX3_readNumber 16 = .ok (.iload_n 1, 1) := by decide +kernel
theorem dX3_readNumber_17 : decode cX3_readNumber 17 = .ok (.iload_n 2, 1) := by decide +kernel
theorem dX3_readNumber_18 : decode cX3_readNumber 18 = .ok (.invokestatic 90, 3) := by decide +kernel
theorem dX3_readNumber_21 : decode cX3_readNumber 21 = .ok (.ifCond .eq 7, 3) := by decide +kernel
theorem dX3_readNumber_24 : decode cX3_readNumber 24 = .ok (.iconst 1, 1) := by decide +kernel
theorem dX3_readNumber_25 : decode cX3_readNumber 25 = .ok (.goto 4, 3) := by decide +kernel
theorem dX3_readNumber_28 : decode cX3_readNumber 28 = .ok (.iconst 0, 1) := by decide +kernel
theorem dX3_readNumber_29 : decode cX3_readNumber 29 = .ok (.ireturn, 1) := by decide +kernel
set_option maxRecDepth 20000 in
theorem ggX3_readStop_X3_step : GoodIn wsX3_readStop wsX3_step := goodIn_r _ [6, 7, 8, 9, 10, 1, 11, 12, 13, 5, 14, 15, 16, 17, 18, 19, 20, 21, 22, 23, 24, 25] (by decide +kernel) (by decide +kernel)
set_option maxRecDepth 20000 in
theorem gX3_readStop_X3_step : GoodIn wsX3_readStop (wsV RX3 31 RX3 yX3_step wsX3_step) := goodIn_app (goodIn_of _ (by decide +kernel)) ggX3_readStop_X3_step
theorem dX3_readStop_0 : decode cX3_readStop 0 = .ok (.aload_n 0, 1) := by decide +kernel
theorem dX3_readStop_1 : decode cX3_readStop 1 = .ok (.invokevirtual 31, 3) := by decide +kernel
theorem dX3_readStop_4 : decode cX3_readStop 4 = .ok (.aload_n 0, 1) := by decide +kernel
theorem dX3_readStop_5 : decode cX3_readStop 5 = .ok (.getfield 34, 3) := by decide +kernel
theorem dX3_readStop_8 : decode cX3_readStop 8 = .ok (.iconst 3, 1) := by decide +kernel
theorem dX3_readStop_9 : decode cX3_readStop 9 = .ok (.if_icmp .eq 5, 3) := by decide +kernel
theorem dX3_readStop_12 : decode cX3_readStop 12 = .ok (.iconst 0, 1) := by decide +kernel
theorem dX3_readStop_13 : decode cX3_readStop 13 = .ok (.ireturn, 1) := by decide +kernel
theorem dX3_readStop_14 : decode cX3_readStop 14 = .ok (.aload_n 0, 1) := by decide +kernel
theorem dX3_readStop_15 : decode cX3_readStop 15 = .ok (.invokevirtual 31, 3) := by decide +kernel
theorem dX3_readStop_18 : decode cX3_readStop 18 = .ok (.iconst 1, 1) := by decide +kernel
theorem dX3_readStop_19 : decode cX3_readStop 19 = .ok (.ireturn, 1) := by decide +kernel
set_option maxRecDepth 20000 in
theorem ggX3_step_X3_tokenOf : GoodIn wsX3_step wsX3_tokenOf := goodIn_r _ [10] (by decide +kernel) (by decide +kernel)
set_option maxRecDepth 20000 in
theorem gX3_step_X3_tokenOf : GoodIn wsX3_step (va_wsS RX3 94 yX3_tokenOf wsX3_tokenOf) := goodIn_app (goodIn_of _ (by decide +kernel)) ggX3_step_X3_tokenOf
set_option maxRecDepth 20000 in
theorem ggX3_step_X3_weigh : GoodIn wsX3_step wsX3_weigh := goodIn_r _ [14, 4, 2, 5, 3, 6, 15, 16, 17, 18, 19, 20, 21] (by decide +kernel) (by decide +kernel)
set_option maxRecDepth 20000 in
theorem gX3_step_X3_weigh : GoodIn wsX3_step (wsV RX3 98 RX3 yX3_weigh wsX3_weigh) := goodIn_app (goodIn_of _ (by decide +kernel)) ggX3_step_X3_weigh
theorem dX3_step_0 : decode cX3_step 0 = .ok (.aload_n 0, 1) := by decide +kernel
theorem dX3_step_1 : decode cX3_step 1 = .ok (.getfield 28, 3) := by decide +kernel
theorem dX3_step_4 : decode cX3_step 4 = .ok (.aload_n 0, 1) := by decide +kernel
theorem dX3_step_5 : decode cX3_step 5 = .ok (.getfield 15, 3) := by decide +kernel
theorem dX3_step_8 : decode cX3_step 8 = .ok (.if_icmp .ge 30, 3) := by decide +kernel
theorem dX3_step_11 : decode cX3_step 11 = .ok (.aload_n 0, 1) := by decide +kernel
theorem dX3_step_12 : decode cX3_step 12 = .ok (.getfield 9, 3) := by decide +kernel
theorem dX3_step_15 : decode cX3_step 15 = .ok (.aload_n 0, 1) := by decide +kernel
theorem dX3_step_16 : decode cX3_step 16 = .ok (.getfield 28, 3) := by decide +kernel
theorem dX3_step_19 : decode cX3_step 19 = .ok (.iaload, 1) := by decide +kernel
theorem dX3_step_20 : decode cX3_step 20 = .ok (.bipush 32, 2) := by decide +kernel
theorem dX3_step_22 : decode cX3_step 22 = .ok (.if_icmp .ne 16, 3) := by decide +kernel
theorem dX3_step_25 : decode cX3_step 25 = .ok (.aload_n 0, 1) := by decide +kernel
theorem dX3_step_26 : decode cX3_step 26 = .ok (.dup, 1) := by decide +kernel
theorem dX3_step_27 : decode cX3_step 27 = .ok (.getfield 28, 3) := by decide +kernel
theorem dX3_step_30 : decode cX3_step 30 = .ok (.iconst 1, 1) := by decide +kernel
theorem dX3_step_31 : decode cX3_step 31 = .ok (.iadd, 1) := by decide +kernel
theorem dX3_step_32 : decode cX3_step 32 = .ok (.putfield 28, 3) := by decide +kernel
theorem dX3_step_35 : decode cX3_step 35 = .ok (.goto (-35), 3) := by decide +kernel
theorem dX3_step_38 : decode cX3_step 38 = .ok (.aload_n 0, 1) := by decide +kernel
theorem dX3_step_39 : decode cX3_step 39 = .ok (.aload_n 0, 1) := by decide +kernel
theorem dX3_step_40 : decode cX3_step 40 = .ok (.getfield 28, 3) := by decide +kernel
theorem dX3_step_43 : decode cX3_step 43 = .ok (.putfield 41, 3) := by decide +kernel
theorem dX3_step_46 : decode cX3_step 46 = .ok (.aload_n 0, 1) := by decide +kernel
theorem dX3_step_47 : decode cX3_step 47 = .ok (.aload_n 0, 1) := by decide +kernel
theorem dX3_step_48 : decode cX3_step 48 = .ok (.getfield 28, 3) := by decide +kernel
theorem dX3_step_51 : decode cX3_step 51 = .ok (.aload_n 0, 1) := by decide +kernel
theorem dX3_step_52 : decode cX3_step 52 = .ok (.getfield 15, 3) := by decide +kernel
theorem dX3_step_55 : decode cX3_step 55 = .ok (.if_icmp .ge 18, 3) := by decide +kernel
theorem dX3_step_58 : decode cX3_step 58 = .ok (.aload_n 0, 1) := by decide +kernel
theorem dX3_step_59 : decode cX3_step 59 = .ok (.getfield 9, 3) := by decide +kernel
theorem dX3_step_62 : decode cX3_step 62 = .ok (.aload_n 0, 1) := by decide +kernel
theorem dX3_step_63 : decode cX3_step 63 = .ok (.getfield 28, 3) := by decide +kernel
theorem dX3_step_66 : decode cX3_step 66 = .ok (.iaload, 1) := by decide +kernel
theorem dX3_step_67 : decode cX3_step 67 = .ok (.invokestatic 94, 3) := by decide +kernel
theorem dX3_step_70 : decode cX3_step 70 = .ok (.goto 4, 3) := by decide +kernel
theorem dX3_step_73 : decode cX3_step 73 = .ok (.iconst 0, 1) := by decide +kernel
theorem dX3_step_74 : decode cX3_step 74 = .ok (.putfield 34, 3) := by decide +kernel
theorem dX3_step_77 : decode cX3_step 77 = .ok (.aload_n 0, 1) := by decide +kernel
theorem dX3_step_78 : decode cX3_step 78 = .ok (.iconst 0, 1) := by decide +kernel
theorem dX3_step_79 : decode cX3_step 79 = .ok (.putfield 44, 3) := by decide +kernel
theorem dX3_step_82 : decode cX3_step 82 = .ok (.aload_n 0, 1) := by decide +kernel
theorem dX3_step_83 : decode cX3_step 83 = .ok (.getfield 34, 3) := by decide +kernel
theorem dX3_step_86 : decode cX3_step 86 = .ok (.iconst 1, 1) := by decide +kernel
theorem dX3_step_87 : decode cX3_step 87 = .ok (.if_icmp .eq 11, 3) := by decide +kernel
theorem dX3_step_90 : decode cX3_step 90 = .ok (.aload_n 0, 1) := by decide +kernel
theorem dX3_step_91 : decode cX3_step 91 = .ok (.getfield 34, 3) := by decide +kernel
theorem dX3_step_94 : decode cX3_step 94 = .ok (.iconst 2, 1) := by decide +kernel
theorem dX3_step_95 : decode cX3_step 95 = .ok (.if_icmp .ne 62, 3) := by decide +kernel
theorem dX3_step_98 : decode cX3_step 98 = .ok (.aload_n 0, 1) := by decide +kernel
theorem dX3_step_99 : decode cX3_step 99 = .ok (.getfield 28, 3) := by decide +kernel
theorem dX3_step_102 : decode cX3_step 102 = .ok (.aload_n 0, 1) := by decide +kernel
theorem dX3_step_103 : decode cX3_step 103 = .ok (.getfield 15, 3) := by decide +kernel
theorem dX3_step_106 : decode cX3_step 106 = .ok (.if_icmp .ge 35, 3) := by decide +kernel
theorem dX3_step_109 : decode cX3_step 109 = .ok (.aload_n 0, 1) := by decide +kernel
theorem dX3_step_110 : decode cX3_step 110 = .ok (.getfield 9, 3) := by decide +kernel
theorem dX3_step_113 : decode cX3_step 113 = .ok (.aload_n 0, 1) := by decide +kernel
theorem dX3_step_114 : decode cX3_step 114 = .ok (.getfield 28, 3) := by decide +kernel
theorem dX3_step_117 : decode cX3_step 117 = .ok (.iaload, 1) := by decide +kernel
theorem dX3_step_118 : decode cX3_step 118 = .ok (.invokestatic 94, 3) := by decide +kernel
theorem dX3_step_121 : decode cX3_step 121 = .ok (.aload_n 0, 1) := by decide +kernel
theorem dX3_step_122 : decode cX3_step 122 = .ok (.getfield 34, 3) := by decide +kernel
theorem dX3_step_125 : decode cX3_step 125 = .ok (.if_icmp .ne 16, 3) := by decide +kernel
theorem dX3_step_128 : decode cX3_step 128 = .ok (.aload_n 0, 1) := by decide +kernel
theorem dX3_step_129 : decode cX3_step 129 = .ok (.dup, 1) := by decide +kernel
theorem dX3_step_130 : decode cX3_step 130 = .ok (.getfield 28, 3) := by decide +kernel
theorem dX3_step_133 : decode cX3_step 133 = .ok (.iconst 1, 1) := by decide +kernel
theorem dX3_step_134 : decode cX3_step 134 = .ok (.iadd, 1) := by decide +kernel
theorem dX3_step_135 : decode cX3_step 135 = .ok (.putfield 28, 3) := by decide +kernel
theorem dX3_step_138 : decode cX3_step 138 = .ok (.goto (-40), 3) := by decide +kernel
theorem dX3_step_141 : decode cX3_step 141 = .ok (.aload_n 0, 1) := by decide +kernel
theorem dX3_step_142 : decode cX3_step 142 = .ok (.aload_n 0, 1) := by decide +kernel
theorem dX3_step_143 : decode cX3_step 143 = .ok (.getfield 28, 3) := by decide +kernel
theorem dX3_step_146 : decode cX3_step 146 = .ok (.aload_n 0, 1) := by decide +kernel
theorem dX3_step_147 : decode cX3_step 147 = .ok (.getfield 41, 3) := by decide +kernel
theorem dX3_step_150 : decode cX3_step 150 = .ok (.isub, 1) := by decide +kernel
theorem dX3_step_151 : decode cX3_step 151 = .ok (.invokevirtual 98, 3) := by decide +kernel
theorem dX3_step_154 : decode cX3_step 154 = .ok (.goto 20, 3) := by decide +kernel
theorem dX3_step_157 : decode cX3_step 157 = .ok (.aload_n 0, 1) := by decide +kernel
theorem dX3_step_158 : decode cX3_step 158 = .ok (.getfield 34, 3) := by decide +kernel
theorem dX3_step_161 : decode cX3_step 161 = .ok (.ifCond .eq 13, 3) := by decide +kernel
theorem dX3_step_164 : decode cX3_step 164 = .ok (.aload_n 0, 1) := by decide +kernel
theorem dX3_step_165 : decode cX3_step 165 = .ok (.dup, 1) := by decide +kernel
theorem dX3_step_166 : decode cX3_step 166 = .ok (.getfield 28, 3) := by decide +kernel
theorem dX3_step_169 : decode cX3_step 169 = .ok (.iconst 1, 1) := by decide +kernel
theorem dX3_step_170 : decode cX3_step 170 = .ok (.iadd, 1) := by decide +kernel
theorem dX3_step_171 : decode cX3_step 171 = .ok (.putfield 28, 3) := by decide +kernel
theorem dX3_step_174 : decode cX3_step 174 = .ok (.return_, 1) := by decide +kernel
theorem dX3_tokenOf_0 : decode cX3_tokenOf 0 = .ok (.iload_n 0, 1) := by decide +kernel
theorem dX3_tokenOf_1 : decode cX3_tokenOf 1 = .ok (.bipush 97, 2) := by decide +kernel
theorem dX3_tokenOf_3 : decode cX3_tokenOf 3 = .ok (.if_icmp .lt 11, 3) := by decide +kernel
theorem dX3_tokenOf_6 : decode cX3_tokenOf 6 = .ok (.iload_n 0, 1) := by decide +kernel
theorem dX3_tokenOf_7 : decode cX3_tokenOf 7 = .ok (.bipush 122, 2) := by decide +kernel
theorem dX3_tokenOf_9 : decode cX3_tokenOf 9 = .ok (.if_icmp .gt 5, 3) := by decide +kernel
theorem dX3_tokenOf_12 : decode cX3_tokenOf 12 = .ok (.iconst 1, 1) := by decide +kernel
theorem dX3_tokenOf_13 : decode cX3_tokenOf 13 = .ok (.ireturn, 1) := by decide +kernel
theorem dX3_tokenOf_14 : decode cX3_tokenOf 14 = .ok (.iload_n 0, 1) := by decide +kernel
theorem dX3_tokenOf_15 : decode cX3_tokenOf 15 = .ok (.bipush 48, 2) := by decide +kernel
theorem dX3_tokenOf_17 : decode cX3_tokenOf 17 = .ok (.if_icmp .lt 11, 3) := by decide +kernel
theorem dX3_tokenOf_20 : decode cX3_tokenOf 20 = .ok (.iload_n 0, 1) := by decide +kernel
theorem dX3_tokenOf_21 : decode cX3_tokenOf 21 = .ok (.bipush 57, 2) := by decide +kernel
theorem dX3_tokenOf_23 : decode cX3_tokenOf 23 = .ok (.if_icmp .gt 5, 3) := by decide +kernel
theorem dX3_tokenOf_26 : decode cX3_tokenOf 26 = .ok (.iconst 2, 1) := by decide +kernel
theorem dX3_tokenOf_27 : decode cX3_tokenOf 27 = .ok (.ireturn, 1) := by decide +kernel
theorem dX3_tokenOf_28 : decode cX3_tokenOf 28 = .ok (.iload_n 0, 1) := by decide +kernel
theorem dX3_tokenOf_29 : decode cX3_tokenOf 29 = .ok (.bipush 59, 2) := by decide +kernel
theorem dX3_tokenOf_31 : decode cX3_tokenOf 31 = .ok (.if_icmp .ne 7, 3) := by decide +kernel
theorem dX3_tokenOf_34 : decode cX3_tokenOf 34 = .ok (.iconst 3, 1) := by decide +kernel
theorem dX3_tokenOf_35 : decode cX3_tokenOf 35 = .ok (.goto 4, 3) := by decide +kernel
theorem dX3_tokenOf_38 : decode cX3_tokenOf 38 = .ok (.iconst 4, 1) := by decide +kernel
theorem dX3_tokenOf_39 : decode cX3_tokenOf 39 = .ok (.ireturn, 1) := by decide +kernel
theorem dX3_weigh_0 : decode cX3_weigh 0 = .ok (.iload_n 1, 1) := by decide +kernel
theorem dX3_weigh_1 : decode cX3_weigh 1 = .ok (.iconst 1, 1) := by decide +kernel
theorem dX3_weigh_2 : decode cX3_weigh 2 = .ok (.if_icmp .ne 53, 3) := by decide +kernel
theorem dX3_weigh_5 : decode cX3_weigh 5 = .ok (.aload_n 0, 1) := by decide +kernel
theorem dX3_weigh_6 : decode cX3_weigh 6 = .ok (.getfield 41, 3) := by decide +kernel
theorem dX3_weigh_9 : decode cX3_weigh 9 = .ok (.aload_n 0, 1) := by decide +kernel
theorem dX3_weigh_10 : decode cX3_weigh 10 = .ok (.getfield 15, 3) := by decide +kernel
theorem dX3_weigh_13 : decode cX3_weigh 13 = .ok (.if_icmp .ge 42, 3) := by decide +kernel
theorem dX3_weigh_16 : decode cX3_weigh 16 = .ok (.aload_n 0, 1) := by decide +kernel
theorem dX3_weigh_17 : decode cX3_weigh 17 = .ok (.aload_n 0, 1) := by decide +kernel
theorem dX3_weigh_18 : decode cX3_weigh 18 = .ok (.getfield 34, 3) := by decide +kernel
theorem dX3_weigh_21 : decode cX3_weigh 21 = .ok (.iconst 2, 1) := by decide +kernel
theorem dX3_weigh_22 : decode cX3_weigh 22 = .ok (.if_icmp .ne 18, 3) := by decide +kernel
theorem dX3_weigh_25 : decode cX3_weigh 25 = .ok (.aload_n 0, 1) := by decide +kernel
theorem dX3_weigh_26 : decode cX3_weigh 26 = .ok (.getfield 9, 3) := by decide +kernel
theorem dX3_weigh_29 : decode cX3_weigh 29 = .ok (.aload_n 0, 1) := by decide +kernel
theorem dX3_weigh_30 : decode cX3_weigh 30 = .ok (.getfield 41, 3) := by decide +kernel
theorem dX3_weigh_33 : decode cX3_weigh 33 = .ok (.iaload, 1) := by decide +kernel
theorem dX3_weigh_34 : decode cX3_weigh 34 = .ok (.bipush 48, 2) := by decide +kernel
theorem dX3_weigh_36 : decode cX3_weigh 36 = .ok (.isub, 1) := by decide +kernel
theorem dX3_weigh_37 : decode cX3_weigh 37 = .ok (.goto 12, 3) := by decide +kernel
theorem dX3_weigh_40 : decode cX3_weigh 40 = .ok (.aload_n 0, 1) := by decide +kernel
theorem dX3_weigh_41 : decode cX3_weigh 41 = .ok (.getfield 9, 3) := by decide +kernel
theorem dX3_weigh_44 : decode cX3_weigh 44 = .ok (.aload_n 0, 1) := by decide +kernel
theorem dX3_weigh_45 : decode cX3_weigh 45 = .ok (.getfield 41, 3) := by decide +kernel
theorem dX3_weigh_48 : decode cX3_weigh 48 = .ok (.iaload, 1) := by decide +kernel
theorem dX3_weigh_49 : decode cX3_weigh 49 = .ok (.putfield 44, 3) := by decide +kernel
theorem dX3_weigh_52 : decode cX3_weigh 52 = .ok (.goto 104, 3) := by decide +kernel
theorem dX3_weigh_55 : decode cX3_weigh 55 = .ok (.aload_n 0, 1) := by decide +kernel
theorem dX3_weigh_56 : decode cX3_weigh 56 = .ok (.getfield 34, 3) := by decide +kernel
theorem dX3_weigh_59 : decode cX3_weigh 59 = .ok (.iconst 2, 1) := by decide +kernel
theorem dX3_weigh_60 : decode cX3_weigh 60 = .ok (.if_icmp .ne 96, 3) := by decide +kernel
theorem dX3_weigh_63 : decode cX3_weigh 63 = .ok (.iload_n 1, 1) := by decide +kernel
theorem dX3_weigh_64 : decode cX3_weigh 64 = .ok (.iconst 2, 1) := by decide +kernel
theorem dX3_weigh_65 : decode cX3_weigh 65 = .ok (.if_icmp .ne 34, 3) := by decide +kernel
theorem dX3_weigh_68 : decode cX3_weigh 68 = .ok (.aload_n 0, 1) := by decide +kernel
theorem dX3_weigh_69 : decode cX3_weigh 69 = .ok (.getfield 41, 3) := by decide +kernel
theorem dX3_weigh_72 : decode cX3_weigh 72 = .ok (.iconst 1, 1) := by decide +kernel
theorem dX3_weigh_73 : decode cX3_weigh 73 = .ok (.iadd, 1) := by decide +kernel
theorem dX3_weigh_74 : decode cX3_weigh 74 = .ok (.aload_n 0, 1) := by decide +kernel
theorem dX3_weigh_75 : decode cX3_weigh 75 = .ok (.getfield 15, 3) := by decide +kernel
theorem dX3_weigh_78 : decode cX3_weigh 78 = .ok (.if_icmp .ge 21, 3) := by decide +kernel
theorem dX3_weigh_81 : decode cX3_weigh 81 = .ok (.aload_n 0, 1) := by decide +kernel
theorem dX3_weigh_82 : decode cX3_weigh 82 = .ok (.getfield 9, 3) := by decide +kernel
theorem dX3_weigh_85 : decode cX3_weigh 85 = .ok (.aload_n 0, 1) := by decide +kernel
theorem dX3_weigh_86 : decode cX3_weigh 86 = .ok (.getfield 41, 3) := by decide +kernel
theorem dX3_weigh_89 : decode cX3_weigh 89 = .ok (.iaload, 1) := by decide +kernel
theorem dX3_weigh_90 : decode cX3_weigh 90 = .ok (.bipush 48, 2) := by decide +kernel
theorem dX3_weigh_92 : decode cX3_weigh 92 = .ok (.if_icmp .eq 7, 3) := by decide +kernel
theorem dX3_weigh_95 : decode cX3_weigh 95 = .ok (.iconst 1, 1) := by decide +kernel
theorem dX3_weigh_96 : decode cX3_weigh 96 = .ok (.goto 4, 3) := by decide +kernel
theorem dX3_weigh_99 : decode cX3_weigh 99 = .ok (.iconst 0, 1) := by decide +kernel
theorem dX3_weigh_100 : decode cX3_weigh 100 = .ok (.istore_n 2, 1) := by decide +kernel
theorem dX3_weigh_101 : decode cX3_weigh 101 = .ok (.aload_n 0, 1) := by decide +kernel
theorem dX3_weigh_102 : decode cX3_weigh 102 = .ok (.iload_n 2, 1) := by decide +kernel
theorem dX3_weigh_103 : decode cX3_weigh 103 = .ok (.ifCond .eq 7, 3) := by decide +kernel
theorem dX3_weigh_106 : decode cX3_weigh 106 = .ok (.iconst 2, 1) := by decide +kernel
theorem dX3_weigh_107 : decode cX3_weigh 107 = .ok (.goto 4, 3) := by decide +kernel
theorem dX3_weigh_110 : decode cX3_weigh 110 = .ok (.iconst 4, 1) := by decide +kernel
theorem dX3_weigh_111 : decode cX3_weigh 111 = .ok (.putfield 34, 3) := by decide +kernel
theorem dX3_weigh_114 : decode cX3_weigh 114 = .ok (.aload_n 0, 1) := by decide +kernel
theorem dX3_weigh_115 : decode cX3_weigh 115 = .ok (.iload_n 2, 1) := by decide +kernel
theorem dX3_weigh_116 : decode cX3_weigh 116 = .ok (.ifCond .eq 36, 3) := by decide +kernel
theorem dX3_weigh_119 : decode cX3_weigh 119 = .ok (.bipush 10, 2) := by decide +kernel
theorem dX3_weigh_121 : decode cX3_weigh 121 = .ok (.aload_n 0, 1) := by decide +kernel
theorem dX3_weigh_122 : decode cX3_weigh 122 = .ok (.getfield 9, 3) := by decide +kernel
theorem dX3_weigh_125 : decode cX3_weigh 125 = .ok (.aload_n 0, 1) := by decide +kernel
theorem dX3_weigh_126 : decode cX3_weigh 126 = .ok (.getfield 41, 3) := by decide +kernel
theorem dX3_weigh_129 : decode cX3_weigh 129 = .ok (.iaload, 1) := by decide +kernel
theorem dX3_weigh_130 : decode cX3_weigh 130 = .ok (.bipush 48, 2) := by decide +kernel
theorem dX3_weigh_132 : decode cX3_weigh 132 = .ok (.isub, 1) := by decide +kernel
theorem dX3_weigh_133 : decode cX3_weigh 133 = .ok (.imul, 1) := by decide +kernel
theorem dX3_weigh_134 : decode cX3_weigh 134 = .ok (.aload_n 0, 1) := by decide +kernel
theorem dX3_weigh_135 : decode cX3_weigh 135 = .ok (.getfield 9, 3) := by decide +kernel
theorem dX3_weigh_138 : decode cX3_weigh 138 = .ok (.aload_n 0, 1) := by decide +kernel
theorem dX3_weigh_139 : decode cX3_weigh 139 = .ok (.getfield 41, 3) := by decide +kernel
theorem dX3_weigh_142 : decode cX3_weigh 142 = .ok (.iconst 1, 1) := by decide +kernel
theorem dX3_weigh_143 : decode cX3_weigh 143 = .ok (.iadd, 1) := by decide +kernel
theorem dX3_weigh_144 : decode cX3_weigh 144 = .ok (.iaload, 1) := by decide +kernel
theorem dX3_weigh_145 : decode cX3_weigh 145 = .ok (.iadd, 1) := by decide +kernel
theorem dX3_weigh_146 : decode cX3_weigh 146 = .ok (.bipush 48, 2) := by decide +kernel
theorem dX3_weigh_148 : decode cX3_weigh 148 = .ok (.isub, 1) := by decide +kernel
theorem dX3_weigh_149 : decode cX3_weigh 149 = .ok (.goto 4, 3) := by decide +kernel
theorem dX3_weigh_152 : decode cX3_weigh 152 = .ok (.iconst 0, 1) := by decide +kernel
theorem dX3_weigh_153 : decode cX3_weigh 153 = .ok (.putfield 44, 3) := by decide +kernel
theorem dX3_weigh_156 : decode cX3_weigh 156 = .ok (.return_, 1) := by decide +kernel
set_option maxRecDepth 20000 in
theorem ggX4_init_X3_init : GoodIn wsX4_init wsX3_init := goodIn_r _ [26, 27, 2, 3, 18, 28, 53, 54, 55, 56, 57, 58, 59] (by decide +kernel) (by decide +kernel)
set_option maxRecDepth 20000 in
theorem gX4_init_X3_init_n11 : GoodIn wsX4_init (wsX3_init) := ggX4_init_X3_init
set_option maxRecDepth 20000 in
theorem ggX4_init_X1_init : GoodIn wsX4_init wsX1_init := goodIn_r _ [30, 31, 2, 3, 18, 32, 33, 34, 68, 69, 70, 71] (by decide +kernel) (by decide +kernel)
set_option maxRecDepth 20000 in
theorem gX4_init_X1_init_n18 : GoodIn wsX4_init (wsX1_init) := ggX4_init_X1_init
set_option maxRecDepth 20000 in
theorem ggX4_init_X2_init : GoodIn wsX4_init wsX2_init := goodIn_r _ [36, 37, 2, 3, 18, 38, 39, 40, 41, 42, 43, 72, 73, 74, 75, 76, 77, 78, 79, 80, 81] (by decide +kernel) (by decide +kernel)
set_option maxRecDepth 20000 in
theorem gX4_init_X2_init_n29 : GoodIn wsX4_init (wsX2_init) := ggX4_init_X2_init
set_option maxRecDepth 20000 in
theorem ggX4_init_X0_init : GoodIn wsX4_init wsX0_init := goodIn_r _ [45, 46, 2, 3, 47, 48, 49, 14, 15, 50, 18, 51, 52, 35, 36, 37, 38, 39, 40, 41, 42, 43, 82, 83, 84, 85, 86, 87, 72, 73, 74, 75, 76, 77, 78, 79, 80, 81] (by decide +kernel) (by decide +kernel)
set_option maxRecDepth 20000 in
theorem gX4_init_X0_init_n40 : GoodIn wsX4_init (wsX0_init) := ggX4_init_X0_init
theorem dX4_init_0 : decode cX4_init 0 = .ok (.aload_n 0, 1) := by decide +kernel
theorem dX4_init_1 : decode cX4_init 1 = .ok (.invokespecial 3, 3) := by decide +kernel
theorem dX4_init_4 : decode cX4_init 4 = .ok (.aload_n 0, 1) := by decide +kernel
theorem dX4_init_5 : decode cX4_init 5 = .ok (.new 9, 3) := by decide +kernel
theorem dX4_init_8 : decode cX4_init 8 = .ok (.dup, 1) := by decide +kernel
theorem dX4_init_9 : decode cX4_init 9 = .ok (.invokespecial 11, 3) := by decide +kernel
theorem dX4_init_12 : decode cX4_init 12 = .ok (.putfield 12, 3) := by decide +kernel
theorem dX4_init_15 : decode cX4_init 15 = .ok (.aload_n 0, 1) := by decide +kernel
theorem dX4_init_16 : decode cX4_init 16 = .ok (.new 16, 3) := by decide +kernel
theorem dX4_init_19 : decode cX4_init 19 = .ok (.dup, 1) := by decide +kernel
theorem dX4_init_20 : decode cX4_init 20 = .ok (.invokespecial 18, 3) := by decide +kernel
theorem dX4_init_23 : decode cX4_init 23 = .ok (.putfield 19, 3) := by decide +kernel
theorem dX4_init_26 : decode cX4_init 26 = .ok (.aload_n 0, 1) := by decide +kernel
theorem dX4_init_27 : decode cX4_init 27 = .ok (.iconst 2, 1) := by decide +kernel
theorem dX4_init_28 : decode cX4_init 28 = .ok (.anewarray 23, 3) := by decide +kernel
theorem dX4_init_31 : decode cX4_init 31 = .ok (.putfield 25, 3) := by decide +kernel
theorem dX4_init_34 : decode cX4_init 34 = .ok (.iconst 0, 1) := by decide +kernel
theorem dX4_init_35 : decode cX4_init 35 = .ok (.istore_n 1, 1) := by decide +kernel
theorem dX4_init_36 : decode cX4_init 36 = .ok (.iload_n 1, 1) := by decide +kernel
theorem dX4_init_37 : decode cX4_init 37 = .ok (.iconst 2, 1) := by decide +kernel
theorem dX4_init_38 : decode cX4_init 38 = .ok (.if_icmp .ge 22, 3) := by decide +kernel
theorem dX4_init_41 : decode cX4_init 41 = .ok (.aload_n 0, 1) := by decide +kernel
theorem dX4_init_42 : decode cX4_init 42 = .ok (.getfield 25, 3) := by decide +kernel
theorem dX4_init_45 : decode cX4_init 45 = .ok (.iload_n 1, 1) := by decide +kernel
theorem dX4_init_46 : decode cX4_init 46 = .ok (.new 23, 3) := by decide +kernel
theorem dX4_init_49 : decode cX4_init 49 = .ok (.dup, 1) := by decide +kernel
theorem dX4_init_50 : decode cX4_init 50 = .ok (.invokespecial 29, 3) := by decide +kernel
theorem dX4_init_53 : decode cX4_init 53 = .ok (.aastore, 1) := by decide +kernel
theorem dX4_init_54 : decode cX4_init 54 = .ok (.iinc 1 1, 3) := by decide +kernel
theorem dX4_init_57 : decode cX4_init 57 = .ok (.goto (-21), 3) := by decide +kernel
theorem dX4_init_60 : decode cX4_init 60 = .ok (.aload_n 0, 1) := by decide +kernel
theorem dX4_init_61 : decode cX4_init 61 = .ok (.iconst 2, 1) := by decide +kernel
theorem dX4_init_62 : decode cX4_init 62 = .ok (.newarray .boolean, 2) := by decide +kernel
theorem dX4_init_64 : decode cX4_init 64 = .ok (.putfield 30, 3) := by decide +kernel
theorem dX4_init_67 : decode cX4_init 67 = .ok (.aload_n 0, 1) := by decide +kernel
theorem dX4_init_68 : decode cX4_init 68 = .ok (.bipush 24, 2) := by decide +kernel
theorem dX4_init_70 : decode cX4_init 70 = .ok (.newarray .int, 2) := by decide +kernel
theorem dX4_init_72 : decode cX4_init 72 = .ok (.putfield 34, 3) := by decide +kernel
theorem dX4_init_75 : decode cX4_init 75 = .ok (.aload_n 0, 1) := by decide +kernel
theorem dX4_init_76 : decode cX4_init 76 = .ok (.new 38, 3) := by decide +kernel
theorem dX4_init_79 : decode cX4_init 79 = .ok (.dup, 1) := by decide +kernel
theorem dX4_init_80 : decode cX4_init 80 = .ok (.invokespecial 40, 3) := by decide +kernel
theorem dX4_init_83 : decode cX4_init 83 = .ok (.putfield 41, 3) := by decide +kernel
theorem dX4_init_86 : decode cX4_init 86 = .ok (.aload_n 0, 1) := by decide +kernel
theorem dX4_init_87 : decode cX4_init 87 = .ok (.new 38, 3) := by decide +kernel
theorem dX4_init_90 : decode cX4_init 90 = .ok (.dup, 1) := by decide +kernel
theorem dX4_init_91 : decode cX4_init 91 = .ok (.invokespecial 40, 3) := by decide +kernel
theorem dX4_init_94 : decode cX4_init 94 = .ok (.putfield 45, 3) := by decide +kernel
theorem dX4_init_97 : decode cX4_init 97 = .ok (.return_, 1) := by decide +kernel
set_option maxRecDepth 20000 in
theorem ggX4_type_X4_within : GoodIn wsX4_type wsX4_within := goodIn_r _ [6] (by decide +kernel) (by decide +kernel)
set_option maxRecDepth 20000 in
theorem gX4_type_X4_within : GoodIn wsX4_type (va_wsS RX4 48 yX4_within wsX4_within) := goodIn_app (goodIn_of _ (by decide +kernel)) ggX4_type_X4_within
set_option maxRecDepth 20000 in
theorem ggX4_type_X3_append : GoodIn wsX4_type wsX3_append := goodIn_r _ [11, 12, 13, 22, 23, 24, 25, 26, 27, 28] (by decide +kernel) (by decide +kernel)
set_option maxRecDepth 20000 in
theorem gX4_type_X3_append : GoodIn wsX4_type (wsV RX4 52 RX3 yX3_append wsX3_append) := goodIn_app (goodIn_of _ (by decide +kernel)) ggX4_type_X3_append
theorem dX4_type_0 : decode cX4_type 0 = .ok (.iload_n 1, 1) := by decide +kernel
theorem dX4_type_1 : decode cX4_type 1 = .ok (.iconst 0, 1) := by decide +kernel
theorem dX4_type_2 : decode cX4_type 2 = .ok (.sipush 255, 3) := by decide +kernel
theorem dX4_type_5 : decode cX4_type 5 = .ok (.invokestatic 48, 3) := by decide +kernel
theorem dX4_type_8 : decode cX4_type 8 = .ok (.ifCond .ne 5, 3) := by decide +kernel
theorem dX4_type_11 : decode cX4_type 11 = .ok (.iconst (-1), 1) := by decide +kernel
theorem dX4_type_12 : decode cX4_type 12 = .ok (.ireturn, 1) := by decide +kernel
theorem dX4_type_13 : decode cX4_type 13 = .ok (.aload_n 0, 1) := by decide +kernel
theorem dX4_type_14 : decode cX4_type 14 = .ok (.getfield 12, 3) := by decide +kernel
theorem dX4_type_17 : decode cX4_type 17 = .ok (.iload_n 1, 1) := by decide +kernel
theorem dX4_type_18 : decode cX4_type 18 = .ok (.invokevirtual 52, 3) := by decide +kernel
theorem dX4_type_21 : decode cX4_type 21 = .ok (.ifCond .eq 13, 3) := by decide +kernel
theorem dX4_type_24 : decode cX4_type 24 = .ok (.aload_n 0, 1) := by decide +kernel
theorem dX4_type_25 : decode cX4_type 25 = .ok (.getfield 12, 3) := by decide +kernel
theorem dX4_type_28 : decode cX4_type 28 = .ok (.getfield 56, 3) := by decide +kernel
theorem dX4_type_31 : decode cX4_type 31 = .ok (.goto 5, 3) := by decide +kernel
theorem dX4_type_34 : decode cX4_type 34 = .ok (.bipush (-3), 2) := by decide +kernel
theorem dX4_type_36 : decode cX4_type 36 = .ok (.ireturn, 1) := by decide +kernel
theorem dX4_clear_0 : decode cX4_clear 0 = .ok (.aload_n 0, 1) := by decide +kernel
theorem dX4_clear_1 : decode cX4_clear 1 = .ok (.getfield 12, 3) := by decide +kernel
theorem dX4_clear_4 : decode cX4_clear 4 = .ok (.getfield 56, 3) := by decide +kernel
theorem dX4_clear_7 : decode cX4_clear 7 = .ok (.istore_n 1, 1) := by decide +kernel
theorem dX4_clear_8 : decode cX4_clear 8 = .ok (.aload_n 0, 1) := by decide +kernel
theorem dX4_clear_9 : decode cX4_clear 9 = .ok (.getfield 12, 3) := by decide +kernel
theorem dX4_clear_12 : decode cX4_clear 12 = .ok (.iconst 0, 1) := by decide +kernel
theorem dX4_clear_13 : decode cX4_clear 13 = .ok (.putfield 56, 3) := by decide +kernel
theorem dX4_clear_16 : decode cX4_clear 16 = .ok (.iload_n 1, 1) := by decide +kernel
theorem dX4_clear_17 : decode cX4_clear 17 = .ok (.ireturn, 1) := by decide +kernel
set_option maxRecDepth 20000 in
theorem ggX4_gallery_X3_readInto : GoodIn wsX4_gallery wsX3_readInto := goodIn_r _ [12, 13, 14, 15, 16, 17, 18, 19, 20, 21, 22, 23, 24, 25, 26, 27, 28, 29, 30, 31, 32, 33, 34, 35, 36, 37, 11, 38, 39, 40, 41, 42, 43, 44, 45, 46, 47, 48, 49, 50, 51, 52, 53, 54, 55, 56, 57, 58, 59, 60, 61, 62, 63, 64, 65, 66, 67, 68, 69, 70, 71, 72, 73, 74, 75, 76, 77, 78, 79, 80, 81, 82, 83, 84, 85, 86, 87, 88, 89, 90, 91, 92, 93, 102, 103, 104, 105, 106, 107, 108, 113, 114, 115, 116, 117, 118, 119, 120, 121, 122, 123, 124, 125, 126, 127, 128] (by decide +kernel) (by decide +kernel)
set_option maxRecDepth 20000 in
theorem gX4_gallery_X3_readInto : GoodIn wsX4_gallery (wsV RX4 60 RX3 yX3_readInto wsX3_readInto) := goodIn_app (goodIn_of _ (by decide +kernel)) ggX4_gallery_X3_readInto
theorem dX4_gallery_0 : decode cX4_gallery 0 = .ok (.aload_n 0, 1) := by decide +kernel
theorem dX4_gallery_1 : decode cX4_gallery 1 = .ok (.getfield 12, 3) := by decide +kernel
theorem dX4_gallery_4 : decode cX4_gallery 4 = .ok (.aload_n 0, 1) := by decide +kernel
theorem dX4_gallery_5 : decode cX4_gallery 5 = .ok (.getfield 45, 3) := by decide +kernel
theorem dX4_gallery_8 : decode cX4_gallery 8 = .ok (.invokevirtual 60, 3) := by decide +kernel
theorem dX4_gallery_11 : decode cX4_gallery 11 = .ok (.istore_n 1, 1) := by decide +kernel
theorem dX4_gallery_12 : decode cX4_gallery 12 = .ok (.iload_n 1, 1) := by decide +kernel
theorem dX4_gallery_13 : decode cX4_gallery 13 = .ok (.ifCond .ge 5, 3) := by decide +kernel
theorem dX4_gallery_16 : decode cX4_gallery 16 = .ok (.iload_n 1, 1) := by decide +kernel
theorem dX4_gallery_17 : decode cX4_gallery 17 = .ok (.ireturn, 1) := by decide +kernel
theorem dX4_gallery_18 : decode cX4_gallery 18 = .ok (.aload_n 0, 1) := by decide +kernel
theorem dX4_gallery_19 : decode cX4_gallery 19 = .ok (.getfield 41, 3) := by decide +kernel
theorem dX4_gallery_22 : decode cX4_gallery 22 = .ok (.astore_n 2, 1) := by decide +kernel
theorem dX4_gallery_23 : decode cX4_gallery 23 = .ok (.aload_n 0, 1) := by decide +kernel
theorem dX4_gallery_24 : decode cX4_gallery 24 = .ok (.aload_n 0, 1) := by decide +kernel
theorem dX4_gallery_25 : decode cX4_gallery 25 = .ok (.getfield 45, 3) := by decide +kernel
theorem dX4_gallery_28 : decode cX4_gallery 28 = .ok (.putfield 41, 3) := by decide +kernel
theorem dX4_gallery_31 : decode cX4_gallery 31 = .ok (.aload_n 0, 1) := by decide +kernel
theorem dX4_gallery_32 : decode cX4_gallery 32 = .ok (.aload_n 2, 1) := by decide +kernel
theorem dX4_gallery_33 : decode cX4_gallery 33 = .ok (.putfield 45, 3) := by decide +kernel
theorem dX4_gallery_36 : decode cX4_gallery 36 = .ok (.aload_n 0, 1) := by decide +kernel
theorem dX4_gallery_37 : decode cX4_gallery 37 = .ok (.getfield 12, 3) := by decide +kernel
theorem dX4_gallery_40 : decode cX4_gallery 40 = .ok (.iconst 0, 1) := by decide +kernel
theorem dX4_gallery_41 : decode cX4_gallery 41 = .ok (.putfield 56, 3) := by decide +kernel
theorem dX4_gallery_44 : decode cX4_gallery 44 = .ok (.aload_n 0, 1) := by decide +kernel
theorem dX4_gallery_45 : decode cX4_gallery 45 = .ok (.getfield 19, 3) := by decide +kernel
theorem dX4_gallery_48 : decode cX4_gallery 48 = .ok (.iconst 0, 1) := by decide +kernel
theorem dX4_gallery_49 : decode cX4_gallery 49 = .ok (.putfield 64, 3) := by decide +kernel
theorem dX4_gallery_52 : decode cX4_gallery 52 = .ok (.iconst 0, 1) := by decide +kernel
theorem dX4_gallery_53 : decode cX4_gallery 53 = .ok (.istore_n 3, 1) := by decide +kernel
theorem dX4_gallery_54 : decode cX4_gallery 54 = .ok (.iload_n 3, 1) := by decide +kernel
theorem dX4_gallery_55 : decode cX4_gallery 55 = .ok (.iconst 2, 1) := by decide +kernel
theorem dX4_gallery_56 : decode cX4_gallery 56 = .ok (.if_icmp .ge 16, 3) := by decide +kernel
theorem dX4_gallery_59 : decode cX4_gallery 59 = .ok (.aload_n 0, 1) := by decide +kernel
theorem dX4_gallery_60 : decode cX4_gallery 60 = .ok (.getfield 30, 3) := by decide +kernel
theorem dX4_gallery_63 : decode cX4_gallery 63 = .ok (.iload_n 3, 1) := by decide +kernel
theorem dX4_gallery_64 : decode cX4_gallery 64 = .ok (.iconst 0, 1) := by decide +kernel
theorem dX4_gallery_65 : decode cX4_gallery 65 = .ok (.bastore, 1) := by decide +kernel
theorem dX4_gallery_66 : decode cX4_gallery 66 = .ok (.iinc 3 1, 3) := by decide +kernel
theorem dX4_gallery_69 : decode cX4_gallery 69 = .ok (.goto (-15), 3) := by decide +kernel
theorem dX4_gallery_72 : decode cX4_gallery 72 = .ok (.iload_n 1, 1) := by decide +kernel
theorem dX4_gallery_73 : decode cX4_gallery 73 = .ok (.ireturn, 1) := by decide +kernel
set_option maxRecDepth 20000 in
theorem ggX4_saying_X0_hasSaying : GoodIn wsX4_saying wsX0_hasSaying := goodIn_r _ [11, 12, 13, 14, 15, 16, 81, 82, 83, 84, 85, 86, 87, 88, 89, 90, 91, 92, 93, 94, 95, 96] (by decide +kernel) (by decide +kernel)
set_option maxRecDepth 20000 in
theorem gX4_saying_X0_hasSaying : GoodIn wsX4_saying (wsV RX4 65 RX0 yX0_hasSaying wsX0_hasSaying) := goodIn_app (goodIn_of _ (by decide +kernel)) ggX4_saying_X0_hasSaying
set_option maxRecDepth 20000 in
theorem ggX4_saying_X0_placeAfter : GoodIn wsX4_saying wsX0_placeAfter := goodIn_r _ [20, 12, 21, 22, 23, 24, 25, 10, 26, 27, 28, 29, 30, 31, 32, 33, 34, 35, 36, 37, 38, 81, 82, 83, 84, 85, 86, 87, 88, 89, 90, 91, 92, 93, 94, 95, 96] (by decide +kernel) (by decide +kernel)
set_option maxRecDepth 20000 in
theorem gX4_saying_X0_placeAfter : GoodIn wsX4_saying (wsV RX4 84 RX0 yX0_placeAfter wsX0_placeAfter) := goodIn_app (goodIn_of _ (by decide +kernel)) ggX4_saying_X0_placeAfter
set_option maxRecDepth 20000 in
theorem ggX4_saying_X0_lapsAfter : GoodIn wsX4_saying wsX0_lapsAfter := goodIn_r _ [42, 23, 24, 25, 10, 26, 12, 27, 28, 29, 43, 44, 45, 46, 34, 81, 82, 83, 84, 85, 86, 87, 88, 89, 90, 91, 92, 93, 94, 95, 96] (by decide +kernel) (by decide +kernel)
set_option maxRecDepth 20000 in
theorem gX4_saying_X0_lapsAfter : GoodIn wsX4_saying (wsV RX4 88 RX0 yX0_lapsAfter wsX0_lapsAfter) := goodIn_app (goodIn_of _ (by decide +kernel)) ggX4_saying_X0_lapsAfter
set_option maxRecDepth 20000 in
theorem ggX4_saying_X0_strengthAfter : GoodIn wsX4_saying wsX0_strengthAfter := goodIn_r _ [50, 12, 51, 52, 53, 54, 55, 56, 57, 23, 24, 25, 10, 26, 27, 28, 29, 58, 59, 60, 61, 62, 63, 64, 65, 66, 43, 44, 45, 46, 34, 81, 82, 83, 84, 85, 86, 87, 88, 89, 90, 91, 92, 93, 94, 95, 96] (by decide +kernel) (by decide +kernel)
set_option maxRecDepth 20000 in
theorem gX4_saying_X0_strengthAfter : GoodIn wsX4_saying (wsV RX4 91 RX0 yX0_strengthAfter wsX0_strengthAfter) := goodIn_app (goodIn_of _ (by decide +kernel)) ggX4_saying_X0_strengthAfter
set_option maxRecDepth 20000 in
theorem ggX4_saying_X2_isHushed : GoodIn wsX4_saying wsX2_isHushed := goodIn_r _ [56, 57, 87, 88, 89, 90, 91, 92, 93, 94, 95, 96] (by decide +kernel) (by decide +kernel)
set_option maxRecDepth 20000 in
theorem gX4_saying_X2_isHushed : GoodIn wsX4_saying (wsV RX4 94 RX2 yX2_isHushed wsX2_isHushed) := goodIn_app (goodIn_of _ (by decide +kernel)) ggX4_saying_X2_isHushed
set_option maxRecDepth 20000 in
theorem ggX4_saying_X0_lastOf : GoodIn wsX4_saying wsX0_lastOf := goodIn_r _ [71, 72, 48, 49, 10, 50, 12, 51, 52, 53, 54, 55, 56, 57, 23, 24, 25, 26, 27, 28, 29, 58, 59, 60, 61, 62, 63, 64, 65, 66, 43, 44, 45, 46, 34, 81, 82, 83, 84, 85, 86, 87, 88, 89, 90, 91, 92, 93, 94, 95, 96] (by decide +kernel) (by decide +kernel)
set_option maxRecDepth 20000 in
theorem gX4_saying_X0_lastOf : GoodIn wsX4_saying (wsV RX4 97 RX0 yX0_lastOf wsX0_lastOf) := goodIn_app (goodIn_of _ (by decide +kernel)) ggX4_saying_X0_lastOf
theorem dX4_saying_0 : decode cX4_saying 0 = .ok (.aload_n 0, 1) := by decide +kernel
theorem dX4_saying_1 : decode cX4_saying 1 = .ok (.getfield 41, 3) := by decide +kernel
theorem dX4_saying_4 : decode cX4_saying 4 = .ok (.iload_n 1, 1) := by decide +kernel
theorem dX4_saying_5 : decode cX4_saying 5 = .ok (.invokevirtual 65, 3) := by decide +kernel
theorem dX4_saying_8 : decode cX4_saying 8 = .ok (.ifCond .ne 5, 3) := by decide +kernel
theorem dX4_saying_11 : decode cX4_saying 11 = .ok (.iconst (-1), 1) := by decide +kernel
theorem dX4_saying_12 : decode cX4_saying 12 = .ok (.ireturn, 1) := by decide +kernel
theorem dX4_saying_13 : decode cX4_saying 13 = .ok (.aload_n 0, 1) := by decide +kernel
theorem dX4_saying_14 : decode cX4_saying 14 = .ok (.getfield 41, 3) := by decide +kernel
theorem dX4_saying_17 : decode cX4_saying 17 = .ok (.getfield 68, 3) := by decide +kernel
theorem dX4_saying_20 : decode cX4_saying 20 = .ok (.astore_n 3, 1) := by decide +kernel
theorem dX4_saying_21 : decode cX4_saying 21 = .ok (.iload_n 2, 1) := by decide +kernel
theorem dX4_saying_22 : decode cX4_saying 22 = .ok (.tableswitch 131 0 8 #[50, 57, 64, 71, 78, 88, 98, 108, 122], 50) := by decide +kernel
theorem dX4_saying_72 : decode cX4_saying 72 = .ok (.aload_n 3, 1) := by decide +kernel
theorem dX4_saying_73 : decode cX4_saying 73 = .ok (.getfield 72, 3) := by decide +kernel
theorem dX4_saying_76 : decode cX4_saying 76 = .ok (.iload_n 1, 1) := by decide +kernel
theorem dX4_saying_77 : decode cX4_saying 77 = .ok (.iaload, 1) := by decide +kernel
theorem dX4_saying_78 : decode cX4_saying 78 = .ok (.ireturn, 1) := by decide +kernel
theorem dX4_saying_79 : decode cX4_saying 79 = .ok (.aload_n 3, 1) := by decide +kernel
theorem dX4_saying_80 : decode cX4_saying 80 = .ok (.getfield 75, 3) := by decide +kernel
theorem dX4_saying_83 : decode cX4_saying 83 = .ok (.iload_n 1, 1) := by decide +kernel
theorem dX4_saying_84 : decode cX4_saying 84 = .ok (.iaload, 1) := by decide +kernel
theorem dX4_saying_85 : decode cX4_saying 85 = .ok (.ireturn, 1) := by decide +kernel
theorem dX4_saying_86 : decode cX4_saying 86 = .ok (.aload_n 3, 1) := by decide +kernel
theorem dX4_saying_87 : decode cX4_saying 87 = .ok (.getfield 78, 3) := by decide +kernel
theorem dX4_saying_90 : decode cX4_saying 90 = .ok (.iload_n 1, 1) := by decide +kernel
theorem dX4_saying_91 : decode cX4_saying 91 = .ok (.iaload, 1) := by decide +kernel
theorem dX4_saying_92 : decode cX4_saying 92 = .ok (.ireturn, 1) := by decide +kernel
theorem dX4_saying_93 : decode cX4_saying 93 = .ok (.aload_n 3, 1) := by decide +kernel
theorem dX4_saying_94 : decode cX4_saying 94 = .ok (.getfield 81, 3) := by decide +kernel
theorem dX4_saying_97 : decode cX4_saying 97 = .ok (.iload_n 1, 1) := by decide +kernel
theorem dX4_saying_98 : decode cX4_saying 98 = .ok (.iaload, 1) := by decide +kernel
theorem dX4_saying_99 : decode cX4_saying 99 = .ok (.ireturn, 1) := by decide +kernel
theorem dX4_saying_100 : decode cX4_saying 100 = .ok (.aload_n 0, 1) := by decide +kernel
theorem dX4_saying_101 : decode cX4_saying 101 = .ok (.getfield 41, 3) := by decide +kernel
theorem dX4_saying_104 : decode cX4_saying 104 = .ok (.iload_n 1, 1) := by decide +kernel
theorem dX4_saying_105 : decode cX4_saying 105 = .ok (.iconst 0, 1) := by decide +kernel
theorem dX4_saying_106 : decode cX4_saying 106 = .ok (.invokevirtual 84, 3) := by decide +kernel
theorem dX4_saying_109 : decode cX4_saying 109 = .ok (.ireturn, 1) := by decide +kernel
theorem dX4_saying_110 : decode cX4_saying 110 = .ok (.aload_n 0, 1) := by decide +kernel
theorem dX4_saying_111 : decode cX4_saying 111 = .ok (.getfield 41, 3) := by decide +kernel
theorem dX4_saying_114 : decode cX4_saying 114 = .ok (.iload_n 1, 1) := by decide +kernel
theorem dX4_saying_115 : decode cX4_saying 115 = .ok (.iconst 0, 1) := by decide +kernel
theorem dX4_saying_116 : decode cX4_saying 116 = .ok (.invokevirtual 88, 3) := by decide +kernel
theorem dX4_saying_119 : decode cX4_saying 119 = .ok (.ireturn, 1) := by decide +kernel
theorem dX4_saying_120 : decode cX4_saying 120 = .ok (.aload_n 0, 1) := by decide +kernel
theorem dX4_saying_121 : decode cX4_saying 121 = .ok (.getfield 41, 3) := by decide +kernel
theorem dX4_saying_124 : decode cX4_saying 124 = .ok (.iload_n 1, 1) := by decide +kernel
theorem dX4_saying_125 : decode cX4_saying 125 = .ok (.iconst 0, 1) := by decide +kernel
theorem dX4_saying_126 : decode cX4_saying 126 = .ok (.invokevirtual 91, 3) := by decide +kernel
theorem dX4_saying_129 : decode cX4_saying 129 = .ok (.ireturn, 1) := by decide +kernel
theorem dX4_saying_130 : decode cX4_saying 130 = .ok (.aload_n 3, 1) := by decide +kernel
theorem dX4_saying_131 : decode cX4_saying 131 = .ok (.iload_n 1, 1) := by decide +kernel
theorem dX4_saying_132 : decode cX4_saying 132 = .ok (.invokevirtual 94, 3) := by decide +kernel
theorem dX4_saying_135 : decode cX4_saying 135 = .ok (.ifCond .eq 7, 3) := by decide +kernel
theorem dX4_saying_138 : decode cX4_saying 138 = .ok (.iconst 1, 1) := by decide +kernel
theorem dX4_saying_139 : decode cX4_saying 139 = .ok (.goto 4, 3) := by decide +kernel
theorem dX4_saying_142 : decode cX4_saying 142 = .ok (.iconst 0, 1) := by decide +kernel
theorem dX4_saying_143 : decode cX4_saying 143 = .ok (.ireturn, 1) := by decide +kernel
theorem dX4_saying_144 : decode cX4_saying 144 = .ok (.aload_n 0, 1) := by decide +kernel
theorem dX4_saying_145 : decode cX4_saying 145 = .ok (.getfield 41, 3) := by decide +kernel
theorem dX4_saying_148 : decode cX4_saying 148 = .ok (.iload_n 1, 1) := by decide +kernel
theorem dX4_saying_149 : decode cX4_saying 149 = .ok (.invokevirtual 97, 3) := by decide +kernel
theorem dX4_saying_152 : decode cX4_saying 152 = .ok (.ireturn, 1) := by decide +kernel
theorem dX4_saying_153 : decode cX4_saying 153 = .ok (.iconst (-1), 1) := by decide +kernel
theorem dX4_saying_154 : decode cX4_saying 154 = .ok (.ireturn, 1) := by decide +kernel
set_option maxRecDepth 20000 in
theorem ggX4_place_X0_hasPlace : GoodIn wsX4_place wsX0_hasPlace := goodIn_r _ [6, 7, 8, 9, 10, 101, 102, 103, 104, 105, 106] (by decide +kernel) (by decide +kernel)
set_option maxRecDepth 20000 in
theorem gX4_place_X0_hasPlace : GoodIn wsX4_place (wsV RX4 101 RX0 yX0_hasPlace wsX0_hasPlace) := goodIn_app (goodIn_of _ (by decide +kernel)) ggX4_place_X0_hasPlace
set_option maxRecDepth 20000 in
theorem ggX4_place_X0_listen : GoodIn wsX4_place wsX0_listen := goodIn_r _ [14, 15, 16, 17, 18, 19, 20, 21, 5, 22, 23, 24, 25, 26, 27, 28, 29, 30, 31, 32, 33, 34, 35, 7, 36, 37, 38, 39, 40, 41, 42, 43, 44, 45, 46, 47, 48, 49, 50, 51, 52, 53, 54, 55, 56, 57, 58, 59, 60, 61, 62, 63, 101, 102, 103, 104, 105, 106, 107, 108, 109, 110, 111, 112, 113, 114, 115, 116] (by decide +kernel) (by decide +kernel)
set_option maxRecDepth 20000 in
theorem gX4_place_X0_listen : GoodIn wsX4_place (wsV RX4 104 RX0 yX0_listen wsX0_listen) := goodIn_app (goodIn_of _ (by decide +kernel)) ggX4_place_X0_listen
set_option maxRecDepth 20000 in
theorem ggX4_place_X0_isNiche : GoodIn wsX4_place wsX0_isNiche := goodIn_r _ [67, 68, 101, 102, 103, 104, 105, 106] (by decide +kernel) (by decide +kernel)
set_option maxRecDepth 20000 in
theorem gX4_place_X0_isNiche : GoodIn wsX4_place (wsV RX4 108 RX0 yX0_isNiche wsX0_isNiche) := goodIn_app (goodIn_of _ (by decide +kernel)) ggX4_place_X0_isNiche
set_option maxRecDepth 20000 in
theorem ggX4_place_X0_soundingAt : GoodIn wsX4_place wsX0_soundingAt := goodIn_r _ [72, 15, 16, 17, 18, 101, 102, 103, 104, 105, 106, 107, 108, 109, 110, 111, 112, 113, 114, 115, 116] (by decide +kernel) (by decide +kernel)
set_option maxRecDepth 20000 in
theorem gX4_place_X0_soundingAt : GoodIn wsX4_place (wsV RX4 111 RX0 yX0_soundingAt wsX0_soundingAt) := goodIn_app (goodIn_of _ (by decide +kernel)) ggX4_place_X0_soundingAt
set_option maxRecDepth 20000 in
theorem ggX4_place_X0_clearAt : GoodIn wsX4_place wsX0_clearAt := goodIn_r _ [76, 15, 16, 17, 18, 77, 78, 79, 5, 80, 101, 102, 103, 104, 105, 106, 107, 108, 109, 110, 111, 112, 113, 114, 115, 116] (by decide +kernel) (by decide +kernel)
set_option maxRecDepth 20000 in
theorem gX4_place_X0_clearAt : GoodIn wsX4_place (wsV RX4 114 RX0 yX0_clearAt wsX0_clearAt) := goodIn_app (goodIn_of _ (by decide +kernel)) ggX4_place_X0_clearAt
set_option maxRecDepth 20000 in
theorem ggX4_place_X0_isSea : GoodIn wsX4_place wsX0_isSea := goodIn_r _ [84, 85, 70, 71, 5, 72, 15, 16, 17, 18, 86, 74, 75, 76, 77, 78, 79, 80, 101, 102, 103, 104, 105, 106, 107, 108, 109, 110, 111, 112, 113, 114, 115, 116] (by decide +kernel) (by decide +kernel)
set_option maxRecDepth 20000 in
theorem gX4_place_X0_isSea : GoodIn wsX4_place (wsV RX4 117 RX0 yX0_isSea wsX0_isSea) := goodIn_app (goodIn_of _ (by decide +kernel)) ggX4_place_X0_isSea
set_option maxRecDepth 20000 in
theorem ggX4_place_X0_strengthAt : GoodIn wsX4_place wsX0_strengthAt := goodIn_r _ [80, 15, 16, 17, 18, 101, 102, 103, 104, 105, 106, 107, 108, 109, 110, 111, 112, 113, 114, 115, 116] (by decide +kernel) (by decide +kernel)
set_option maxRecDepth 20000 in
theorem gX4_place_X0_strengthAt : GoodIn wsX4_place (wsV RX4 120 RX0 yX0_strengthAt wsX0_strengthAt) := goodIn_app (goodIn_of _ (by decide +kernel)) ggX4_place_X0_strengthAt
set_option maxRecDepth 20000 in
theorem ggX4_place_X0_quietOf : GoodIn wsX4_place wsX0_quietOf := goodIn_r _ [91, 92, 12, 13, 5, 14, 15, 16, 17, 18, 19, 20, 21, 22, 23, 24, 25, 26, 27, 28, 29, 30, 31, 32, 33, 34, 35, 7, 36, 37, 38, 39, 40, 41, 42, 43, 44, 45, 46, 47, 48, 49, 50, 51, 52, 53, 54, 55, 56, 57, 58, 59, 60, 61, 62, 63, 85, 70, 71, 72, 101, 102, 103, 104, 105, 106, 107, 108, 109, 110, 111, 112, 113, 114, 115, 116] (by decide +kernel) (by decide +kernel)
set_option maxRecDepth 20000 in
theorem gX4_place_X0_quietOf : GoodIn wsX4_place (wsV RX4 123 RX0 yX0_quietOf wsX0_quietOf) := goodIn_app (goodIn_of _ (by decide +kernel)) ggX4_place_X0_quietOf
theorem dX4_place_0 : decode cX4_place 0 = .ok (.aload_n 0, 1) := by decide +kernel
theorem dX4_place_1 : decode cX4_place 1 = .ok (.getfield 41, 3) := by decide +kernel
theorem dX4_place_4 : decode cX4_place 4 = .ok (.iload_n 1, 1) := by decide +kernel
theorem dX4_place_5 : decode cX4_place 5 = .ok (.invokevirtual 101, 3) := by decide +kernel
theorem dX4_place_8 : decode cX4_place 8 = .ok (.ifCond .ne 5, 3) := by decide +kernel
theorem dX4_place_11 : decode cX4_place 11 = .ok (.iconst (-1), 1) := by decide +kernel
theorem dX4_place_12 : decode cX4_place 12 = .ok (.ireturn, 1) := by decide +kernel
theorem dX4_place_13 : decode cX4_place 13 = .ok (.aload_n 0, 1) := by decide +kernel
theorem dX4_place_14 : decode cX4_place 14 = .ok (.getfield 41, 3) := by decide +kernel
theorem dX4_place_17 : decode cX4_place 17 = .ok (.iconst 0, 1) := by decide +kernel
theorem dX4_place_18 : decode cX4_place 18 = .ok (.invokevirtual 104, 3) := by decide +kernel
theorem dX4_place_21 : decode cX4_place 21 = .ok (.iload_n 2, 1) := by decide +kernel
theorem dX4_place_22 : decode cX4_place 22 = .ok (.tableswitch 132 0 5 #[38, 55, 64, 73, 90, 123], 38) := by decide +kernel
theorem dX4_place_60 : decode cX4_place 60 = .ok (.aload_n 0, 1) := by decide +kernel
theorem dX4_place_61 : decode cX4_place 61 = .ok (.getfield 41, 3) := by decide +kernel
theorem dX4_place_64 : decode cX4_place 64 = .ok (.iload_n 1, 1) := by decide +kernel
theorem dX4_place_65 : decode cX4_place 65 = .ok (.invokevirtual 108, 3) := by decide +kernel
theorem dX4_place_68 : decode cX4_place 68 = .ok (.ifCond .eq 7, 3) := by decide +kernel
theorem dX4_place_71 : decode cX4_place 71 = .ok (.iconst 1, 1) := by decide +kernel
theorem dX4_place_72 : decode cX4_place 72 = .ok (.goto 4, 3) := by decide +kernel
theorem dX4_place_75 : decode cX4_place 75 = .ok (.iconst 0, 1) := by decide +kernel
theorem dX4_place_76 : decode cX4_place 76 = .ok (.ireturn, 1) := by decide +kernel
theorem dX4_place_77 : decode cX4_place 77 = .ok (.aload_n 0, 1) := by decide +kernel
theorem dX4_place_78 : decode cX4_place 78 = .ok (.getfield 41, 3) := by decide +kernel
theorem dX4_place_81 : decode cX4_place 81 = .ok (.iload_n 1, 1) := by decide +kernel
theorem dX4_place_82 : decode cX4_place 82 = .ok (.invokevirtual 111, 3) := by decide +kernel
theorem dX4_place_85 : decode cX4_place 85 = .ok (.ireturn, 1) := by decide +kernel
theorem dX4_place_86 : decode cX4_place 86 = .ok (.aload_n 0, 1) := by decide +kernel
theorem dX4_place_87 : decode cX4_place 87 = .ok (.getfield 41, 3) := by decide +kernel
theorem dX4_place_90 : decode cX4_place 90 = .ok (.iload_n 1, 1) := by decide +kernel
theorem dX4_place_91 : decode cX4_place 91 = .ok (.invokevirtual 114, 3) := by decide +kernel
theorem dX4_place_94 : decode cX4_place 94 = .ok (.ireturn, 1) := by decide +kernel
theorem dX4_place_95 : decode cX4_place 95 = .ok (.aload_n 0, 1) := by decide +kernel
theorem dX4_place_96 : decode cX4_place 96 = .ok (.getfield 41, 3) := by decide +kernel
theorem dX4_place_99 : decode cX4_place 99 = .ok (.iload_n 1, 1) := by decide +kernel
theorem dX4_place_100 : decode cX4_place 100 = .ok (.invokevirtual 117, 3) := by decide +kernel
theorem dX4_place_103 : decode cX4_place 103 = .ok (.ifCond .eq 7, 3) := by decide +kernel
theorem dX4_place_106 : decode cX4_place 106 = .ok (.iconst 1, 1) := by decide +kernel
theorem dX4_place_107 : decode cX4_place 107 = .ok (.goto 4, 3) := by decide +kernel
theorem dX4_place_110 : decode cX4_place 110 = .ok (.iconst 0, 1) := by decide +kernel
theorem dX4_place_111 : decode cX4_place 111 = .ok (.ireturn, 1) := by decide +kernel
theorem dX4_place_112 : decode cX4_place 112 = .ok (.aload_n 0, 1) := by decide +kernel
theorem dX4_place_113 : decode cX4_place 113 = .ok (.getfield 41, 3) := by decide +kernel
theorem dX4_place_116 : decode cX4_place 116 = .ok (.iload_n 1, 1) := by decide +kernel
theorem dX4_place_117 : decode cX4_place 117 = .ok (.invokevirtual 108, 3) := by decide +kernel
theorem dX4_place_120 : decode cX4_place 120 = .ok (.ifCond .eq 16, 3) := by decide +kernel
theorem dX4_place_123 : decode cX4_place 123 = .ok (.iconst 2, 1) := by decide +kernel
theorem dX4_place_124 : decode cX4_place 124 = .ok (.aload_n 0, 1) := by decide +kernel
theorem dX4_place_125 : decode cX4_place 125 = .ok (.getfield 41, 3) := by decide +kernel
theorem dX4_place_128 : decode cX4_place 128 = .ok (.iload_n 1, 1) := by decide +kernel
theorem dX4_place_129 : decode cX4_place 129 = .ok (.invokevirtual 120, 3) := by decide +kernel
theorem dX4_place_132 : decode cX4_place 132 = .ok (.imul, 1) := by decide +kernel
theorem dX4_place_133 : decode cX4_place 133 = .ok (.goto 11, 3) := by decide +kernel
theorem dX4_place_136 : decode cX4_place 136 = .ok (.aload_n 0, 1) := by decide +kernel
theorem dX4_place_137 : decode cX4_place 137 = .ok (.getfield 41, 3) := by decide +kernel
theorem dX4_place_140 : decode cX4_place 140 = .ok (.iload_n 1, 1) := by decide +kernel
theorem dX4_place_141 : decode cX4_place 141 = .ok (.invokevirtual 120, 3) := by decide +kernel
theorem dX4_place_144 : decode cX4_place 144 = .ok (.ireturn, 1) := by decide +kernel
theorem dX4_place_145 : decode cX4_place 145 = .ok (.aload_n 0, 1) := by decide +kernel
theorem dX4_place_146 : decode cX4_place 146 = .ok (.getfield 41, 3) := by decide +kernel
theorem dX4_place_149 : decode cX4_place 149 = .ok (.iload_n 1, 1) := by decide +kernel
theorem dX4_place_150 : decode cX4_place 150 = .ok (.invokevirtual 123, 3) := by decide +kernel
theorem dX4_place_153 : decode cX4_place 153 = .ok (.ireturn, 1) := by decide +kernel
theorem dX4_place_154 : decode cX4_place 154 = .ok (.iconst (-1), 1) := by decide +kernel
theorem dX4_place_155 : decode cX4_place 155 = .ok (.ireturn, 1) := by decide +kernel
set_option maxRecDepth 20000 in
theorem ggX4_ticks_X4_within : GoodIn wsX4_ticks wsX4_within := goodIn_r _ [7] (by decide +kernel) (by decide +kernel)
set_option maxRecDepth 20000 in
theorem gX4_ticks_X4_within : GoodIn wsX4_ticks (va_wsS RX4 48 yX4_within wsX4_within) := goodIn_app (goodIn_of _ (by decide +kernel)) ggX4_ticks_X4_within
set_option maxRecDepth 20000 in
theorem ggX4_ticks_X2_goBy : GoodIn wsX4_ticks wsX2_goBy := goodIn_r _ [12, 13, 14, 15, 16, 11, 17, 18, 19, 20, 21, 22, 23, 103, 104, 105, 106, 107, 108, 109, 110, 111, 112] (by decide +kernel) (by decide +kernel)
set_option maxRecDepth 20000 in
theorem gX4_ticks_X2_goBy : GoodIn wsX4_ticks (wsV RX4 129 RX2 yX2_goBy wsX2_goBy) := goodIn_app (goodIn_of _ (by decide +kernel)) ggX4_ticks_X2_goBy
set_option maxRecDepth 20000 in
theorem ggX4_ticks_X0_listen : GoodIn wsX4_ticks wsX0_listen := goodIn_r _ [28, 29, 30, 31, 32, 33, 34, 35, 27, 36, 37, 38, 39, 40, 41, 42, 43, 44, 45, 46, 47, 48, 49, 50, 51, 52, 53, 54, 55, 56, 57, 58, 59, 60, 61, 62, 11, 63, 64, 65, 66, 67, 68, 69, 70, 71, 72, 73, 74, 75, 76, 77, 97, 98, 99, 100, 101, 102, 103, 104, 105, 106, 107, 108, 109, 110, 111, 112] (by decide +kernel) (by decide +kernel)
set_option maxRecDepth 20000 in
theorem gX4_ticks_X0_listen : GoodIn wsX4_ticks (wsV RX4 104 RX0 yX0_listen wsX0_listen) := goodIn_app (goodIn_of _ (by decide +kernel)) ggX4_ticks_X0_listen
set_option maxRecDepth 20000 in
theorem ggX4_ticks_X0_lasting : GoodIn wsX4_ticks wsX0_lasting := goodIn_r _ [81, 29, 30, 32, 97, 98, 99, 100, 101, 102, 103, 104, 105, 106, 107, 108, 109, 110, 111, 112] (by decide +kernel) (by decide +kernel)
set_option maxRecDepth 20000 in
theorem gX4_ticks_X0_lasting : GoodIn wsX4_ticks (wsV RX4 132 RX0 yX0_lasting wsX0_lasting) := goodIn_app (goodIn_of _ (by decide +kernel)) ggX4_ticks_X0_lasting
set_option maxRecDepth 20000 in
theorem ggX4_ticks_J6_bitCount_0f7a4 : GoodIn wsX4_ticks wsJ6_bitCount_0f7a4 := goodIn_r _ [85, 86, 87, 88] (by decide +kernel) (by decide +kernel)
set_option maxRecDepth 20000 in
theorem gX4_ticks_J6_bitCount_0f7a4 : GoodIn wsX4_ticks (va_wsS RX4 136 yJ6_bitCount_0f7a4 wsJ6_bitCount_0f7a4) := goodIn_app (goodIn_of _ (by decide +kernel)) ggX4_ticks_J6_bitCount_0f7a4
theorem dX4_ticks_0 : decode cX4_ticks 0 = .ok (.iload_n 1, 1) := by decide +kernel
theorem dX4_ticks_1 : decode cX4_ticks 1 = .ok (.iconst 1, 1) := by decide +kernel
theorem dX4_ticks_2 : decode cX4_ticks 2 = .ok (.bipush 99, 2) := by decide +kernel
theorem dX4_ticks_4 : decode cX4_ticks 4 = .ok (.invokestatic 48, 3) := by decide +kernel
theorem dX4_ticks_7 : decode cX4_ticks 7 = .ok (.ifCond .ne 5, 3) := by decide +kernel
theorem dX4_ticks_10 : decode cX4_ticks 10 = .ok (.iconst (-1), 1) := by decide +kernel
theorem dX4_ticks_11 : decode cX4_ticks 11 = .ok (.ireturn, 1) := by decide +kernel
theorem dX4_ticks_12 : decode cX4_ticks 12 = .ok (.aload_n 0, 1) := by decide +kernel
theorem dX4_ticks_13 : decode cX4_ticks 13 = .ok (.getfield 41, 3) := by decide +kernel
theorem dX4_ticks_16 : decode cX4_ticks 16 = .ok (.getfield 68, 3) := by decide +kernel
theorem dX4_ticks_19 : decode cX4_ticks 19 = .ok (.getfield 126, 3) := by decide +kernel
theorem dX4_ticks_22 : decode cX4_ticks 22 = .ok (.iload_n 1, 1) := by decide +kernel
theorem dX4_ticks_23 : decode cX4_ticks 23 = .ok (.iadd, 1) := by decide +kernel
theorem dX4_ticks_24 : decode cX4_ticks 24 = .ok (.sipush 9999, 3) := by decide +kernel
theorem dX4_ticks_27 : decode cX4_ticks 27 = .ok (.if_icmp .le 6, 3) := by decide +kernel
theorem dX4_ticks_30 : decode cX4_ticks 30 = .ok (.bipush (-2), 2) := by decide +kernel
theorem dX4_ticks_32 : decode cX4_ticks 32 = .ok (.ireturn, 1) := by decide +kernel
theorem dX4_ticks_33 : decode cX4_ticks 33 = .ok (.aload_n 0, 1) := by decide +kernel
theorem dX4_ticks_34 : decode cX4_ticks 34 = .ok (.getfield 41, 3) := by decide +kernel
theorem dX4_ticks_37 : decode cX4_ticks 37 = .ok (.getfield 68, 3) := by decide +kernel
theorem dX4_ticks_40 : decode cX4_ticks 40 = .ok (.iload_n 1, 1) := by decide +kernel
theorem dX4_ticks_41 : decode cX4_ticks 41 = .ok (.invokevirtual 129, 3) := by decide +kernel
theorem dX4_ticks_44 : decode cX4_ticks 44 = .ok (.aload_n 0, 1) := by decide +kernel
theorem dX4_ticks_45 : decode cX4_ticks 45 = .ok (.getfield 41, 3) := by decide +kernel
theorem dX4_ticks_48 : decode cX4_ticks 48 = .ok (.iconst 0, 1) := by decide +kernel
theorem dX4_ticks_49 : decode cX4_ticks 49 = .ok (.invokevirtual 104, 3) := by decide +kernel
theorem dX4_ticks_52 : decode cX4_ticks 52 = .ok (.aload_n 0, 1) := by decide +kernel
theorem dX4_ticks_53 : decode cX4_ticks 53 = .ok (.getfield 41, 3) := by decide +kernel
theorem dX4_ticks_56 : decode cX4_ticks 56 = .ok (.invokevirtual 132, 3) := by decide +kernel
theorem dX4_ticks_59 : decode cX4_ticks 59 = .ok (.invokestatic 136, 3) := by decide +kernel
theorem dX4_ticks_62 : decode cX4_ticks 62 = .ok (.ireturn, 1) := by decide +kernel
set_option maxRecDepth 20000 in
theorem ggX4_says_X4_maySay : GoodIn wsX4_says wsX4_maySay := goodIn_r _ [8, 1, 9, 10, 11, 12, 13, 14, 15, 7, 16, 17, 40, 41, 42, 43, 44, 45, 46, 47, 48, 49, 50, 51, 52, 53] (by decide +kernel) (by decide +kernel)
set_option maxRecDepth 20000 in
theorem gX4_says_X4_maySay : GoodIn wsX4_says (wsV RX4 141 RX4 yX4_maySay wsX4_maySay) := goodIn_app (goodIn_of _ (by decide +kernel)) ggX4_says_X4_maySay
set_option maxRecDepth 20000 in
theorem ggX4_says_X2_add : GoodIn wsX4_says wsX2_add := goodIn_r _ [22, 23, 24, 25, 26, 27, 28, 29, 54, 55, 56, 57, 58, 59, 60, 61, 62, 63] (by decide +kernel) (by decide +kernel)
set_option maxRecDepth 20000 in
theorem gX4_says_X2_add : GoodIn wsX4_says (wsV RX4 145 RX2 yX2_add wsX2_add) := goodIn_app (goodIn_of _ (by decide +kernel)) ggX4_says_X2_add
set_option maxRecDepth 20000 in
theorem ggX4_says_X2_note : GoodIn wsX4_says wsX2_note := goodIn_r _ [33, 34, 35, 36, 37, 38, 39, 54, 55, 56, 57, 58, 59, 60, 61, 62, 63] (by decide +kernel) (by decide +kernel)
set_option maxRecDepth 20000 in
theorem gX4_says_X2_note : GoodIn wsX4_says (wsV RX4 148 RX2 yX2_note wsX2_note) := goodIn_app (goodIn_of _ (by decide +kernel)) ggX4_says_X2_note
theorem dX4_says_0 : decode cX4_says 0 = .ok (.aload_n 0, 1) := by decide +kernel
theorem dX4_says_1 : decode cX4_says 1 = .ok (.iload_n 1, 1) := by decide +kernel
theorem dX4_says_2 : decode cX4_says 2 = .ok (.iload_n 2, 1) := by decide +kernel
theorem dX4_says_3 : decode cX4_says 3 = .ok (.iload_n 3, 1) := by decide +kernel
theorem dX4_says_4 : decode cX4_says 4 = .ok (.iload 4, 2) := by decide +kernel
theorem dX4_says_6 : decode cX4_says 6 = .ok (.invokevirtual 141, 3) := by decide +kernel
theorem dX4_says_9 : decode cX4_says 9 = .ok (.ifCond .ne 5, 3) := by decide +kernel
theorem dX4_says_12 : decode cX4_says 12 = .ok (.iconst (-1), 1) := by decide +kernel
theorem dX4_says_13 : decode cX4_says 13 = .ok (.ireturn, 1) := by decide +kernel
theorem dX4_says_14 : decode cX4_says 14 = .ok (.aload_n 0, 1) := by decide +kernel
theorem dX4_says_15 : decode cX4_says 15 = .ok (.getfield 41, 3) := by decide +kernel
theorem dX4_says_18 : decode cX4_says 18 = .ok (.getfield 68, 3) := by decide +kernel
theorem dX4_says_21 : decode cX4_says 21 = .ok (.iload_n 1, 1) := by decide +kernel
theorem dX4_says_22 : decode cX4_says 22 = .ok (.iload_n 2, 1) := by decide +kernel
theorem dX4_says_23 : decode cX4_says 23 = .ok (.iload_n 3, 1) := by decide +kernel
theorem dX4_says_24 : decode cX4_says 24 = .ok (.iload 4, 2) := by decide +kernel
theorem dX4_says_26 : decode cX4_says 26 = .ok (.invokevirtual 145, 3) := by decide +kernel
theorem dX4_says_29 : decode cX4_says 29 = .ok (.ifCond .ne 6, 3) := by decide +kernel
theorem dX4_says_32 : decode cX4_says 32 = .ok (.bipush (-3), 2) := by decide +kernel
theorem dX4_says_34 : decode cX4_says 34 = .ok (.ireturn, 1) := by decide +kernel
theorem dX4_says_35 : decode cX4_says 35 = .ok (.aload_n 0, 1) := by decide +kernel
theorem dX4_says_36 : decode cX4_says 36 = .ok (.getfield 41, 3) := by decide +kernel
theorem dX4_says_39 : decode cX4_says 39 = .ok (.getfield 68, 3) := by decide +kernel
theorem dX4_says_42 : decode cX4_says 42 = .ok (.iconst 0, 1) := by decide +kernel
theorem dX4_says_43 : decode cX4_says 43 = .ok (.invokevirtual 148, 3) := by decide +kernel
theorem dX4_says_46 : decode cX4_says 46 = .ok (.aload_n 0, 1) := by decide +kernel
theorem dX4_says_47 : decode cX4_says 47 = .ok (.getfield 41, 3) := by decide +kernel
theorem dX4_says_50 : decode cX4_says 50 = .ok (.getfield 68, 3) := by decide +kernel
theorem dX4_says_53 : decode cX4_says 53 = .ok (.getfield 151, 3) := by decide +kernel
theorem dX4_says_56 : decode cX4_says 56 = .ok (.iconst 1, 1) := by decide +kernel
theorem dX4_says_57 : decode cX4_says 57 = .ok (.isub, 1) := by decide +kernel
theorem dX4_says_58 : decode cX4_says 58 = .ok (.ireturn, 1) := by decide +kernel
set_option maxRecDepth 20000 in
theorem ggX4_hushes_X0_hasSaying : GoodIn wsX4_hushes wsX0_hasSaying := goodIn_r _ [7, 8, 9, 10, 11, 12, 67, 68, 69, 70, 71, 72, 73, 74, 75, 76, 77, 78, 79, 80, 81, 82] (by decide +kernel) (by decide +kernel)
set_option maxRecDepth 20000 in
theorem gX4_hushes_X0_hasSaying : GoodIn wsX4_hushes (wsV RX4 65 RX0 yX0_hasSaying wsX0_hasSaying) := goodIn_app (goodIn_of _ (by decide +kernel)) ggX4_hushes_X0_hasSaying
set_option maxRecDepth 20000 in
theorem ggX4_hushes_X0_strengthAfter : GoodIn wsX4_hushes wsX0_strengthAfter := goodIn_r _ [16, 8, 17, 18, 19, 20, 21, 22, 23, 24, 25, 26, 6, 27, 28, 29, 30, 31, 32, 33, 34, 35, 36, 37, 38, 39, 40, 41, 42, 43, 44, 67, 68, 69, 70, 71, 72, 73, 74, 75, 76, 77, 78, 79, 80, 81, 82] (by decide +kernel) (by decide +kernel)
set_option maxRecDepth 20000 in
theorem gX4_hushes_X0_strengthAfter : GoodIn wsX4_hushes (wsV RX4 91 RX0 yX0_strengthAfter wsX0_strengthAfter) := goodIn_app (goodIn_of _ (by decide +kernel)) ggX4_hushes_X0_strengthAfter
set_option maxRecDepth 20000 in
theorem ggX4_hushes_X2_hush : GoodIn wsX4_hushes wsX2_hush := goodIn_r _ [48, 23, 49, 50, 51, 21, 52, 53, 54, 55, 56, 57, 58, 73, 74, 75, 76, 77, 78, 79, 80, 81, 82] (by decide +kernel) (by decide +kernel)
set_option maxRecDepth 20000 in
theorem gX4_hushes_X2_hush : GoodIn wsX4_hushes (wsV RX4 154 RX2 yX2_hush wsX2_hush) := goodIn_app (goodIn_of _ (by decide +kernel)) ggX4_hushes_X2_hush
theorem dX4_hushes_0 : decode cX4_hushes 0 = .ok (.aload_n 0, 1) := by decide +kernel
theorem dX4_hushes_1 : decode cX4_hushes 1 = .ok (.getfield 41, 3) := by decide +kernel
theorem dX4_hushes_4 : decode cX4_hushes 4 = .ok (.iload_n 1, 1) := by decide +kernel
theorem dX4_hushes_5 : decode cX4_hushes 5 = .ok (.invokevirtual 65, 3) := by decide +kernel
theorem dX4_hushes_8 : decode cX4_hushes 8 = .ok (.ifCond .ne 5, 3) := by decide +kernel
theorem dX4_hushes_11 : decode cX4_hushes 11 = .ok (.iconst (-1), 1) := by decide +kernel
theorem dX4_hushes_12 : decode cX4_hushes 12 = .ok (.ireturn, 1) := by decide +kernel
theorem dX4_hushes_13 : decode cX4_hushes 13 = .ok (.aload_n 0, 1) := by decide +kernel
theorem dX4_hushes_14 : decode cX4_hushes 14 = .ok (.getfield 41, 3) := by decide +kernel
theorem dX4_hushes_17 : decode cX4_hushes 17 = .ok (.iload_n 1, 1) := by decide +kernel
theorem dX4_hushes_18 : decode cX4_hushes 18 = .ok (.iconst 0, 1) := by decide +kernel
theorem dX4_hushes_19 : decode cX4_hushes 19 = .ok (.invokevirtual 91, 3) := by decide +kernel
theorem dX4_hushes_22 : decode cX4_hushes 22 = .ok (.istore_n 2, 1) := by decide +kernel
theorem dX4_hushes_23 : decode cX4_hushes 23 = .ok (.iload_n 2, 1) := by decide +kernel
theorem dX4_hushes_24 : decode cX4_hushes 24 = .ok (.ifCond .ne 6, 3) := by decide +kernel
theorem dX4_hushes_27 : decode cX4_hushes 27 = .ok (.bipush (-2), 2) := by decide +kernel
theorem dX4_hushes_29 : decode cX4_hushes 29 = .ok (.ireturn, 1) := by decide +kernel
theorem dX4_hushes_30 : decode cX4_hushes 30 = .ok (.aload_n 0, 1) := by decide +kernel
theorem dX4_hushes_31 : decode cX4_hushes 31 = .ok (.getfield 41, 3) := by decide +kernel
theorem dX4_hushes_34 : decode cX4_hushes 34 = .ok (.getfield 68, 3) := by decide +kernel
theorem dX4_hushes_37 : decode cX4_hushes 37 = .ok (.iload_n 1, 1) := by decide +kernel
theorem dX4_hushes_38 : decode cX4_hushes 38 = .ok (.invokevirtual 154, 3) := by decide +kernel
theorem dX4_hushes_41 : decode cX4_hushes 41 = .ok (.iload_n 2, 1) := by decide +kernel
theorem dX4_hushes_42 : decode cX4_hushes 42 = .ok (.ireturn, 1) := by decide +kernel
set_option maxRecDepth 20000 in
theorem ggX4_undo_X2_takeBack : GoodIn wsX4_undo wsX2_takeBack := goodIn_r _ [8, 9, 10, 11, 12, 13, 28, 29, 30, 31, 32, 33, 34, 35, 36, 37] (by decide +kernel) (by decide +kernel)
set_option maxRecDepth 20000 in
theorem gX4_undo_X2_takeBack : GoodIn wsX4_undo (wsV RX4 157 RX2 yX2_takeBack wsX2_takeBack) := goodIn_app (goodIn_of _ (by decide +kernel)) ggX4_undo_X2_takeBack
theorem dX4_undo_0 : decode cX4_undo 0 = .ok (.aload_n 0, 1) := by decide +kernel
theorem dX4_undo_1 : decode cX4_undo 1 = .ok (.getfield 41, 3) := by decide +kernel
theorem dX4_undo_4 : decode cX4_undo 4 = .ok (.getfield 68, 3) := by decide +kernel
theorem dX4_undo_7 : decode cX4_undo 7 = .ok (.invokevirtual 157, 3) := by decide +kernel
theorem dX4_undo_10 : decode cX4_undo 10 = .ok (.ifCond .eq 16, 3) := by decide +kernel
theorem dX4_undo_13 : decode cX4_undo 13 = .ok (.aload_n 0, 1) := by decide +kernel
theorem dX4_undo_14 : decode cX4_undo 14 = .ok (.getfield 41, 3) := by decide +kernel
theorem dX4_undo_17 : decode cX4_undo 17 = .ok (.getfield 68, 3) := by decide +kernel
theorem dX4_undo_20 : decode cX4_undo 20 = .ok (.getfield 161, 3) := by decide +kernel
theorem dX4_undo_23 : decode cX4_undo 23 = .ok (.goto 5, 3) := by decide +kernel
theorem dX4_undo_26 : decode cX4_undo 26 = .ok (.bipush (-2), 2) := by decide +kernel
theorem dX4_undo_28 : decode cX4_undo 28 = .ok (.ireturn, 1) := by decide +kernel
set_option maxRecDepth 20000 in
theorem ggX4_now_X0_listen : GoodIn wsX4_now wsX0_listen := goodIn_r _ [8, 9, 10, 11, 12, 13, 14, 15, 7, 16, 17, 18, 19, 20, 21, 22, 23, 24, 25, 26, 27, 28, 29, 30, 31, 32, 33, 34, 35, 36, 37, 38, 39, 40, 41, 42, 43, 44, 45, 46, 47, 48, 49, 50, 51, 52, 53, 54, 55, 56, 57, 58, 99, 100, 101, 102, 103, 104, 105, 106, 107, 108, 109, 110, 111, 112, 113, 114] (by decide +kernel) (by decide +kernel)
set_option maxRecDepth 20000 in
theorem gX4_now_X0_listen : GoodIn wsX4_now (wsV RX4 104 RX0 yX0_listen wsX0_listen) := goodIn_app (goodIn_of _ (by decide +kernel)) ggX4_now_X0_listen
set_option maxRecDepth 20000 in
theorem ggX4_now_X0_lasting : GoodIn wsX4_now wsX0_lasting := goodIn_r _ [62, 9, 10, 12, 99, 100, 101, 102, 103, 104, 105, 106, 107, 108, 109, 110, 111, 112, 113, 114] (by decide +kernel) (by decide +kernel)
set_option maxRecDepth 20000 in
theorem gX4_now_X0_lasting : GoodIn wsX4_now (wsV RX4 132 RX0 yX0_lasting wsX0_lasting) := goodIn_app (goodIn_of _ (by decide +kernel)) ggX4_now_X0_lasting
set_option maxRecDepth 20000 in
theorem ggX4_now_X0_strengthOf : GoodIn wsX4_now wsX0_strengthOf := goodIn_r _ [66, 9, 10, 12, 99, 100, 101, 102, 103, 104, 105, 106, 107, 108, 109, 110, 111, 112, 113, 114] (by decide +kernel) (by decide +kernel)
set_option maxRecDepth 20000 in
theorem gX4_now_X0_strengthOf : GoodIn wsX4_now (wsV RX4 164 RX0 yX0_strengthOf wsX0_strengthOf) := goodIn_app (goodIn_of _ (by decide +kernel)) ggX4_now_X0_strengthOf
set_option maxRecDepth 20000 in
theorem ggX4_now_X0_placesThatSound : GoodIn wsX4_now wsX0_placesThatSound := goodIn_r _ [70, 30, 71, 72, 73, 7, 74, 9, 10, 11, 12, 99, 100, 101, 102, 103, 104, 105, 106, 107, 108, 109, 110, 111, 112, 113, 114] (by decide +kernel) (by decide +kernel)
set_option maxRecDepth 20000 in
theorem gX4_now_X0_placesThatSound : GoodIn wsX4_now (wsV RX4 167 RX0 yX0_placesThatSound wsX0_placesThatSound) := goodIn_app (goodIn_of _ (by decide +kernel)) ggX4_now_X0_placesThatSound
set_option maxRecDepth 20000 in
theorem ggX4_now_X0_seas : GoodIn wsX4_now wsX0_seas := goodIn_r _ [78, 30, 79, 80, 81, 7, 82, 71, 72, 73, 74, 9, 10, 11, 12, 83, 84, 85, 86, 87, 88, 89, 90, 99, 100, 101, 102, 103, 104, 105, 106, 107, 108, 109, 110, 111, 112, 113, 114] (by decide +kernel) (by decide +kernel)
set_option maxRecDepth 20000 in
theorem gX4_now_X0_seas : GoodIn wsX4_now (wsV RX4 170 RX0 yX0_seas wsX0_seas) := goodIn_app (goodIn_of _ (by decide +kernel)) ggX4_now_X0_seas
theorem dX4_now_0 : decode cX4_now 0 = .ok (.aload_n 0, 1) := by decide +kernel
theorem dX4_now_1 : decode cX4_now 1 = .ok (.getfield 41, 3) := by decide +kernel
theorem dX4_now_4 : decode cX4_now 4 = .ok (.iconst 0, 1) := by decide +kernel
theorem dX4_now_5 : decode cX4_now 5 = .ok (.invokevirtual 104, 3) := by decide +kernel
theorem dX4_now_8 : decode cX4_now 8 = .ok (.iload_n 1, 1) := by decide +kernel
theorem dX4_now_9 : decode cX4_now 9 = .ok (.tableswitch 85 0 4 #[35, 46, 54, 69, 77], 35) := by decide +kernel
theorem dX4_now_44 : decode cX4_now 44 = .ok (.aload_n 0, 1) := by decide +kernel
theorem dX4_now_45 : decode cX4_now 45 = .ok (.getfield 41, 3) := by decide +kernel
theorem dX4_now_48 : decode cX4_now 48 = .ok (.getfield 68, 3) := by decide +kernel
theorem dX4_now_51 : decode cX4_now 51 = .ok (.getfield 126, 3) := by decide +kernel
theorem dX4_now_54 : decode cX4_now 54 = .ok (.ireturn, 1) := by decide +kernel
theorem dX4_now_55 : decode cX4_now 55 = .ok (.aload_n 0, 1) := by decide +kernel
theorem dX4_now_56 : decode cX4_now 56 = .ok (.getfield 41, 3) := by decide +kernel
theorem dX4_now_59 : decode cX4_now 59 = .ok (.invokevirtual 132, 3) := by decide +kernel
theorem dX4_now_62 : decode cX4_now 62 = .ok (.ireturn, 1) := by decide +kernel
theorem dX4_now_63 : decode cX4_now 63 = .ok (.aload_n 0, 1) := by decide +kernel
theorem dX4_now_64 : decode cX4_now 64 = .ok (.getfield 41, 3) := by decide +kernel
theorem dX4_now_67 : decode cX4_now 67 = .ok (.aload_n 0, 1) := by decide +kernel
theorem dX4_now_68 : decode cX4_now 68 = .ok (.getfield 41, 3) := by decide +kernel
theorem dX4_now_71 : decode cX4_now 71 = .ok (.invokevirtual 132, 3) := by decide +kernel
theorem dX4_now_74 : decode cX4_now 74 = .ok (.invokevirtual 164, 3) := by decide +kernel
theorem dX4_now_77 : decode cX4_now 77 = .ok (.ireturn, 1) := by decide +kernel
theorem dX4_now_78 : decode cX4_now 78 = .ok (.aload_n 0, 1) := by decide +kernel
theorem dX4_now_79 : decode cX4_now 79 = .ok (.getfield 41, 3) := by decide +kernel
theorem dX4_now_82 : decode cX4_now 82 = .ok (.invokevirtual 167, 3) := by decide +kernel
theorem dX4_now_85 : decode cX4_now 85 = .ok (.ireturn, 1) := by decide +kernel
theorem dX4_now_86 : decode cX4_now 86 = .ok (.aload_n 0, 1) := by decide +kernel
theorem dX4_now_87 : decode cX4_now 87 = .ok (.getfield 41, 3) := by decide +kernel
theorem dX4_now_90 : decode cX4_now 90 = .ok (.invokevirtual 170, 3) := by decide +kernel
theorem dX4_now_93 : decode cX4_now 93 = .ok (.ireturn, 1) := by decide +kernel
theorem dX4_now_94 : decode cX4_now 94 = .ok (.iconst (-1), 1) := by decide +kernel
theorem dX4_now_95 : decode cX4_now 95 = .ok (.ireturn, 1) := by decide +kernel
set_option maxRecDepth 20000 in
theorem ggX4_when_X0_hasSaying : GoodIn wsX4_when wsX0_hasSaying := goodIn_r _ [6, 7, 8, 9, 10, 11, 82, 83, 84, 85, 86, 87, 88, 89, 90, 91, 92, 93, 94, 95, 96, 97] (by decide +kernel) (by decide +kernel)
set_option maxRecDepth 20000 in
theorem gX4_when_X0_hasSaying : GoodIn wsX4_when (wsV RX4 65 RX0 yX0_hasSaying wsX0_hasSaying) := goodIn_app (goodIn_of _ (by decide +kernel)) ggX4_when_X0_hasSaying
set_option maxRecDepth 20000 in
theorem ggX4_when_X0_hasPlace : GoodIn wsX4_when wsX0_hasPlace := goodIn_r _ [15, 16, 9, 10, 11, 82, 83, 84, 85, 86, 87] (by decide +kernel) (by decide +kernel)
set_option maxRecDepth 20000 in
theorem gX4_when_X0_hasPlace : GoodIn wsX4_when (wsV RX4 101 RX0 yX0_hasPlace wsX0_hasPlace) := goodIn_app (goodIn_of _ (by decide +kernel)) ggX4_when_X0_hasPlace
set_option maxRecDepth 20000 in
theorem ggX4_when_X0_whenAt : GoodIn wsX4_when wsX0_whenAt := goodIn_r _ [20, 21, 22, 23, 5, 24, 25, 26, 27, 28, 7, 29, 30, 31, 32, 33, 34, 35, 36, 37, 38, 39, 40, 41, 16, 42, 43, 44, 45, 46, 47, 48, 49, 50, 51, 52, 53, 54, 55, 56, 57, 58, 59, 60, 61, 62, 63, 64, 65, 66, 67, 68, 69, 82, 83, 84, 85, 86, 87, 88, 89, 90, 91, 92, 93, 94, 95, 96, 97] (by decide +kernel) (by decide +kernel)
set_option maxRecDepth 20000 in
theorem gX4_when_X0_whenAt : GoodIn wsX4_when (wsV RX4 173 RX0 yX0_whenAt wsX0_whenAt) := goodIn_app (goodIn_of _ (by decide +kernel)) ggX4_when_X0_whenAt
set_option maxRecDepth 20000 in
theorem ggX4_when_X0_oftenAt : GoodIn wsX4_when wsX0_oftenAt := goodIn_r _ [73, 21, 22, 23, 5, 24, 25, 26, 27, 28, 7, 29, 30, 31, 32, 33, 34, 35, 36, 37, 38, 39, 40, 41, 16, 42, 43, 44, 45, 46, 47, 48, 49, 50, 51, 52, 53, 54, 55, 56, 57, 58, 59, 60, 61, 62, 63, 64, 65, 66, 67, 68, 69, 82, 83, 84, 85, 86, 87, 88, 89, 90, 91, 92, 93, 94, 95, 96, 97] (by decide +kernel) (by decide +kernel)
set_option maxRecDepth 20000 in
theorem gX4_when_X0_oftenAt : GoodIn wsX4_when (wsV RX4 176 RX0 yX0_oftenAt wsX0_oftenAt) := goodIn_app (goodIn_of _ (by decide +kernel)) ggX4_when_X0_oftenAt
theorem dX4_when_0 : decode cX4_when 0 = .ok (.aload_n 0, 1) := by decide +kernel
theorem dX4_when_1 : decode cX4_when 1 = .ok (.getfield 41, 3) := by decide +kernel
theorem dX4_when_4 : decode cX4_when 4 = .ok (.iload_n 1, 1) := by decide +kernel
theorem dX4_when_5 : decode cX4_when 5 = .ok (.invokevirtual 65, 3) := by decide +kernel
theorem dX4_when_8 : decode cX4_when 8 = .ok (.ifCond .eq 14, 3) := by decide +kernel
theorem dX4_when_11 : decode cX4_when 11 = .ok (.aload_n 0, 1) := by decide +kernel
theorem dX4_when_12 : decode cX4_when 12 = .ok (.getfield 41, 3) := by decide +kernel
theorem dX4_when_15 : decode cX4_when 15 = .ok (.iload_n 2, 1) := by decide +kernel
theorem dX4_when_16 : decode cX4_when 16 = .ok (.invokevirtual 101, 3) := by decide +kernel
theorem dX4_when_19 : decode cX4_when 19 = .ok (.ifCond .ne 5, 3) := by decide +kernel
theorem dX4_when_22 : decode cX4_when 22 = .ok (.iconst (-1), 1) := by decide +kernel
theorem dX4_when_23 : decode cX4_when 23 = .ok (.ireturn, 1) := by decide +kernel
theorem dX4_when_24 : decode cX4_when 24 = .ok (.iload_n 3, 1) := by decide +kernel
theorem dX4_when_25 : decode cX4_when 25 = .ok (.lookupswitch 47 #[(0, 27), (1, 37)], 27) := by decide +kernel
theorem dX4_when_52 : decode cX4_when 52 = .ok (.aload_n 0, 1) := by decide +kernel
theorem dX4_when_53 : decode cX4_when 53 = .ok (.getfield 41, 3) := by decide +kernel
theorem dX4_when_56 : decode cX4_when 56 = .ok (.iload_n 1, 1) := by decide +kernel
theorem dX4_when_57 : decode cX4_when 57 = .ok (.iload_n 2, 1) := by decide +kernel
theorem dX4_when_58 : decode cX4_when 58 = .ok (.invokevirtual 173, 3) := by decide +kernel
theorem dX4_when_61 : decode cX4_when 61 = .ok (.ireturn, 1) := by decide +kernel
theorem dX4_when_62 : decode cX4_when 62 = .ok (.aload_n 0, 1) := by decide +kernel
theorem dX4_when_63 : decode cX4_when 63 = .ok (.getfield 41, 3) := by decide +kernel
theorem dX4_when_66 : decode cX4_when 66 = .ok (.iload_n 1, 1) := by decide +kernel
theorem dX4_when_67 : decode cX4_when 67 = .ok (.iload_n 2, 1) := by decide +kernel
theorem dX4_when_68 : decode cX4_when 68 = .ok (.invokevirtual 176, 3) := by decide +kernel
theorem dX4_when_71 : decode cX4_when 71 = .ok (.ireturn, 1) := by decide +kernel
theorem dX4_when_72 : decode cX4_when 72 = .ok (.iconst (-1), 1) := by decide +kernel
theorem dX4_when_73 : decode cX4_when 73 = .ok (.ireturn, 1) := by decide +kernel
set_option maxRecDepth 20000 in
theorem ggX4_meet_X0_hasSaying : GoodIn wsX4_meet wsX0_hasSaying := goodIn_r _ [6, 7, 8, 9, 10, 11, 74, 75, 76, 77, 78, 79, 80, 81, 82, 83, 84, 85, 86, 87, 88, 89] (by decide +kernel) (by decide +kernel)
set_option maxRecDepth 20000 in
theorem gX4_meet_X0_hasSaying : GoodIn wsX4_meet (wsV RX4 65 RX0 yX0_hasSaying wsX0_hasSaying) := goodIn_app (goodIn_of _ (by decide +kernel)) ggX4_meet_X0_hasSaying
set_option maxRecDepth 20000 in
theorem ggX4_meet_X0_meetingOf : GoodIn wsX4_meet wsX0_meetingOf := goodIn_r _ [15, 16, 17, 18, 5, 19, 7, 20, 21, 22, 23, 24, 25, 26, 27, 28, 29, 30, 31, 32, 33, 34, 35, 36, 37, 38, 39, 40, 41, 42, 43, 44, 45, 46, 47, 48, 49, 50, 51, 52, 53, 54, 55, 56, 57, 58, 59, 60, 61, 62, 63, 64, 65, 74, 75, 76, 77, 78, 79, 80, 81, 82, 83, 84, 85, 86, 87, 88, 89] (by decide +kernel) (by decide +kernel)
set_option maxRecDepth 20000 in
theorem gX4_meet_X0_meetingOf : GoodIn wsX4_meet (wsV RX4 179 RX0 yX0_meetingOf wsX0_meetingOf) := goodIn_app (goodIn_of _ (by decide +kernel)) ggX4_meet_X0_meetingOf
theorem dX4_meet_0 : decode cX4_meet 0 = .ok (.aload_n 0, 1) := by decide +kernel
theorem dX4_meet_1 : decode cX4_meet 1 = .ok (.getfield 41, 3) := by decide +kernel
theorem dX4_meet_4 : decode cX4_meet 4 = .ok (.iload_n 1, 1) := by decide +kernel
theorem dX4_meet_5 : decode cX4_meet 5 = .ok (.invokevirtual 65, 3) := by decide +kernel
theorem dX4_meet_8 : decode cX4_meet 8 = .ok (.ifCond .eq 19, 3) := by decide +kernel
theorem dX4_meet_11 : decode cX4_meet 11 = .ok (.aload_n 0, 1) := by decide +kernel
theorem dX4_meet_12 : decode cX4_meet 12 = .ok (.getfield 41, 3) := by decide +kernel
theorem dX4_meet_15 : decode cX4_meet 15 = .ok (.iload_n 2, 1) := by decide +kernel
theorem dX4_meet_16 : decode cX4_meet 16 = .ok (.invokevirtual 65, 3) := by decide +kernel
theorem dX4_meet_19 : decode cX4_meet 19 = .ok (.ifCond .eq 8, 3) := by decide +kernel
theorem dX4_meet_22 : decode cX4_meet 22 = .ok (.iload_n 1, 1) := by decide +kernel
theorem dX4_meet_23 : decode cX4_meet 23 = .ok (.iload_n 2, 1) := by decide +kernel
theorem dX4_meet_24 : decode cX4_meet 24 = .ok (.if_icmp .ne 5, 3) := by decide +kernel
theorem dX4_meet_27 : decode cX4_meet 27 = .ok (.iconst (-1), 1) := by decide +kernel
theorem dX4_meet_28 : decode cX4_meet 28 = .ok (.ireturn, 1) := by decide +kernel
theorem dX4_meet_29 : decode cX4_meet 29 = .ok (.aload_n 0, 1) := by decide +kernel
theorem dX4_meet_30 : decode cX4_meet 30 = .ok (.getfield 41, 3) := by decide +kernel
theorem dX4_meet_33 : decode cX4_meet 33 = .ok (.iload_n 1, 1) := by decide +kernel
theorem dX4_meet_34 : decode cX4_meet 34 = .ok (.iload_n 2, 1) := by decide +kernel
theorem dX4_meet_35 : decode cX4_meet 35 = .ok (.invokevirtual 179, 3) := by decide +kernel
theorem dX4_meet_38 : decode cX4_meet 38 = .ok (.ireturn, 1) := by decide +kernel
set_option maxRecDepth 20000 in
theorem ggX4_best_X4_maySay : GoodIn wsX4_best wsX4_maySay := goodIn_r _ [6, 1, 7, 8, 9, 10, 11, 12, 13, 5, 14, 15, 82, 83, 84, 85, 86, 87, 88, 89, 90, 91, 92, 93, 94, 95] (by decide +kernel) (by decide +kernel)
set_option maxRecDepth 20000 in
theorem gX4_best_X4_maySay : GoodIn wsX4_best (wsV RX4 141 RX4 yX4_maySay wsX4_maySay) := goodIn_app (goodIn_of _ (by decide +kernel)) ggX4_best_X4_maySay
set_option maxRecDepth 20000 in
theorem ggX4_best_X0_hasPlace : GoodIn wsX4_best wsX0_hasPlace := goodIn_r _ [11, 12, 13, 5, 14, 90, 91, 92, 93, 94, 95] (by decide +kernel) (by decide +kernel)
set_option maxRecDepth 20000 in
theorem gX4_best_X0_hasPlace : GoodIn wsX4_best (wsV RX4 101 RX0 yX0_hasPlace wsX0_hasPlace) := goodIn_app (goodIn_of _ (by decide +kernel)) ggX4_best_X0_hasPlace
set_option maxRecDepth 20000 in
theorem ggX4_best_X0_ticksTo : GoodIn wsX4_best wsX0_ticksTo := goodIn_r _ [19, 12, 20, 21, 22, 10, 23, 24, 25, 26, 27, 90, 91, 92, 93, 94, 95] (by decide +kernel) (by decide +kernel)
set_option maxRecDepth 20000 in
theorem gX4_best_X0_ticksTo : GoodIn wsX4_best (wsV RX4 182 RX0 yX0_ticksTo wsX0_ticksTo) := goodIn_app (goodIn_of _ (by decide +kernel)) ggX4_best_X0_ticksTo
set_option maxRecDepth 20000 in
theorem ggX4_best_X0_strengthLeft : GoodIn wsX4_best wsX0_strengthLeft := goodIn_r _ [31, 32, 33, 34, 35, 36, 37, 38, 39, 10, 40, 12, 90, 91, 92, 93, 94, 95] (by decide +kernel) (by decide +kernel)
set_option maxRecDepth 20000 in
theorem gX4_best_X0_strengthLeft : GoodIn wsX4_best (wsV RX4 186 RX0 yX0_strengthLeft wsX0_strengthLeft) := goodIn_app (goodIn_of _ (by decide +kernel)) ggX4_best_X0_strengthLeft
set_option maxRecDepth 20000 in
theorem ggX4_best_X0_firstWait : GoodIn wsX4_best wsX0_firstWait := goodIn_r _ [44, 45, 46, 47, 10, 48, 49, 50, 51, 52, 53, 54, 55, 56, 57, 58, 59, 60, 61, 62, 63, 64, 65, 20, 21, 22, 23, 12, 24, 25, 26, 27, 66, 67, 68, 69, 70, 71, 72, 73, 74, 75, 76, 77, 29, 30, 31, 32, 33, 34, 35, 36, 37, 38, 39, 40, 78, 79, 80, 81, 90, 91, 92, 93, 94, 95, 96, 97, 98, 99, 100, 101, 102, 103, 104, 105] (by decide +kernel) (by decide +kernel)
set_option maxRecDepth 20000 in
theorem gX4_best_X0_firstWait : GoodIn wsX4_best (wsV RX4 189 RX0 yX0_firstWait wsX0_firstWait) := goodIn_app (goodIn_of _ (by decide +kernel)) ggX4_best_X0_firstWait
theorem dX4_best_0 : decode cX4_best 0 = .ok (.aload_n 0, 1) := by decide +kernel
theorem dX4_best_1 : decode cX4_best 1 = .ok (.iload_n 1, 1) := by decide +kernel
theorem dX4_best_2 : decode cX4_best 2 = .ok (.iload_n 3, 1) := by decide +kernel
theorem dX4_best_3 : decode cX4_best 3 = .ok (.iload 4, 2) := by decide +kernel
theorem dX4_best_5 : decode cX4_best 5 = .ok (.iload 5, 2) := by decide +kernel
theorem dX4_best_7 : decode cX4_best 7 = .ok (.invokevirtual 141, 3) := by decide +kernel
theorem dX4_best_10 : decode cX4_best 10 = .ok (.ifCond .eq 14, 3) := by decide +kernel
theorem dX4_best_13 : decode cX4_best 13 = .ok (.aload_n 0, 1) := by decide +kernel
theorem dX4_best_14 : decode cX4_best 14 = .ok (.getfield 41, 3) := by decide +kernel
theorem dX4_best_17 : decode cX4_best 17 = .ok (.iload_n 2, 1) := by decide +kernel
theorem dX4_best_18 : decode cX4_best 18 = .ok (.invokevirtual 101, 3) := by decide +kernel
theorem dX4_best_21 : decode cX4_best 21 = .ok (.ifCond .ne 5, 3) := by decide +kernel
theorem dX4_best_24 : decode cX4_best 24 = .ok (.iconst (-1), 1) := by decide +kernel
theorem dX4_best_25 : decode cX4_best 25 = .ok (.ireturn, 1) := by decide +kernel
theorem dX4_best_26 : decode cX4_best 26 = .ok (.aload_n 0, 1) := by decide +kernel
theorem dX4_best_27 : decode cX4_best 27 = .ok (.getfield 41, 3) := by decide +kernel
theorem dX4_best_30 : decode cX4_best 30 = .ok (.iload_n 1, 1) := by decide +kernel
theorem dX4_best_31 : decode cX4_best 31 = .ok (.iload_n 2, 1) := by decide +kernel
theorem dX4_best_32 : decode cX4_best 32 = .ok (.iload_n 3, 1) := by decide +kernel
theorem dX4_best_33 : decode cX4_best 33 = .ok (.iload 4, 2) := by decide +kernel
theorem dX4_best_35 : decode cX4_best 35 = .ok (.invokevirtual 182, 3) := by decide +kernel
theorem dX4_best_38 : decode cX4_best 38 = .ok (.istore 6, 2) := by decide +kernel
theorem dX4_best_40 : decode cX4_best 40 = .ok (.iload 6, 2) := by decide +kernel
theorem dX4_best_42 : decode cX4_best 42 = .ok (.bipush (-9), 2) := by decide +kernel
theorem dX4_best_44 : decode cX4_best 44 = .ok (.if_icmp .ne 6, 3) := by decide +kernel
theorem dX4_best_47 : decode cX4_best 47 = .ok (.bipush (-9), 2) := by decide +kernel
theorem dX4_best_49 : decode cX4_best 49 = .ok (.ireturn, 1) := by decide +kernel
theorem dX4_best_50 : decode cX4_best 50 = .ok (.aload_n 0, 1) := by decide +kernel
theorem dX4_best_51 : decode cX4_best 51 = .ok (.getfield 41, 3) := by decide +kernel
theorem dX4_best_54 : decode cX4_best 54 = .ok (.iload 5, 2) := by decide +kernel
theorem dX4_best_56 : decode cX4_best 56 = .ok (.iload_n 3, 1) := by decide +kernel
theorem dX4_best_57 : decode cX4_best 57 = .ok (.iload 6, 2) := by decide +kernel
theorem dX4_best_59 : decode cX4_best 59 = .ok (.imul, 1) := by decide +kernel
theorem dX4_best_60 : decode cX4_best 60 = .ok (.invokevirtual 186, 3) := by decide +kernel
theorem dX4_best_63 : decode cX4_best 63 = .ok (.istore 7, 2) := by decide +kernel
theorem dX4_best_65 : decode cX4_best 65 = .ok (.iload 7, 2) := by decide +kernel
theorem dX4_best_67 : decode cX4_best 67 = .ok (.ifCond .ne 6, 3) := by decide +kernel
theorem dX4_best_70 : decode cX4_best 70 = .ok (.bipush (-9), 2) := by decide +kernel
theorem dX4_best_72 : decode cX4_best 72 = .ok (.ireturn, 1) := by decide +kernel
theorem dX4_best_73 : decode cX4_best 73 = .ok (.aload_n 0, 1) := by decide +kernel
theorem dX4_best_74 : decode cX4_best 74 = .ok (.getfield 41, 3) := by decide +kernel
theorem dX4_best_77 : decode cX4_best 77 = .ok (.iload_n 2, 1) := by decide +kernel
theorem dX4_best_78 : decode cX4_best 78 = .ok (.iload 6, 2) := by decide +kernel
theorem dX4_best_80 : decode cX4_best 80 = .ok (.iload 7, 2) := by decide +kernel
theorem dX4_best_82 : decode cX4_best 82 = .ok (.invokevirtual 189, 3) := by decide +kernel
theorem dX4_best_85 : decode cX4_best 85 = .ok (.ireturn, 1) := by decide +kernel
set_option maxRecDepth 20000 in
theorem ggX4_stills_X0_hasSaying : GoodIn wsX4_stills wsX0_hasSaying := goodIn_r _ [6, 7, 8, 9, 10, 11, 92, 93, 94, 95, 96, 97, 98, 99, 100, 101, 102, 103, 104, 105, 106, 107] (by decide +kernel) (by decide +kernel)
set_option maxRecDepth 20000 in
theorem gX4_stills_X0_hasSaying : GoodIn wsX4_stills (wsV RX4 65 RX0 yX0_hasSaying wsX0_hasSaying) := goodIn_app (goodIn_of _ (by decide +kernel)) ggX4_stills_X0_hasSaying
set_option maxRecDepth 20000 in
theorem ggX4_stills_X0_strengthAfter : GoodIn wsX4_stills wsX0_strengthAfter := goodIn_r _ [15, 7, 16, 17, 18, 19, 20, 21, 22, 23, 24, 25, 5, 26, 27, 28, 29, 30, 31, 32, 33, 34, 35, 36, 37, 38, 39, 40, 41, 42, 43, 92, 93, 94, 95, 96, 97, 98, 99, 100, 101, 102, 103, 104, 105, 106, 107] (by decide +kernel) (by decide +kernel)
set_option maxRecDepth 20000 in
theorem gX4_stills_X0_strengthAfter : GoodIn wsX4_stills (wsV RX4 91 RX0 yX0_strengthAfter wsX0_strengthAfter) := goodIn_app (goodIn_of _ (by decide +kernel)) ggX4_stills_X0_strengthAfter
set_option maxRecDepth 20000 in
theorem ggX4_stills_X0_listen : GoodIn wsX4_stills wsX0_listen := goodIn_r _ [47, 7, 8, 48, 49, 50, 51, 52, 5, 53, 54, 55, 23, 24, 25, 26, 27, 28, 29, 56, 57, 58, 59, 43, 60, 61, 62, 63, 64, 13, 14, 15, 16, 17, 18, 19, 20, 21, 22, 30, 31, 32, 33, 34, 35, 36, 37, 38, 39, 40, 41, 42, 92, 93, 94, 95, 96, 97, 98, 99, 100, 101, 102, 103, 104, 105, 106, 107] (by decide +kernel) (by decide +kernel)
set_option maxRecDepth 20000 in
theorem gX4_stills_X0_listen : GoodIn wsX4_stills (wsV RX4 104 RX0 yX0_listen wsX0_listen) := goodIn_app (goodIn_of _ (by decide +kernel)) ggX4_stills_X0_listen
set_option maxRecDepth 20000 in
theorem ggX4_stills_X0_fewestToHush : GoodIn wsX4_stills wsX0_fewestToHush := goodIn_r _ [68, 48, 49, 69, 70, 71, 5, 72, 7, 8, 73, 74, 75, 76, 77, 78, 79, 80, 81, 82, 83, 92, 93, 94, 95, 96, 97, 98, 99, 100, 101, 102, 103, 104, 105, 106, 107] (by decide +kernel) (by decide +kernel)
set_option maxRecDepth 20000 in
theorem gX4_stills_X0_fewestToHush : GoodIn wsX4_stills (wsV RX4 193 RX0 yX0_fewestToHush wsX0_fewestToHush) := goodIn_app (goodIn_of _ (by decide +kernel)) ggX4_stills_X0_fewestToHush
theorem dX4_stills_0 : decode cX4_stills 0 = .ok (.aload_n 0, 1) := by decide +kernel
theorem dX4_stills_1 : decode cX4_stills 1 = .ok (.getfield 41, 3) := by decide +kernel
theorem dX4_stills_4 : decode cX4_stills 4 = .ok (.iload_n 1, 1) := by decide +kernel
theorem dX4_stills_5 : decode cX4_stills 5 = .ok (.invokevirtual 65, 3) := by decide +kernel
theorem dX4_stills_8 : decode cX4_stills 8 = .ok (.ifCond .ne 5, 3) := by decide +kernel
theorem dX4_stills_11 : decode cX4_stills 11 = .ok (.iconst (-1), 1) := by decide +kernel
theorem dX4_stills_12 : decode cX4_stills 12 = .ok (.ireturn, 1) := by decide +kernel
theorem dX4_stills_13 : decode cX4_stills 13 = .ok (.aload_n 0, 1) := by decide +kernel
theorem dX4_stills_14 : decode cX4_stills 14 = .ok (.getfield 41, 3) := by decide +kernel
theorem dX4_stills_17 : decode cX4_stills 17 = .ok (.iload_n 1, 1) := by decide +kernel
theorem dX4_stills_18 : decode cX4_stills 18 = .ok (.iconst 0, 1) := by decide +kernel
theorem dX4_stills_19 : decode cX4_stills 19 = .ok (.invokevirtual 91, 3) := by decide +kernel
theorem dX4_stills_22 : decode cX4_stills 22 = .ok (.ifCond .ne 6, 3) := by decide +kernel
theorem dX4_stills_25 : decode cX4_stills 25 = .ok (.bipush (-9), 2) := by decide +kernel
theorem dX4_stills_27 : decode cX4_stills 27 = .ok (.ireturn, 1) := by decide +kernel
theorem dX4_stills_28 : decode cX4_stills 28 = .ok (.aload_n 0, 1) := by decide +kernel
theorem dX4_stills_29 : decode cX4_stills 29 = .ok (.getfield 41, 3) := by decide +kernel
theorem dX4_stills_32 : decode cX4_stills 32 = .ok (.iconst 0, 1) := by decide +kernel
theorem dX4_stills_33 : decode cX4_stills 33 = .ok (.invokevirtual 104, 3) := by decide +kernel
theorem dX4_stills_36 : decode cX4_stills 36 = .ok (.aload_n 0, 1) := by decide +kernel
theorem dX4_stills_37 : decode cX4_stills 37 = .ok (.getfield 41, 3) := by decide +kernel
theorem dX4_stills_40 : decode cX4_stills 40 = .ok (.iload_n 1, 1) := by decide +kernel
theorem dX4_stills_41 : decode cX4_stills 41 = .ok (.invokevirtual 193, 3) := by decide +kernel
theorem dX4_stills_44 : decode cX4_stills 44 = .ok (.ireturn, 1) := by decide +kernel
set_option maxRecDepth 20000 in
theorem ggX4_odds_X0_hasSaying : GoodIn wsX4_odds wsX0_hasSaying := goodIn_r _ [7, 8, 9, 10, 11, 12, 60, 61, 62, 63, 64, 65, 66, 67, 68, 69, 70, 71, 72, 73, 74, 75] (by decide +kernel) (by decide +kernel)
set_option maxRecDepth 20000 in
theorem gX4_odds_X0_hasSaying : GoodIn wsX4_odds (wsV RX4 65 RX0 yX0_hasSaying wsX0_hasSaying) := goodIn_app (goodIn_of _ (by decide +kernel)) ggX4_odds_X0_hasSaying
set_option maxRecDepth 20000 in
theorem ggX4_odds_X4_within : GoodIn wsX4_odds wsX4_within := goodIn_r _ [12] (by decide +kernel) (by decide +kernel)
set_option maxRecDepth 20000 in
theorem gX4_odds_X4_within : GoodIn wsX4_odds (va_wsS RX4 48 yX4_within wsX4_within) := goodIn_app (goodIn_of _ (by decide +kernel)) ggX4_odds_X4_within
set_option maxRecDepth 20000 in
theorem ggX4_odds_X0_strengthAfter : GoodIn wsX4_odds wsX0_strengthAfter := goodIn_r _ [17, 8, 18, 19, 20, 21, 22, 23, 24, 25, 26, 27, 6, 28, 29, 30, 31, 32, 33, 34, 35, 36, 37, 38, 39, 40, 41, 42, 43, 44, 45, 60, 61, 62, 63, 64, 65, 66, 67, 68, 69, 70, 71, 72, 73, 74, 75] (by decide +kernel) (by decide +kernel)
set_option maxRecDepth 20000 in
theorem gX4_odds_X0_strengthAfter : GoodIn wsX4_odds (wsV RX4 91 RX0 yX0_strengthAfter wsX0_strengthAfter) := goodIn_app (goodIn_of _ (by decide +kernel)) ggX4_odds_X0_strengthAfter
set_option maxRecDepth 20000 in
theorem ggX4_odds_X4_lastingParts : GoodIn wsX4_odds wsX4_lastingParts := goodIn_r _ [48, 46, 47, 11] (by decide +kernel) (by decide +kernel)
set_option maxRecDepth 20000 in
theorem gX4_odds_X4_lastingParts : GoodIn wsX4_odds (va_wsS RX4 199 yX4_lastingParts wsX4_lastingParts) := goodIn_app (goodIn_of _ (by decide +kernel)) ggX4_odds_X4_lastingParts
set_option maxRecDepth 20000 in
theorem ggX4_odds_X4_commonDivisor : GoodIn wsX4_odds wsX4_commonDivisor := goodIn_r _ [51] (by decide +kernel) (by decide +kernel)
set_option maxRecDepth 20000 in
theorem gX4_odds_X4_commonDivisor : GoodIn wsX4_odds (va_wsS RX4 202 yX4_commonDivisor wsX4_commonDivisor) := goodIn_app (goodIn_of _ (by decide +kernel)) ggX4_odds_X4_commonDivisor
theorem dX4_odds_0 : decode cX4_odds 0 = .ok (.aload_n 0, 1) := by decide +kernel
theorem dX4_odds_1 : decode cX4_odds 1 = .ok (.getfield 41, 3) := by decide +kernel
theorem dX4_odds_4 : decode cX4_odds 4 = .ok (.iload_n 1, 1) := by decide +kernel
theorem dX4_odds_5 : decode cX4_odds 5 = .ok (.invokevirtual 65, 3) := by decide +kernel
theorem dX4_odds_8 : decode cX4_odds 8 = .ok (.ifCond .eq 33, 3) := by decide +kernel
theorem dX4_odds_11 : decode cX4_odds 11 = .ok (.iload_n 2, 1) := by decide +kernel
theorem dX4_odds_12 : decode cX4_odds 12 = .ok (.iconst 0, 1) := by decide +kernel
theorem dX4_odds_13 : decode cX4_odds 13 = .ok (.bipush 6, 2) := by decide +kernel
theorem dX4_odds_15 : decode cX4_odds 15 = .ok (.invokestatic 48, 3) := by decide +kernel
theorem dX4_odds_18 : decode cX4_odds 18 = .ok (.ifCond .eq 23, 3) := by decide +kernel
theorem dX4_odds_21 : decode cX4_odds 21 = .ok (.iload_n 3, 1) := by decide +kernel
theorem dX4_odds_22 : decode cX4_odds 22 = .ok (.iconst 0, 1) := by decide +kernel
theorem dX4_odds_23 : decode cX4_odds 23 = .ok (.bipush 10, 2) := by decide +kernel
theorem dX4_odds_25 : decode cX4_odds 25 = .ok (.invokestatic 48, 3) := by decide +kernel
theorem dX4_odds_28 : decode cX4_odds 28 = .ok (.ifCond .eq 13, 3) := by decide +kernel
theorem dX4_odds_31 : decode cX4_odds 31 = .ok (.iload 4, 2) := by decide +kernel
theorem dX4_odds_33 : decode cX4_odds 33 = .ok (.iconst 0, 1) := by decide +kernel
theorem dX4_odds_34 : decode cX4_odds 34 = .ok (.iconst 1, 1) := by decide +kernel
theorem dX4_odds_35 : decode cX4_odds 35 = .ok (.invokestatic 48, 3) := by decide +kernel
theorem dX4_odds_38 : decode cX4_odds 38 = .ok (.ifCond .ne 5, 3) := by decide +kernel
theorem dX4_odds_41 : decode cX4_odds 41 = .ok (.iconst (-1), 1) := by decide +kernel
theorem dX4_odds_42 : decode cX4_odds 42 = .ok (.ireturn, 1) := by decide +kernel
theorem dX4_odds_43 : decode cX4_odds 43 = .ok (.iconst 1, 1) := by decide +kernel
theorem dX4_odds_44 : decode cX4_odds 44 = .ok (.istore 5, 2) := by decide +kernel
theorem dX4_odds_46 : decode cX4_odds 46 = .ok (.iconst 0, 1) := by decide +kernel
theorem dX4_odds_47 : decode cX4_odds 47 = .ok (.istore 6, 2) := by decide +kernel
theorem dX4_odds_49 : decode cX4_odds 49 = .ok (.iload 6, 2) := by decide +kernel
theorem dX4_odds_51 : decode cX4_odds 51 = .ok (.iload_n 2, 1) := by decide +kernel
theorem dX4_odds_52 : decode cX4_odds 52 = .ok (.if_icmp .ge 16, 3) := by decide +kernel
theorem dX4_odds_55 : decode cX4_odds 55 = .ok (.iload 5, 2) := by decide +kernel
theorem dX4_odds_57 : decode cX4_odds 57 = .ok (.bipush 10, 2) := by decide +kernel
theorem dX4_odds_59 : decode cX4_odds 59 = .ok (.imul, 1) := by decide +kernel
theorem dX4_odds_60 : decode cX4_odds 60 = .ok (.istore 5, 2) := by decide +kernel
theorem dX4_odds_62 : decode cX4_odds 62 = .ok (.iinc 6 1, 3) := by decide +kernel
theorem dX4_odds_65 : decode cX4_odds 65 = .ok (.goto (-16), 3) := by decide +kernel
theorem dX4_odds_68 : decode cX4_odds 68 = .ok (.aload_n 0, 1) := by decide +kernel
theorem dX4_odds_69 : decode cX4_odds 69 = .ok (.getfield 41, 3) := by decide +kernel
theorem dX4_odds_72 : decode cX4_odds 72 = .ok (.iload_n 1, 1) := by decide +kernel
theorem dX4_odds_73 : decode cX4_odds 73 = .ok (.iconst 0, 1) := by decide +kernel
theorem dX4_odds_74 : decode cX4_odds 74 = .ok (.invokevirtual 91, 3) := by decide +kernel
theorem dX4_odds_77 : decode cX4_odds 77 = .ok (.aload_n 0, 1) := by decide +kernel
theorem dX4_odds_78 : decode cX4_odds 78 = .ok (.getfield 41, 3) := by decide +kernel
theorem dX4_odds_81 : decode cX4_odds 81 = .ok (.getfield 196, 3) := by decide +kernel
theorem dX4_odds_84 : decode cX4_odds 84 = .ok (.iload_n 2, 1) := by decide +kernel
theorem dX4_odds_85 : decode cX4_odds 85 = .ok (.iload_n 3, 1) := by decide +kernel
theorem dX4_odds_86 : decode cX4_odds 86 = .ok (.invokestatic 199, 3) := by decide +kernel
theorem dX4_odds_89 : decode cX4_odds 89 = .ok (.istore 6, 2) := by decide +kernel
theorem dX4_odds_91 : decode cX4_odds 91 = .ok (.iload 5, 2) := by decide +kernel
theorem dX4_odds_93 : decode cX4_odds 93 = .ok (.iload 6, 2) := by decide +kernel
theorem dX4_odds_95 : decode cX4_odds 95 = .ok (.invokestatic 202, 3) := by decide +kernel
theorem dX4_odds_98 : decode cX4_odds 98 = .ok (.istore 7, 2) := by decide +kernel
theorem dX4_odds_100 : decode cX4_odds 100 = .ok (.iload 7, 2) := by decide +kernel
theorem dX4_odds_102 : decode cX4_odds 102 = .ok (.iconst 1, 1) := by decide +kernel
theorem dX4_odds_103 : decode cX4_odds 103 = .ok (.if_icmp .ge 5, 3) := by decide +kernel
theorem dX4_odds_106 : decode cX4_odds 106 = .ok (.iconst (-1), 1) := by decide +kernel
theorem dX4_odds_107 : decode cX4_odds 107 = .ok (.ireturn, 1) := by decide +kernel
theorem dX4_odds_108 : decode cX4_odds 108 = .ok (.iload 4, 2) := by decide +kernel
theorem dX4_odds_110 : decode cX4_odds 110 = .ok (.ifCond .ne 11, 3) := by decide +kernel
theorem dX4_odds_113 : decode cX4_odds 113 = .ok (.iload 6, 2) := by decide +kernel
theorem dX4_odds_115 : decode cX4_odds 115 = .ok (.iload 7, 2) := by decide +kernel
theorem dX4_odds_117 : decode cX4_odds 117 = .ok (.idiv, 1) := by decide +kernel
theorem dX4_odds_118 : decode cX4_odds 118 = .ok (.goto 8, 3) := by decide +kernel
theorem dX4_odds_121 : decode cX4_odds 121 = .ok (.iload 5, 2) := by decide +kernel
theorem dX4_odds_123 : decode cX4_odds 123 = .ok (.iload 7, 2) := by decide +kernel
theorem dX4_odds_125 : decode cX4_odds 125 = .ok (.idiv, 1) := by decide +kernel
theorem dX4_odds_126 : decode cX4_odds 126 = .ok (.ireturn, 1) := by decide +kernel
set_option maxRecDepth 20000 in
theorem ggX4_hears_X0_hasPlace : GoodIn wsX4_hears wsX0_hasPlace := goodIn_r _ [8, 9, 10, 11, 12, 35, 36, 37, 38, 39, 40] (by decide +kernel) (by decide +kernel)
set_option maxRecDepth 20000 in
theorem gX4_hears_X0_hasPlace : GoodIn wsX4_hears (wsV RX4 101 RX0 yX0_hasPlace wsX0_hasPlace) := goodIn_app (goodIn_of _ (by decide +kernel)) ggX4_hears_X0_hasPlace
set_option maxRecDepth 20000 in
theorem ggX4_hears_X4_within : GoodIn wsX4_hears wsX4_within := goodIn_r _ [12] (by decide +kernel) (by decide +kernel)
set_option maxRecDepth 20000 in
theorem gX4_hears_X4_within : GoodIn wsX4_hears (va_wsS RX4 48 yX4_within wsX4_within) := goodIn_app (goodIn_of _ (by decide +kernel)) ggX4_hears_X4_within
set_option maxRecDepth 20000 in
theorem ggX4_hears_X1_add : GoodIn wsX4_hears wsX1_add := goodIn_r _ [18, 19, 20, 21, 22, 31, 32, 33, 34] (by decide +kernel) (by decide +kernel)
set_option maxRecDepth 20000 in
theorem gX4_hears_X1_add : GoodIn wsX4_hears (wsV RX4 205 RX1 yX1_add wsX1_add) := goodIn_app (goodIn_of _ (by decide +kernel)) ggX4_hears_X1_add
theorem dX4_hears_0 : decode cX4_hears 0 = .ok (.aload_n 0, 1) := by decide +kernel
theorem dX4_hears_1 : decode cX4_hears 1 = .ok (.getfield 41, 3) := by decide +kernel
theorem dX4_hears_4 : decode cX4_hears 4 = .ok (.iload_n 1, 1) := by decide +kernel
theorem dX4_hears_5 : decode cX4_hears 5 = .ok (.invokevirtual 101, 3) := by decide +kernel
theorem dX4_hears_8 : decode cX4_hears 8 = .ok (.ifCond .eq 22, 3) := by decide +kernel
theorem dX4_hears_11 : decode cX4_hears 11 = .ok (.iload_n 2, 1) := by decide +kernel
theorem dX4_hears_12 : decode cX4_hears 12 = .ok (.iconst 0, 1) := by decide +kernel
theorem dX4_hears_13 : decode cX4_hears 13 = .ok (.bipush 99, 2) := by decide +kernel
theorem dX4_hears_15 : decode cX4_hears 15 = .ok (.invokestatic 48, 3) := by decide +kernel
theorem dX4_hears_18 : decode cX4_hears 18 = .ok (.ifCond .eq 12, 3) := by decide +kernel
theorem dX4_hears_21 : decode cX4_hears 21 = .ok (.iload_n 3, 1) := by decide +kernel
theorem dX4_hears_22 : decode cX4_hears 22 = .ok (.iconst 0, 1) := by decide +kernel
theorem dX4_hears_23 : decode cX4_hears 23 = .ok (.iconst 1, 1) := by decide +kernel
theorem dX4_hears_24 : decode cX4_hears 24 = .ok (.invokestatic 48, 3) := by decide +kernel
theorem dX4_hears_27 : decode cX4_hears 27 = .ok (.ifCond .ne 5, 3) := by decide +kernel
theorem dX4_hears_30 : decode cX4_hears 30 = .ok (.iconst (-1), 1) := by decide +kernel
theorem dX4_hears_31 : decode cX4_hears 31 = .ok (.ireturn, 1) := by decide +kernel
theorem dX4_hears_32 : decode cX4_hears 32 = .ok (.aload_n 0, 1) := by decide +kernel
theorem dX4_hears_33 : decode cX4_hears 33 = .ok (.getfield 19, 3) := by decide +kernel
theorem dX4_hears_36 : decode cX4_hears 36 = .ok (.iload_n 1, 1) := by decide +kernel
theorem dX4_hears_37 : decode cX4_hears 37 = .ok (.iload_n 2, 1) := by decide +kernel
theorem dX4_hears_38 : decode cX4_hears 38 = .ok (.iload_n 3, 1) := by decide +kernel
theorem dX4_hears_39 : decode cX4_hears 39 = .ok (.invokevirtual 205, 3) := by decide +kernel
theorem dX4_hears_42 : decode cX4_hears 42 = .ok (.ifCond .eq 13, 3) := by decide +kernel
theorem dX4_hears_45 : decode cX4_hears 45 = .ok (.aload_n 0, 1) := by decide +kernel
theorem dX4_hears_46 : decode cX4_hears 46 = .ok (.getfield 19, 3) := by decide +kernel
theorem dX4_hears_49 : decode cX4_hears 49 = .ok (.getfield 64, 3) := by decide +kernel
theorem dX4_hears_52 : decode cX4_hears 52 = .ok (.goto 5, 3) := by decide +kernel
theorem dX4_hears_55 : decode cX4_hears 55 = .ok (.bipush (-3), 2) := by decide +kernel
theorem dX4_hears_57 : decode cX4_hears 57 = .ok (.ireturn, 1) := by decide +kernel
theorem dX4_forget_0 : decode cX4_forget 0 = .ok (.aload_n 0, 1) := by decide +kernel
theorem dX4_forget_1 : decode cX4_forget 1 = .ok (.getfield 19, 3) := by decide +kernel
theorem dX4_forget_4 : decode cX4_forget 4 = .ok (.getfield 64, 3) := by decide +kernel
theorem dX4_forget_7 : decode cX4_forget 7 = .ok (.istore_n 1, 1) := by decide +kernel
theorem dX4_forget_8 : decode cX4_forget 8 = .ok (.aload_n 0, 1) := by decide +kernel
theorem dX4_forget_9 : decode cX4_forget 9 = .ok (.getfield 19, 3) := by decide +kernel
theorem dX4_forget_12 : decode cX4_forget 12 = .ok (.iconst 0, 1) := by decide +kernel
theorem dX4_forget_13 : decode cX4_forget 13 = .ok (.putfield 64, 3) := by decide +kernel
theorem dX4_forget_16 : decode cX4_forget 16 = .ok (.iload_n 1, 1) := by decide +kernel
theorem dX4_forget_17 : decode cX4_forget 17 = .ok (.ireturn, 1) := by decide +kernel
set_option maxRecDepth 20000 in
theorem ggX4_guesses_X4_guessCount : GoodIn wsX4_guesses wsX4_guessCount := goodIn_r _ [5, 6, 7, 8, 9, 10, 11, 12, 13, 14, 15, 16, 17, 18, 19, 20, 21, 22, 23, 24, 25, 26, 27, 28, 29, 30, 31, 32, 33, 34, 35, 36, 37, 38, 39, 47, 48, 49, 50, 51, 52, 53, 54, 55, 56, 57, 58, 59, 60, 61, 62, 63, 64] (by decide +kernel) (by decide +kernel)
set_option maxRecDepth 20000 in
theorem gX4_guesses_X4_guessCount : GoodIn wsX4_guesses (wsV RX4 207 RX4 yX4_guessCount wsX4_guessCount) := goodIn_app (goodIn_of _ (by decide +kernel)) ggX4_guesses_X4_guessCount
set_option maxRecDepth 20000 in
theorem ggX4_guesses_X4_firstGuess : GoodIn wsX4_guesses wsX4_firstGuess := goodIn_r _ [43, 6, 7, 8, 9, 10, 11, 12, 13, 14, 15, 16, 17, 18, 19, 20, 21, 22, 23, 24, 25, 26, 27, 28, 29, 30, 31, 32, 33, 34, 35, 36, 37, 38, 39, 44, 45, 46, 47, 48, 49, 50, 51, 52, 53, 54, 55, 56, 57, 58, 59, 60, 61, 62, 63, 64] (by decide +kernel) (by decide +kernel)
set_option maxRecDepth 20000 in
theorem gX4_guesses_X4_firstGuess : GoodIn wsX4_guesses (wsV RX4 210 RX4 yX4_firstGuess wsX4_firstGuess) := goodIn_app (goodIn_of _ (by decide +kernel)) ggX4_guesses_X4_firstGuess
theorem dX4_guesses_0 : decode cX4_guesses 0 = .ok (.iload_n 1, 1) := by decide +kernel
theorem dX4_guesses_1 : decode cX4_guesses 1 = .ok (.lookupswitch 37 #[(0, 27), (1, 32)], 27) := by decide +kernel
theorem dX4_guesses_28 : decode cX4_guesses 28 = .ok (.aload_n 0, 1) := by decide +kernel
theorem dX4_guesses_29 : decode cX4_guesses 29 = .ok (.invokevirtual 207, 3) := by decide +kernel
theorem dX4_guesses_32 : decode cX4_guesses 32 = .ok (.ireturn, 1) := by decide +kernel
theorem dX4_guesses_33 : decode cX4_guesses 33 = .ok (.aload_n 0, 1) := by decide +kernel
theorem dX4_guesses_34 : decode cX4_guesses 34 = .ok (.invokevirtual 210, 3) := by decide +kernel
theorem dX4_guesses_37 : decode cX4_guesses 37 = .ok (.ireturn, 1) := by decide +kernel
theorem dX4_guesses_38 : decode cX4_guesses 38 = .ok (.iconst (-1), 1) := by decide +kernel
theorem dX4_guesses_39 : decode cX4_guesses 39 = .ok (.ireturn, 1) := by decide +kernel
set_option maxRecDepth 20000 in
theorem ggX4_ask_X4_within : GoodIn wsX4_ask wsX4_within := goodIn_r _ [11] (by decide +kernel) (by decide +kernel)
set_option maxRecDepth 20000 in
theorem gX4_ask_X4_within : GoodIn wsX4_ask (va_wsS RX4 48 yX4_within wsX4_within) := goodIn_app (goodIn_of _ (by decide +kernel)) ggX4_ask_X4_within
set_option maxRecDepth 20000 in
theorem ggX4_ask_X4_sortGuesses : GoodIn wsX4_ask wsX4_sortGuesses := goodIn_r _ [15, 3, 1, 2, 16, 17, 18, 19, 20, 21, 22, 23, 24, 25, 26, 27, 28, 29, 30, 31, 32, 33, 34, 35, 36, 37, 38, 39, 40, 41, 42, 43, 44, 45, 46, 47, 48, 8, 9, 10, 11, 49, 50, 51, 52, 53, 54, 55, 56, 57, 58, 59, 60, 61, 62, 63, 64, 65, 66] (by decide +kernel) (by decide +kernel)
set_option maxRecDepth 20000 in
theorem gX4_ask_X4_sortGuesses : GoodIn wsX4_ask (wsV RX4 213 RX4 yX4_sortGuesses wsX4_sortGuesses) := goodIn_app (goodIn_of _ (by decide +kernel)) ggX4_ask_X4_sortGuesses
theorem dX4_ask_0 : decode cX4_ask 0 = .ok (.iload_n 1, 1) := by decide +kernel
theorem dX4_ask_1 : decode cX4_ask 1 = .ok (.iconst 0, 1) := by decide +kernel
theorem dX4_ask_2 : decode cX4_ask 2 = .ok (.bipush 99, 2) := by decide +kernel
theorem dX4_ask_4 : decode cX4_ask 4 = .ok (.invokestatic 48, 3) := by decide +kernel
theorem dX4_ask_7 : decode cX4_ask 7 = .ok (.ifCond .ne 5, 3) := by decide +kernel
theorem dX4_ask_10 : decode cX4_ask 10 = .ok (.iconst (-1), 1) := by decide +kernel
theorem dX4_ask_11 : decode cX4_ask 11 = .ok (.ireturn, 1) := by decide +kernel
theorem dX4_ask_12 : decode cX4_ask 12 = .ok (.aload_n 0, 1) := by decide +kernel
theorem dX4_ask_13 : decode cX4_ask 13 = .ok (.iload_n 1, 1) := by decide +kernel
theorem dX4_ask_14 : decode cX4_ask 14 = .ok (.invokevirtual 213, 3) := by decide +kernel
theorem dX4_ask_17 : decode cX4_ask 17 = .ok (.istore_n 2, 1) := by decide +kernel
theorem dX4_ask_18 : decode cX4_ask 18 = .ok (.iload_n 2, 1) := by decide +kernel
theorem dX4_ask_19 : decode cX4_ask 19 = .ok (.istore_n 3, 1) := by decide +kernel
theorem dX4_ask_20 : decode cX4_ask 20 = .ok (.bipush (-9), 2) := by decide +kernel
theorem dX4_ask_22 : decode cX4_ask 22 = .ok (.istore 4, 2) := by decide +kernel
theorem dX4_ask_24 : decode cX4_ask 24 = .ok (.iconst 0, 1) := by decide +kernel
theorem dX4_ask_25 : decode cX4_ask 25 = .ok (.istore 5, 2) := by decide +kernel
theorem dX4_ask_27 : decode cX4_ask 27 = .ok (.iload 5, 2) := by decide +kernel
theorem dX4_ask_29 : decode cX4_ask 29 = .ok (.aload_n 0, 1) := by decide +kernel
theorem dX4_ask_30 : decode cX4_ask 30 = .ok (.getfield 41, 3) := by decide +kernel
theorem dX4_ask_33 : decode cX4_ask 33 = .ok (.getfield 216, 3) := by decide +kernel
theorem dX4_ask_36 : decode cX4_ask 36 = .ok (.if_icmp .ge 50, 3) := by decide +kernel
theorem dX4_ask_39 : decode cX4_ask 39 = .ok (.iload 5, 2) := by decide +kernel
theorem dX4_ask_41 : decode cX4_ask 41 = .ok (.bipush 24, 2) := by decide +kernel
theorem dX4_ask_43 : decode cX4_ask 43 = .ok (.if_icmp .ge 43, 3) := by decide +kernel
theorem dX4_ask_46 : decode cX4_ask 46 = .ok (.aload_n 0, 1) := by decide +kernel
theorem dX4_ask_47 : decode cX4_ask 47 = .ok (.getfield 34, 3) := by decide +kernel
theorem dX4_ask_50 : decode cX4_ask 50 = .ok (.iload 5, 2) := by decide +kernel
theorem dX4_ask_52 : decode cX4_ask 52 = .ok (.iaload, 1) := by decide +kernel
theorem dX4_ask_53 : decode cX4_ask 53 = .ok (.iload_n 2, 1) := by decide +kernel
theorem dX4_ask_54 : decode cX4_ask 54 = .ok (.aload_n 0, 1) := by decide +kernel
theorem dX4_ask_55 : decode cX4_ask 55 = .ok (.getfield 34, 3) := by decide +kernel
theorem dX4_ask_58 : decode cX4_ask 58 = .ok (.iload 5, 2) := by decide +kernel
theorem dX4_ask_60 : decode cX4_ask 60 = .ok (.iaload, 1) := by decide +kernel
theorem dX4_ask_61 : decode cX4_ask 61 = .ok (.isub, 1) := by decide +kernel
theorem dX4_ask_62 : decode cX4_ask 62 = .ok (.invokestatic 219, 3) := by decide +kernel
theorem dX4_ask_65 : decode cX4_ask 65 = .ok (.istore 6, 2) := by decide +kernel
theorem dX4_ask_67 : decode cX4_ask 67 = .ok (.iload 6, 2) := by decide +kernel
theorem dX4_ask_69 : decode cX4_ask 69 = .ok (.iload_n 3, 1) := by decide +kernel
theorem dX4_ask_70 : decode cX4_ask 70 = .ok (.if_icmp .ge 10, 3) := by decide +kernel
theorem dX4_ask_73 : decode cX4_ask 73 = .ok (.iload 6, 2) := by decide +kernel
theorem dX4_ask_75 : decode cX4_ask 75 = .ok (.istore_n 3, 1) := by decide +kernel
theorem dX4_ask_76 : decode cX4_ask 76 = .ok (.iload 5, 2) := by decide +kernel
theorem dX4_ask_78 : decode cX4_ask 78 = .ok (.istore 4, 2) := by decide +kernel
theorem dX4_ask_80 : decode cX4_ask 80 = .ok (.iinc 5 1, 3) := by decide +kernel
theorem dX4_ask_83 : decode cX4_ask 83 = .ok (.goto (-56), 3) := by decide +kernel
theorem dX4_ask_86 : decode cX4_ask 86 = .ok (.iload 4, 2) := by decide +kernel
theorem dX4_ask_88 : decode cX4_ask 88 = .ok (.ireturn, 1) := by decide +kernel
set_option maxRecDepth 20000 in
theorem ggX4_mark_X0_hasSaying : GoodIn wsX4_mark wsX0_hasSaying := goodIn_r _ [7, 8, 9, 10, 11, 12, 100, 101, 102, 103, 104, 105, 106, 107, 108, 109, 110, 111, 112, 113, 114, 115] (by decide +kernel) (by decide +kernel)
set_option maxRecDepth 20000 in
theorem gX4_mark_X0_hasSaying : GoodIn wsX4_mark (wsV RX4 65 RX0 yX0_hasSaying wsX0_hasSaying) := goodIn_app (goodIn_of _ (by decide +kernel)) ggX4_mark_X0_hasSaying
set_option maxRecDepth 20000 in
theorem ggX4_mark_X4_asSaying : GoodIn wsX4_mark wsX4_asSaying := goodIn_r _ [16, 17, 1, 18, 19, 92, 93, 94, 95, 96, 97, 98, 99, 100, 101, 102, 103, 104, 105, 106, 107, 108, 109, 110, 111, 112, 113, 114, 115] (by decide +kernel) (by decide +kernel)
set_option maxRecDepth 20000 in
theorem gX4_mark_X4_asSaying : GoodIn wsX4_mark (wsV RX4 225 RX4 yX4_asSaying wsX4_asSaying) := goodIn_app (goodIn_of _ (by decide +kernel)) ggX4_mark_X4_asSaying
set_option maxRecDepth 20000 in
theorem ggX4_mark_X4_asVow : GoodIn wsX4_mark wsX4_asVow := goodIn_r _ [23, 17, 24, 1, 13, 14, 15, 11, 16, 18, 19, 25, 26, 27, 6, 28, 8, 29, 30, 31, 32, 33, 34, 35, 36, 37, 38, 39, 40, 41, 42, 43, 44, 45, 46, 47, 48, 49, 50, 51, 52, 53, 54, 55, 56, 92, 93, 94, 95, 96, 97, 98, 99, 100, 101, 102, 103, 104, 105, 106, 107, 108, 109, 110, 111, 112, 113, 114, 115] (by decide +kernel) (by decide +kernel)
set_option maxRecDepth 20000 in
theorem gX4_mark_X4_asVow : GoodIn wsX4_mark (wsV RX4 228 RX4 yX4_asVow wsX4_asVow) := goodIn_app (goodIn_of _ (by decide +kernel)) ggX4_mark_X4_asVow
set_option maxRecDepth 20000 in
theorem ggX4_mark_X4_asRumour : GoodIn wsX4_mark wsX4_asRumour := goodIn_r _ [60, 17, 61, 1, 18, 62, 13, 14, 15, 11, 16, 19, 92, 93, 94, 95, 96, 97, 98, 99, 100, 101, 102, 103, 104, 105, 106, 107, 108, 109, 110, 111, 112, 113, 114, 115] (by decide +kernel) (by decide +kernel)
set_option maxRecDepth 20000 in
theorem gX4_mark_X4_asRumour : GoodIn wsX4_mark (wsV RX4 231 RX4 yX4_asRumour wsX4_asRumour) := goodIn_app (goodIn_of _ (by decide +kernel)) ggX4_mark_X4_asRumour
set_option maxRecDepth 20000 in
theorem ggX4_mark_X4_asCurse : GoodIn wsX4_mark wsX4_asCurse := goodIn_r _ [66, 17, 67, 20, 21, 22, 11, 23, 24, 1, 13, 14, 15, 16, 18, 19, 25, 26, 27, 6, 28, 8, 29, 30, 31, 32, 33, 34, 35, 36, 37, 38, 39, 40, 41, 42, 43, 44, 45, 46, 47, 48, 49, 50, 51, 52, 53, 54, 55, 56, 92, 93, 94, 95, 96, 97, 98, 99, 100, 101, 102, 103, 104, 105, 106, 107, 108, 109, 110, 111, 112, 113, 114, 115] (by decide +kernel) (by decide +kernel)
set_option maxRecDepth 20000 in
theorem gX4_mark_X4_asCurse : GoodIn wsX4_mark (wsV RX4 234 RX4 yX4_asCurse wsX4_asCurse) := goodIn_app (goodIn_of _ (by decide +kernel)) ggX4_mark_X4_asCurse
set_option maxRecDepth 20000 in
theorem ggX4_mark_X4_asLie : GoodIn wsX4_mark wsX4_asLie := goodIn_r _ [71, 17, 72, 57, 58, 59, 11, 60, 61, 1, 18, 62, 13, 14, 15, 16, 19, 92, 93, 94, 95, 96, 97, 98, 99, 100, 101, 102, 103, 104, 105, 106, 107, 108, 109, 110, 111, 112, 113, 114, 115] (by decide +kernel) (by decide +kernel)
set_option maxRecDepth 20000 in
theorem gX4_mark_X4_asLie : GoodIn wsX4_mark (wsV RX4 237 RX4 yX4_asLie wsX4_asLie) := goodIn_app (goodIn_of _ (by decide +kernel)) ggX4_mark_X4_asLie
set_option maxRecDepth 20000 in
theorem ggX4_mark_X4_asHymn : GoodIn wsX4_mark wsX4_asHymn := goodIn_r _ [76, 17, 77, 1, 13, 14, 15, 11, 16, 18, 19, 78, 79, 80, 6, 81, 8, 82, 83, 36, 37, 38, 39, 40, 41, 42, 84, 85, 86, 87, 56, 88, 89, 90, 91, 92, 93, 94, 95, 96, 97, 98, 99, 100, 101, 102, 103, 104, 105, 106, 107, 108, 109, 110, 111, 112, 113, 114, 115] (by decide +kernel) (by decide +kernel)
set_option maxRecDepth 20000 in
theorem gX4_mark_X4_asHymn : GoodIn wsX4_mark (wsV RX4 240 RX4 yX4_asHymn wsX4_asHymn) := goodIn_app (goodIn_of _ (by decide +kernel)) ggX4_mark_X4_asHymn
theorem dX4_mark_0 : decode cX4_mark 0 = .ok (.aload_n 0, 1) := by decide +kernel
theorem dX4_mark_1 : decode cX4_mark 1 = .ok (.getfield 41, 3) := by decide +kernel
theorem dX4_mark_4 : decode cX4_mark 4 = .ok (.iload_n 2, 1) := by decide +kernel
theorem dX4_mark_5 : decode cX4_mark 5 = .ok (.invokevirtual 65, 3) := by decide +kernel
theorem dX4_mark_8 : decode cX4_mark 8 = .ok (.ifCond .ne 6, 3) := by decide +kernel
theorem dX4_mark_11 : decode cX4_mark 11 = .ok (.ldc 224, 2) := by decide +kernel
theorem dX4_mark_13 : decode cX4_mark 13 = .ok (.ireturn, 1) := by decide +kernel
theorem dX4_mark_14 : decode cX4_mark 14 = .ok (.iload_n 1, 1) := by decide +kernel
theorem dX4_mark_15 : decode cX4_mark 15 = .ok (.tableswitch 73 0 5 #[37, 43, 49, 55, 61, 67], 37) := by decide +kernel
theorem dX4_mark_52 : decode cX4_mark 52 = .ok (.aload_n 0, 1) := by decide +kernel
theorem dX4_mark_53 : decode cX4_mark 53 = .ok (.iload_n 2, 1) := by decide +kernel
theorem dX4_mark_54 : decode cX4_mark 54 = .ok (.invokevirtual 225, 3) := by decide +kernel
theorem dX4_mark_57 : decode cX4_mark 57 = .ok (.ireturn, 1) := by decide +kernel
theorem dX4_mark_58 : decode cX4_mark 58 = .ok (.aload_n 0, 1) := by decide +kernel
theorem dX4_mark_59 : decode cX4_mark 59 = .ok (.iload_n 2, 1) := by decide +kernel
theorem dX4_mark_60 : decode cX4_mark 60 = .ok (.invokevirtual 228, 3) := by decide +kernel
theorem dX4_mark_63 : decode cX4_mark 63 = .ok (.ireturn, 1) := by decide +kernel
theorem dX4_mark_64 : decode cX4_mark 64 = .ok (.aload_n 0, 1) := by decide +kernel
theorem dX4_mark_65 : decode cX4_mark 65 = .ok (.iload_n 2, 1) := by decide +kernel
theorem dX4_mark_66 : decode cX4_mark 66 = .ok (.invokevirtual 231, 3) := by decide +kernel
theorem dX4_mark_69 : decode cX4_mark 69 = .ok (.ireturn, 1) := by decide +kernel
theorem dX4_mark_70 : decode cX4_mark 70 = .ok (.aload_n 0, 1) := by decide +kernel
theorem dX4_mark_71 : decode cX4_mark 71 = .ok (.iload_n 2, 1) := by decide +kernel
theorem dX4_mark_72 : decode cX4_mark 72 = .ok (.invokevirtual 234, 3) := by decide +kernel
theorem dX4_mark_75 : decode cX4_mark 75 = .ok (.ireturn, 1) := by decide +kernel
theorem dX4_mark_76 : decode cX4_mark 76 = .ok (.aload_n 0, 1) := by decide +kernel
theorem dX4_mark_77 : decode cX4_mark 77 = .ok (.iload_n 2, 1) := by decide +kernel
theorem dX4_mark_78 : decode cX4_mark 78 = .ok (.invokevirtual 237, 3) := by decide +kernel
theorem dX4_mark_81 : decode cX4_mark 81 = .ok (.ireturn, 1) := by decide +kernel
theorem dX4_mark_82 : decode cX4_mark 82 = .ok (.aload_n 0, 1) := by decide +kernel
theorem dX4_mark_83 : decode cX4_mark 83 = .ok (.iload_n 2, 1) := by decide +kernel
theorem dX4_mark_84 : decode cX4_mark 84 = .ok (.invokevirtual 240, 3) := by decide +kernel
theorem dX4_mark_87 : decode cX4_mark 87 = .ok (.ireturn, 1) := by decide +kernel
theorem dX4_mark_88 : decode cX4_mark 88 = .ok (.ldc 224, 2) := by decide +kernel
theorem dX4_mark_90 : decode cX4_mark 90 = .ok (.ireturn, 1) := by decide +kernel
