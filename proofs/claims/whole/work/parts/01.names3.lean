set_option maxRecDepth 20000 in
theorem ggX4_keep_X4_within : GoodIn wsX4_keep wsX4_within := goodIn_r _ [9] (by decide +kernel) (by decide +kernel)
set_option maxRecDepth 20000 in
theorem gX4_keep_X4_within : GoodIn wsX4_keep (va_wsS RX4 48 yX4_within wsX4_within) := goodIn_app (goodIn_of _ (by decide +kernel)) ggX4_keep_X4_within
set_option maxRecDepth 20000 in
theorem ggX4_keep_X2_become : GoodIn wsX4_keep wsX2_become := goodIn_r _ [14, 15, 16, 17, 18, 19, 20, 21, 22, 23, 24, 25, 26, 27, 28, 43, 44, 45, 46, 47, 48, 49, 50, 51, 52] (by decide +kernel) (by decide +kernel)
set_option maxRecDepth 20000 in
theorem gX4_keep_X2_become : GoodIn wsX4_keep (wsV RX4 243 RX2 yX2_become wsX2_become) := goodIn_app (goodIn_of _ (by decide +kernel)) ggX4_keep_X2_become
theorem dX4_keep_0 : decode cX4_keep 0 = .ok (.iload_n 1, 1) := by decide +kernel
theorem dX4_keep_1 : decode cX4_keep 1 = .ok (.iconst 0, 1) := by decide +kernel
theorem dX4_keep_2 : decode cX4_keep 2 = .ok (.iconst 1, 1) := by decide +kernel
theorem dX4_keep_3 : decode cX4_keep 3 = .ok (.invokestatic 48, 3) := by decide +kernel
theorem dX4_keep_6 : decode cX4_keep 6 = .ok (.ifCond .ne 5, 3) := by decide +kernel
theorem dX4_keep_9 : decode cX4_keep 9 = .ok (.iconst (-1), 1) := by decide +kernel
theorem dX4_keep_10 : decode cX4_keep 10 = .ok (.ireturn, 1) := by decide +kernel
theorem dX4_keep_11 : decode cX4_keep 11 = .ok (.aload_n 0, 1) := by decide +kernel
theorem dX4_keep_12 : decode cX4_keep 12 = .ok (.getfield 25, 3) := by decide +kernel
theorem dX4_keep_15 : decode cX4_keep 15 = .ok (.iload_n 1, 1) := by decide +kernel
theorem dX4_keep_16 : decode cX4_keep 16 = .ok (.aaload, 1) := by decide +kernel
theorem dX4_keep_17 : decode cX4_keep 17 = .ok (.aload_n 0, 1) := by decide +kernel
theorem dX4_keep_18 : decode cX4_keep 18 = .ok (.getfield 41, 3) := by decide +kernel
theorem dX4_keep_21 : decode cX4_keep 21 = .ok (.getfield 68, 3) := by decide +kernel
theorem dX4_keep_24 : decode cX4_keep 24 = .ok (.invokevirtual 243, 3) := by decide +kernel
theorem dX4_keep_27 : decode cX4_keep 27 = .ok (.aload_n 0, 1) := by decide +kernel
theorem dX4_keep_28 : decode cX4_keep 28 = .ok (.getfield 30, 3) := by decide +kernel
theorem dX4_keep_31 : decode cX4_keep 31 = .ok (.iload_n 1, 1) := by decide +kernel
theorem dX4_keep_32 : decode cX4_keep 32 = .ok (.iconst 1, 1) := by decide +kernel
theorem dX4_keep_33 : decode cX4_keep 33 = .ok (.bastore, 1) := by decide +kernel
theorem dX4_keep_34 : decode cX4_keep 34 = .ok (.aload_n 0, 1) := by decide +kernel
theorem dX4_keep_35 : decode cX4_keep 35 = .ok (.getfield 41, 3) := by decide +kernel
theorem dX4_keep_38 : decode cX4_keep 38 = .ok (.getfield 68, 3) := by decide +kernel
theorem dX4_keep_41 : decode cX4_keep 41 = .ok (.getfield 126, 3) := by decide +kernel
theorem dX4_keep_44 : decode cX4_keep 44 = .ok (.ireturn, 1) := by decide +kernel
set_option maxRecDepth 20000 in
theorem ggX4_back_X4_within : GoodIn wsX4_back wsX4_within := goodIn_r _ [9] (by decide +kernel) (by decide +kernel)
set_option maxRecDepth 20000 in
theorem gX4_back_X4_within : GoodIn wsX4_back (va_wsS RX4 48 yX4_within wsX4_within) := goodIn_app (goodIn_of _ (by decide +kernel)) ggX4_back_X4_within
set_option maxRecDepth 20000 in
theorem ggX4_back_X2_become : GoodIn wsX4_back wsX2_become := goodIn_r _ [14, 15, 16, 17, 18, 19, 20, 21, 22, 23, 24, 25, 26, 27, 28, 43, 44, 45, 46, 47, 48, 49, 50, 51, 52] (by decide +kernel) (by decide +kernel)
set_option maxRecDepth 20000 in
theorem gX4_back_X2_become : GoodIn wsX4_back (wsV RX4 243 RX2 yX2_become wsX2_become) := goodIn_app (goodIn_of _ (by decide +kernel)) ggX4_back_X2_become
theorem dX4_back_0 : decode cX4_back 0 = .ok (.iload_n 1, 1) := by decide +kernel
theorem dX4_back_1 : decode cX4_back 1 = .ok (.iconst 0, 1) := by decide +kernel
theorem dX4_back_2 : decode cX4_back 2 = .ok (.iconst 1, 1) := by decide +kernel
theorem dX4_back_3 : decode cX4_back 3 = .ok (.invokestatic 48, 3) := by decide +kernel
theorem dX4_back_6 : decode cX4_back 6 = .ok (.ifCond .ne 5, 3) := by decide +kernel
theorem dX4_back_9 : decode cX4_back 9 = .ok (.iconst (-1), 1) := by decide +kernel
theorem dX4_back_10 : decode cX4_back 10 = .ok (.ireturn, 1) := by decide +kernel
theorem dX4_back_11 : decode cX4_back 11 = .ok (.aload_n 0, 1) := by decide +kernel
theorem dX4_back_12 : decode cX4_back 12 = .ok (.getfield 30, 3) := by decide +kernel
theorem dX4_back_15 : decode cX4_back 15 = .ok (.iload_n 1, 1) := by decide +kernel
theorem dX4_back_16 : decode cX4_back 16 = .ok (.baload, 1) := by decide +kernel
theorem dX4_back_17 : decode cX4_back 17 = .ok (.ifCond .ne 6, 3) := by decide +kernel
theorem dX4_back_20 : decode cX4_back 20 = .ok (.bipush (-2), 2) := by decide +kernel
theorem dX4_back_22 : decode cX4_back 22 = .ok (.ireturn, 1) := by decide +kernel
theorem dX4_back_23 : decode cX4_back 23 = .ok (.aload_n 0, 1) := by decide +kernel
theorem dX4_back_24 : decode cX4_back 24 = .ok (.getfield 41, 3) := by decide +kernel
theorem dX4_back_27 : decode cX4_back 27 = .ok (.getfield 68, 3) := by decide +kernel
theorem dX4_back_30 : decode cX4_back 30 = .ok (.aload_n 0, 1) := by decide +kernel
theorem dX4_back_31 : decode cX4_back 31 = .ok (.getfield 25, 3) := by decide +kernel
theorem dX4_back_34 : decode cX4_back 34 = .ok (.iload_n 1, 1) := by decide +kernel
theorem dX4_back_35 : decode cX4_back 35 = .ok (.aaload, 1) := by decide +kernel
theorem dX4_back_36 : decode cX4_back 36 = .ok (.invokevirtual 243, 3) := by decide +kernel
theorem dX4_back_39 : decode cX4_back 39 = .ok (.aload_n 0, 1) := by decide +kernel
theorem dX4_back_40 : decode cX4_back 40 = .ok (.getfield 41, 3) := by decide +kernel
theorem dX4_back_43 : decode cX4_back 43 = .ok (.getfield 68, 3) := by decide +kernel
theorem dX4_back_46 : decode cX4_back 46 = .ok (.getfield 126, 3) := by decide +kernel
theorem dX4_back_49 : decode cX4_back 49 = .ok (.ireturn, 1) := by decide +kernel
set_option maxRecDepth 20000 in
theorem ggX4_count_J6_bitCount_0f7a4 : GoodIn wsX4_count wsJ6_bitCount_0f7a4 := goodIn_r _ [15, 16, 17, 18] (by decide +kernel) (by decide +kernel)
set_option maxRecDepth 20000 in
theorem gX4_count_J6_bitCount_0f7a4 : GoodIn wsX4_count (va_wsS RX4 136 yJ6_bitCount_0f7a4 wsJ6_bitCount_0f7a4) := goodIn_app (goodIn_of _ (by decide +kernel)) ggX4_count_J6_bitCount_0f7a4
theorem dX4_count_0 : decode cX4_count 0 = .ok (.iload_n 1, 1) := by decide +kernel
theorem dX4_count_1 : decode cX4_count 1 = .ok (.tableswitch 108 0 6 #[43, 51, 62, 70, 81, 89, 100], 43) := by decide +kernel
theorem dX4_count_44 : decode cX4_count 44 = .ok (.aload_n 0, 1) := by decide +kernel
theorem dX4_count_45 : decode cX4_count 45 = .ok (.getfield 41, 3) := by decide +kernel
theorem dX4_count_48 : decode cX4_count 48 = .ok (.getfield 216, 3) := by decide +kernel
theorem dX4_count_51 : decode cX4_count 51 = .ok (.ireturn, 1) := by decide +kernel
theorem dX4_count_52 : decode cX4_count 52 = .ok (.aload_n 0, 1) := by decide +kernel
theorem dX4_count_53 : decode cX4_count 53 = .ok (.getfield 41, 3) := by decide +kernel
theorem dX4_count_56 : decode cX4_count 56 = .ok (.getfield 68, 3) := by decide +kernel
theorem dX4_count_59 : decode cX4_count 59 = .ok (.getfield 151, 3) := by decide +kernel
theorem dX4_count_62 : decode cX4_count 62 = .ok (.ireturn, 1) := by decide +kernel
theorem dX4_count_63 : decode cX4_count 63 = .ok (.aload_n 0, 1) := by decide +kernel
theorem dX4_count_64 : decode cX4_count 64 = .ok (.getfield 41, 3) := by decide +kernel
theorem dX4_count_67 : decode cX4_count 67 = .ok (.getfield 196, 3) := by decide +kernel
theorem dX4_count_70 : decode cX4_count 70 = .ok (.ireturn, 1) := by decide +kernel
theorem dX4_count_71 : decode cX4_count 71 = .ok (.aload_n 0, 1) := by decide +kernel
theorem dX4_count_72 : decode cX4_count 72 = .ok (.getfield 41, 3) := by decide +kernel
theorem dX4_count_75 : decode cX4_count 75 = .ok (.getfield 247, 3) := by decide +kernel
theorem dX4_count_78 : decode cX4_count 78 = .ok (.invokestatic 136, 3) := by decide +kernel
theorem dX4_count_81 : decode cX4_count 81 = .ok (.ireturn, 1) := by decide +kernel
theorem dX4_count_82 : decode cX4_count 82 = .ok (.aload_n 0, 1) := by decide +kernel
theorem dX4_count_83 : decode cX4_count 83 = .ok (.getfield 19, 3) := by decide +kernel
theorem dX4_count_86 : decode cX4_count 86 = .ok (.getfield 64, 3) := by decide +kernel
theorem dX4_count_89 : decode cX4_count 89 = .ok (.ireturn, 1) := by decide +kernel
theorem dX4_count_90 : decode cX4_count 90 = .ok (.aload_n 0, 1) := by decide +kernel
theorem dX4_count_91 : decode cX4_count 91 = .ok (.getfield 41, 3) := by decide +kernel
theorem dX4_count_94 : decode cX4_count 94 = .ok (.getfield 68, 3) := by decide +kernel
theorem dX4_count_97 : decode cX4_count 97 = .ok (.getfield 161, 3) := by decide +kernel
theorem dX4_count_100 : decode cX4_count 100 = .ok (.ireturn, 1) := by decide +kernel
theorem dX4_count_101 : decode cX4_count 101 = .ok (.aload_n 0, 1) := by decide +kernel
theorem dX4_count_102 : decode cX4_count 102 = .ok (.getfield 12, 3) := by decide +kernel
theorem dX4_count_105 : decode cX4_count 105 = .ok (.getfield 56, 3) := by decide +kernel
theorem dX4_count_108 : decode cX4_count 108 = .ok (.ireturn, 1) := by decide +kernel
theorem dX4_count_109 : decode cX4_count 109 = .ok (.iconst (-1), 1) := by decide +kernel
theorem dX4_count_110 : decode cX4_count 110 = .ok (.ireturn, 1) := by decide +kernel
theorem dX4_trace_0 : decode cX4_trace 0 = .ok (.aload_n 0, 1) := by decide +kernel
theorem dX4_trace_1 : decode cX4_trace 1 = .ok (.getfield 250, 3) := by decide +kernel
theorem dX4_trace_4 : decode cX4_trace 4 = .ok (.lreturn, 1) := by decide +kernel
theorem dX4_within_0 : decode cX4_within 0 = .ok (.iload_n 0, 1) := by decide +kernel
theorem dX4_within_1 : decode cX4_within 1 = .ok (.iload_n 1, 1) := by decide +kernel
theorem dX4_within_2 : decode cX4_within 2 = .ok (.if_icmp .lt 12, 3) := by decide +kernel
theorem dX4_within_5 : decode cX4_within 5 = .ok (.iload_n 0, 1) := by decide +kernel
theorem dX4_within_6 : decode cX4_within 6 = .ok (.iload_n 2, 1) := by decide +kernel
theorem dX4_within_7 : decode cX4_within 7 = .ok (.if_icmp .gt 7, 3) := by decide +kernel
theorem dX4_within_10 : decode cX4_within 10 = .ok (.iconst 1, 1) := by decide +kernel
theorem dX4_within_11 : decode cX4_within 11 = .ok (.goto 4, 3) := by decide +kernel
theorem dX4_within_14 : decode cX4_within 14 = .ok (.iconst 0, 1) := by decide +kernel
theorem dX4_within_15 : decode cX4_within 15 = .ok (.ireturn, 1) := by decide +kernel
set_option maxRecDepth 20000 in
theorem ggX4_maySay_X0_hasPlace : GoodIn wsX4_maySay wsX0_hasPlace := goodIn_r _ [6, 7, 8, 9, 10, 20, 21, 22, 23, 24, 25] (by decide +kernel) (by decide +kernel)
set_option maxRecDepth 20000 in
theorem gX4_maySay_X0_hasPlace : GoodIn wsX4_maySay (wsV RX4 101 RX0 yX0_hasPlace wsX0_hasPlace) := goodIn_app (goodIn_of _ (by decide +kernel)) ggX4_maySay_X0_hasPlace
set_option maxRecDepth 20000 in
theorem ggX4_maySay_X4_within : GoodIn wsX4_maySay wsX4_within := goodIn_r _ [10] (by decide +kernel) (by decide +kernel)
set_option maxRecDepth 20000 in
theorem gX4_maySay_X4_within : GoodIn wsX4_maySay (va_wsS RX4 48 yX4_within wsX4_within) := goodIn_app (goodIn_of _ (by decide +kernel)) ggX4_maySay_X4_within
theorem dX4_maySay_0 : decode cX4_maySay 0 = .ok (.aload_n 0, 1) := by decide +kernel
theorem dX4_maySay_1 : decode cX4_maySay 1 = .ok (.getfield 41, 3) := by decide +kernel
theorem dX4_maySay_4 : decode cX4_maySay 4 = .ok (.iload_n 1, 1) := by decide +kernel
theorem dX4_maySay_5 : decode cX4_maySay 5 = .ok (.invokevirtual 101, 3) := by decide +kernel
theorem dX4_maySay_8 : decode cX4_maySay 8 = .ok (.ifCond .eq 37, 3) := by decide +kernel
theorem dX4_maySay_11 : decode cX4_maySay 11 = .ok (.iload_n 2, 1) := by decide +kernel
theorem dX4_maySay_12 : decode cX4_maySay 12 = .ok (.iconst 1, 1) := by decide +kernel
theorem dX4_maySay_13 : decode cX4_maySay 13 = .ok (.bipush 6, 2) := by decide +kernel
theorem dX4_maySay_15 : decode cX4_maySay 15 = .ok (.invokestatic 48, 3) := by decide +kernel
theorem dX4_maySay_18 : decode cX4_maySay 18 = .ok (.ifCond .eq 27, 3) := by decide +kernel
theorem dX4_maySay_21 : decode cX4_maySay 21 = .ok (.iload_n 3, 1) := by decide +kernel
theorem dX4_maySay_22 : decode cX4_maySay 22 = .ok (.iconst 0, 1) := by decide +kernel
theorem dX4_maySay_23 : decode cX4_maySay 23 = .ok (.iconst 1, 1) := by decide +kernel
theorem dX4_maySay_24 : decode cX4_maySay 24 = .ok (.invokestatic 48, 3) := by decide +kernel
theorem dX4_maySay_27 : decode cX4_maySay 27 = .ok (.ifCond .eq 18, 3) := by decide +kernel
theorem dX4_maySay_30 : decode cX4_maySay 30 = .ok (.iload 4, 2) := by decide +kernel
theorem dX4_maySay_32 : decode cX4_maySay 32 = .ok (.iconst 1, 1) := by decide +kernel
theorem dX4_maySay_33 : decode cX4_maySay 33 = .ok (.bipush 30, 2) := by decide +kernel
theorem dX4_maySay_35 : decode cX4_maySay 35 = .ok (.invokestatic 48, 3) := by decide +kernel
theorem dX4_maySay_38 : decode cX4_maySay 38 = .ok (.ifCond .eq 7, 3) := by decide +kernel
theorem dX4_maySay_41 : decode cX4_maySay 41 = .ok (.iconst 1, 1) := by decide +kernel
theorem dX4_maySay_42 : decode cX4_maySay 42 = .ok (.goto 4, 3) := by decide +kernel
theorem dX4_maySay_45 : decode cX4_maySay 45 = .ok (.iconst 0, 1) := by decide +kernel
theorem dX4_maySay_46 : decode cX4_maySay 46 = .ok (.ireturn, 1) := by decide +kernel
set_option maxRecDepth 20000 in
theorem ggX4_lastingParts_X4_lastingParts : GoodIn wsX4_lastingParts wsX4_lastingParts := goodIn_r _ [0, 1, 2, 3] (by decide +kernel) (by decide +kernel)
set_option maxRecDepth 20000 in
theorem gX4_lastingParts_X4_lastingParts : GoodIn wsX4_lastingParts (va_wsS RX4 199 yX4_lastingParts wsX4_lastingParts) := goodIn_app (goodIn_of _ (by decide +kernel)) ggX4_lastingParts_X4_lastingParts
theorem dX4_lastingParts_0 : decode cX4_lastingParts 0 = .ok (.iload_n 0, 1) := by decide +kernel
theorem dX4_lastingParts_1 : decode cX4_lastingParts 1 = .ok (.ifCond .gt 5, 3) := by decide +kernel
theorem dX4_lastingParts_4 : decode cX4_lastingParts 4 = .ok (.iconst 0, 1) := by decide +kernel
theorem dX4_lastingParts_5 : decode cX4_lastingParts 5 = .ok (.ireturn, 1) := by decide +kernel
theorem dX4_lastingParts_6 : decode cX4_lastingParts 6 = .ok (.iload_n 2, 1) := by decide +kernel
theorem dX4_lastingParts_7 : decode cX4_lastingParts 7 = .ok (.ifCond .gt 5, 3) := by decide +kernel
theorem dX4_lastingParts_10 : decode cX4_lastingParts 10 = .ok (.iconst 1, 1) := by decide +kernel
theorem dX4_lastingParts_11 : decode cX4_lastingParts 11 = .ok (.ireturn, 1) := by decide +kernel
theorem dX4_lastingParts_12 : decode cX4_lastingParts 12 = .ok (.bipush 10, 2) := by decide +kernel
theorem dX4_lastingParts_14 : decode cX4_lastingParts 14 = .ok (.iload_n 3, 1) := by decide +kernel
theorem dX4_lastingParts_15 : decode cX4_lastingParts 15 = .ok (.isub, 1) := by decide +kernel
theorem dX4_lastingParts_16 : decode cX4_lastingParts 16 = .ok (.iload_n 0, 1) := by decide +kernel
theorem dX4_lastingParts_17 : decode cX4_lastingParts 17 = .ok (.iload_n 1, 1) := by decide +kernel
theorem dX4_lastingParts_18 : decode cX4_lastingParts 18 = .ok (.isub, 1) := by decide +kernel
theorem dX4_lastingParts_19 : decode cX4_lastingParts 19 = .ok (.iload_n 1, 1) := by decide +kernel
theorem dX4_lastingParts_20 : decode cX4_lastingParts 20 = .ok (.iload_n 2, 1) := by decide +kernel
theorem dX4_lastingParts_21 : decode cX4_lastingParts 21 = .ok (.iconst 1, 1) := by decide +kernel
theorem dX4_lastingParts_22 : decode cX4_lastingParts 22 = .ok (.isub, 1) := by decide +kernel
theorem dX4_lastingParts_23 : decode cX4_lastingParts 23 = .ok (.iload_n 3, 1) := by decide +kernel
theorem dX4_lastingParts_24 : decode cX4_lastingParts 24 = .ok (.invokestatic 199, 3) := by decide +kernel
theorem dX4_lastingParts_27 : decode cX4_lastingParts 27 = .ok (.imul, 1) := by decide +kernel
theorem dX4_lastingParts_28 : decode cX4_lastingParts 28 = .ok (.iload_n 3, 1) := by decide +kernel
theorem dX4_lastingParts_29 : decode cX4_lastingParts 29 = .ok (.iload_n 0, 1) := by decide +kernel
theorem dX4_lastingParts_30 : decode cX4_lastingParts 30 = .ok (.iconst 2, 1) := by decide +kernel
theorem dX4_lastingParts_31 : decode cX4_lastingParts 31 = .ok (.iload_n 1, 1) := by decide +kernel
theorem dX4_lastingParts_32 : decode cX4_lastingParts 32 = .ok (.imul, 1) := by decide +kernel
theorem dX4_lastingParts_33 : decode cX4_lastingParts 33 = .ok (.isub, 1) := by decide +kernel
theorem dX4_lastingParts_34 : decode cX4_lastingParts 34 = .ok (.iload_n 1, 1) := by decide +kernel
theorem dX4_lastingParts_35 : decode cX4_lastingParts 35 = .ok (.iload_n 2, 1) := by decide +kernel
theorem dX4_lastingParts_36 : decode cX4_lastingParts 36 = .ok (.iconst 1, 1) := by decide +kernel
theorem dX4_lastingParts_37 : decode cX4_lastingParts 37 = .ok (.isub, 1) := by decide +kernel
theorem dX4_lastingParts_38 : decode cX4_lastingParts 38 = .ok (.iload_n 3, 1) := by decide +kernel
theorem dX4_lastingParts_39 : decode cX4_lastingParts 39 = .ok (.invokestatic 199, 3) := by decide +kernel
theorem dX4_lastingParts_42 : decode cX4_lastingParts 42 = .ok (.imul, 1) := by decide +kernel
theorem dX4_lastingParts_43 : decode cX4_lastingParts 43 = .ok (.iadd, 1) := by decide +kernel
theorem dX4_lastingParts_44 : decode cX4_lastingParts 44 = .ok (.ireturn, 1) := by decide +kernel
theorem dX4_commonDivisor_0 : decode cX4_commonDivisor 0 = .ok (.iload_n 0, 1) := by decide +kernel
theorem dX4_commonDivisor_1 : decode cX4_commonDivisor 1 = .ok (.istore_n 2, 1) := by decide +kernel
theorem dX4_commonDivisor_2 : decode cX4_commonDivisor 2 = .ok (.iload_n 1, 1) := by decide +kernel
theorem dX4_commonDivisor_3 : decode cX4_commonDivisor 3 = .ok (.istore_n 3, 1) := by decide +kernel
theorem dX4_commonDivisor_4 : decode cX4_commonDivisor 4 = .ok (.iconst 0, 1) := by decide +kernel
theorem dX4_commonDivisor_5 : decode cX4_commonDivisor 5 = .ok (.istore 4, 2) := by decide +kernel
theorem dX4_commonDivisor_7 : decode cX4_commonDivisor 7 = .ok (.iload 4, 2) := by decide +kernel
theorem dX4_commonDivisor_9 : decode cX4_commonDivisor 9 = .ok (.bipush 64, 2) := by decide +kernel
theorem dX4_commonDivisor_11 : decode cX4_commonDivisor 11 = .ok (.if_icmp .ge 23, 3) := by decide +kernel
theorem dX4_commonDivisor_14 : decode cX4_commonDivisor 14 = .ok (.iload_n 3, 1) := by decide +kernel
theorem dX4_commonDivisor_15 : decode cX4_commonDivisor 15 = .ok (.ifCond .le 19, 3) := by decide +kernel
theorem dX4_commonDivisor_18 : decode cX4_commonDivisor 18 = .ok (.iload_n 2, 1) := by decide +kernel
theorem dX4_commonDivisor_19 : decode cX4_commonDivisor 19 = .ok (.iload_n 3, 1) := by decide +kernel
theorem dX4_commonDivisor_20 : decode cX4_commonDivisor 20 = .ok (.irem, 1) := by decide +kernel
theorem dX4_commonDivisor_21 : decode cX4_commonDivisor 21 = .ok (.istore 5, 2) := by decide +kernel
theorem dX4_commonDivisor_23 : decode cX4_commonDivisor 23 = .ok (.iload_n 3, 1) := by decide +kernel
theorem dX4_commonDivisor_24 : decode cX4_commonDivisor 24 = .ok (.istore_n 2, 1) := by decide +kernel
theorem dX4_commonDivisor_25 : decode cX4_commonDivisor 25 = .ok (.iload 5, 2) := by decide +kernel
theorem dX4_commonDivisor_27 : decode cX4_commonDivisor 27 = .ok (.istore_n 3, 1) := by decide +kernel
theorem dX4_commonDivisor_28 : decode cX4_commonDivisor 28 = .ok (.iinc 4 1, 3) := by decide +kernel
theorem dX4_commonDivisor_31 : decode cX4_commonDivisor 31 = .ok (.goto (-24), 3) := by decide +kernel
theorem dX4_commonDivisor_34 : decode cX4_commonDivisor 34 = .ok (.iload_n 2, 1) := by decide +kernel
theorem dX4_commonDivisor_35 : decode cX4_commonDivisor 35 = .ok (.ireturn, 1) := by decide +kernel
set_option maxRecDepth 20000 in
theorem ggX4_guessCount_X1_fits : GoodIn wsX4_guessCount wsX1_fits := goodIn_r _ [8, 9, 10, 11, 12, 13, 14, 7, 15, 16, 17, 18, 19, 20, 21, 22, 23, 24, 25, 26, 27, 28, 29, 30, 31, 32, 33, 34, 49, 50, 51, 52, 43, 44, 45, 46, 47, 48] (by decide +kernel) (by decide +kernel)
set_option maxRecDepth 20000 in
theorem gX4_guessCount_X1_fits : GoodIn wsX4_guessCount (wsV RX4 254 RX1 yX1_fits wsX1_fits) := goodIn_app (goodIn_of _ (by decide +kernel)) ggX4_guessCount_X1_fits
theorem dX4_guessCount_0 : decode cX4_guessCount 0 = .ok (.iconst 0, 1) := by decide +kernel
theorem dX4_guessCount_1 : decode cX4_guessCount 1 = .ok (.istore_n 1, 1) := by decide +kernel
theorem dX4_guessCount_2 : decode cX4_guessCount 2 = .ok (.iconst 0, 1) := by decide +kernel
theorem dX4_guessCount_3 : decode cX4_guessCount 3 = .ok (.istore_n 2, 1) := by decide +kernel
theorem dX4_guessCount_4 : decode cX4_guessCount 4 = .ok (.iload_n 2, 1) := by decide +kernel
theorem dX4_guessCount_5 : decode cX4_guessCount 5 = .ok (.aload_n 0, 1) := by decide +kernel
theorem dX4_guessCount_6 : decode cX4_guessCount 6 = .ok (.getfield 41, 3) := by decide +kernel
theorem dX4_guessCount_9 : decode cX4_guessCount 9 = .ok (.getfield 216, 3) := by decide +kernel
theorem dX4_guessCount_12 : decode cX4_guessCount 12 = .ok (.bipush 12, 2) := by decide +kernel
theorem dX4_guessCount_14 : decode cX4_guessCount 14 = .ok (.imul, 1) := by decide +kernel
theorem dX4_guessCount_15 : decode cX4_guessCount 15 = .ok (.if_icmp .ge 27, 3) := by decide +kernel
theorem dX4_guessCount_18 : decode cX4_guessCount 18 = .ok (.aload_n 0, 1) := by decide +kernel
theorem dX4_guessCount_19 : decode cX4_guessCount 19 = .ok (.getfield 19, 3) := by decide +kernel
theorem dX4_guessCount_22 : decode cX4_guessCount 22 = .ok (.aload_n 0, 1) := by decide +kernel
theorem dX4_guessCount_23 : decode cX4_guessCount 23 = .ok (.getfield 41, 3) := by decide +kernel
theorem dX4_guessCount_26 : decode cX4_guessCount 26 = .ok (.iload_n 2, 1) := by decide +kernel
theorem dX4_guessCount_27 : decode cX4_guessCount 27 = .ok (.invokevirtual 254, 3) := by decide +kernel
theorem dX4_guessCount_30 : decode cX4_guessCount 30 = .ok (.ifCond .eq 6, 3) := by decide +kernel
theorem dX4_guessCount_33 : decode cX4_guessCount 33 = .ok (.iinc 1 1, 3) := by decide +kernel
theorem dX4_guessCount_36 : decode cX4_guessCount 36 = .ok (.iinc 2 1, 3) := by decide +kernel
theorem dX4_guessCount_39 : decode cX4_guessCount 39 = .ok (.goto (-35), 3) := by decide +kernel
theorem dX4_guessCount_42 : decode cX4_guessCount 42 = .ok (.iload_n 1, 1) := by decide +kernel
theorem dX4_guessCount_43 : decode cX4_guessCount 43 = .ok (.ireturn, 1) := by decide +kernel
set_option maxRecDepth 20000 in
theorem ggX4_firstGuess_X1_fits : GoodIn wsX4_firstGuess wsX1_fits := goodIn_r _ [8, 9, 10, 11, 12, 13, 14, 7, 15, 16, 17, 18, 19, 20, 21, 22, 23, 24, 25, 26, 27, 28, 29, 30, 31, 32, 33, 34, 52, 53, 54, 55, 46, 47, 48, 49, 50, 51] (by decide +kernel) (by decide +kernel)
set_option maxRecDepth 20000 in
theorem gX4_firstGuess_X1_fits : GoodIn wsX4_firstGuess (wsV RX4 254 RX1 yX1_fits wsX1_fits) := goodIn_app (goodIn_of _ (by decide +kernel)) ggX4_firstGuess_X1_fits
set_option maxRecDepth 20000 in
theorem ggX4_firstGuess_X1_placeIn : GoodIn wsX4_firstGuess wsX1_placeIn := goodIn_r _ [18] (by decide +kernel) (by decide +kernel)
set_option maxRecDepth 20000 in
theorem gX4_firstGuess_X1_placeIn : GoodIn wsX4_firstGuess (va_wsS RX4 258 yX1_placeIn wsX1_placeIn) := goodIn_app (goodIn_of _ (by decide +kernel)) ggX4_firstGuess_X1_placeIn
set_option maxRecDepth 20000 in
theorem ggX4_firstGuess_X1_speedIn : GoodIn wsX4_firstGuess wsX1_speedIn := goodIn_r _ [24] (by decide +kernel) (by decide +kernel)
set_option maxRecDepth 20000 in
theorem gX4_firstGuess_X1_speedIn : GoodIn wsX4_firstGuess (va_wsS RX4 261 yX1_speedIn wsX1_speedIn) := goodIn_app (goodIn_of _ (by decide +kernel)) ggX4_firstGuess_X1_speedIn
set_option maxRecDepth 20000 in
theorem ggX4_firstGuess_X1_wayIn : GoodIn wsX4_firstGuess wsX1_wayIn := goodIn_r _ [21] (by decide +kernel) (by decide +kernel)
set_option maxRecDepth 20000 in
theorem gX4_firstGuess_X1_wayIn : GoodIn wsX4_firstGuess (va_wsS RX4 264 yX1_wayIn wsX1_wayIn) := goodIn_app (goodIn_of _ (by decide +kernel)) ggX4_firstGuess_X1_wayIn
theorem dX4_firstGuess_0 : decode cX4_firstGuess 0 = .ok (.iconst 0, 1) := by decide +kernel
theorem dX4_firstGuess_1 : decode cX4_firstGuess 1 = .ok (.istore_n 1, 1) := by decide +kernel
theorem dX4_firstGuess_2 : decode cX4_firstGuess 2 = .ok (.iload_n 1, 1) := by decide +kernel
theorem dX4_firstGuess_3 : decode cX4_firstGuess 3 = .ok (.aload_n 0, 1) := by decide +kernel
theorem dX4_firstGuess_4 : decode cX4_firstGuess 4 = .ok (.getfield 41, 3) := by decide +kernel
theorem dX4_firstGuess_7 : decode cX4_firstGuess 7 = .ok (.getfield 216, 3) := by decide +kernel
theorem dX4_firstGuess_10 : decode cX4_firstGuess 10 = .ok (.bipush 12, 2) := by decide +kernel
theorem dX4_firstGuess_12 : decode cX4_firstGuess 12 = .ok (.imul, 1) := by decide +kernel
theorem dX4_firstGuess_13 : decode cX4_firstGuess 13 = .ok (.if_icmp .ge 45, 3) := by decide +kernel
theorem dX4_firstGuess_16 : decode cX4_firstGuess 16 = .ok (.aload_n 0, 1) := by decide +kernel
theorem dX4_firstGuess_17 : decode cX4_firstGuess 17 = .ok (.getfield 19, 3) := by decide +kernel
theorem dX4_firstGuess_20 : decode cX4_firstGuess 20 = .ok (.aload_n 0, 1) := by decide +kernel
theorem dX4_firstGuess_21 : decode cX4_firstGuess 21 = .ok (.getfield 41, 3) := by decide +kernel
theorem dX4_firstGuess_24 : decode cX4_firstGuess 24 = .ok (.iload_n 1, 1) := by decide +kernel
theorem dX4_firstGuess_25 : decode cX4_firstGuess 25 = .ok (.invokevirtual 254, 3) := by decide +kernel
theorem dX4_firstGuess_28 : decode cX4_firstGuess 28 = .ok (.ifCond .eq 24, 3) := by decide +kernel
theorem dX4_firstGuess_31 : decode cX4_firstGuess 31 = .ok (.bipush 100, 2) := by decide +kernel
theorem dX4_firstGuess_33 : decode cX4_firstGuess 33 = .ok (.iload_n 1, 1) := by decide +kernel
theorem dX4_firstGuess_34 : decode cX4_firstGuess 34 = .ok (.invokestatic 258, 3) := by decide +kernel
theorem dX4_firstGuess_37 : decode cX4_firstGuess 37 = .ok (.imul, 1) := by decide +kernel
theorem dX4_firstGuess_38 : decode cX4_firstGuess 38 = .ok (.bipush 10, 2) := by decide +kernel
theorem dX4_firstGuess_40 : decode cX4_firstGuess 40 = .ok (.iload_n 1, 1) := by decide +kernel
theorem dX4_firstGuess_41 : decode cX4_firstGuess 41 = .ok (.invokestatic 261, 3) := by decide +kernel
theorem dX4_firstGuess_44 : decode cX4_firstGuess 44 = .ok (.imul, 1) := by decide +kernel
theorem dX4_firstGuess_45 : decode cX4_firstGuess 45 = .ok (.iadd, 1) := by decide +kernel
theorem dX4_firstGuess_46 : decode cX4_firstGuess 46 = .ok (.iload_n 1, 1) := by decide +kernel
theorem dX4_firstGuess_47 : decode cX4_firstGuess 47 = .ok (.invokestatic 264, 3) := by decide +kernel
theorem dX4_firstGuess_50 : decode cX4_firstGuess 50 = .ok (.iadd, 1) := by decide +kernel
theorem dX4_firstGuess_51 : decode cX4_firstGuess 51 = .ok (.ireturn, 1) := by decide +kernel
theorem dX4_firstGuess_52 : decode cX4_firstGuess 52 = .ok (.iinc 1 1, 3) := by decide +kernel
theorem dX4_firstGuess_55 : decode cX4_firstGuess 55 = .ok (.goto (-53), 3) := by decide +kernel
theorem dX4_firstGuess_58 : decode cX4_firstGuess 58 = .ok (.bipush (-9), 2) := by decide +kernel
theorem dX4_firstGuess_60 : decode cX4_firstGuess 60 = .ok (.ireturn, 1) := by decide +kernel
set_option maxRecDepth 20000 in
theorem ggX4_sortGuesses_X1_placeBehind : GoodIn wsX4_sortGuesses wsX1_placeBehind := goodIn_r _ [8, 9, 10, 7, 11, 12, 13, 14, 15, 16, 17, 18, 19, 20, 21, 22, 23, 24, 25, 26, 27, 49, 50, 51, 52, 53, 54] (by decide +kernel) (by decide +kernel)
set_option maxRecDepth 20000 in
theorem gX4_sortGuesses_X1_placeBehind : GoodIn wsX4_sortGuesses (va_wsS RX4 267 yX1_placeBehind wsX1_placeBehind) := goodIn_app (goodIn_of _ (by decide +kernel)) ggX4_sortGuesses_X1_placeBehind
set_option maxRecDepth 20000 in
theorem ggX4_sortGuesses_X1_fits : GoodIn wsX4_sortGuesses wsX1_fits := goodIn_r _ [31, 32, 33, 34, 35, 36, 6, 7, 8, 9, 10, 11, 12, 13, 14, 15, 16, 17, 18, 19, 20, 21, 22, 23, 24, 25, 26, 27, 55, 56, 57, 58, 49, 50, 51, 52, 53, 54] (by decide +kernel) (by decide +kernel)
set_option maxRecDepth 20000 in
theorem gX4_sortGuesses_X1_fits : GoodIn wsX4_sortGuesses (wsV RX4 254 RX1 yX1_fits wsX1_fits) := goodIn_app (goodIn_of _ (by decide +kernel)) ggX4_sortGuesses_X1_fits
set_option maxRecDepth 20000 in
theorem ggX4_sortGuesses_X4_within : GoodIn wsX4_sortGuesses wsX4_within := goodIn_r _ [40] (by decide +kernel) (by decide +kernel)
set_option maxRecDepth 20000 in
theorem gX4_sortGuesses_X4_within : GoodIn wsX4_sortGuesses (va_wsS RX4 48 yX4_within wsX4_within) := goodIn_app (goodIn_of _ (by decide +kernel)) ggX4_sortGuesses_X4_within
theorem dX4_sortGuesses_0 : decode cX4_sortGuesses 0 = .ok (.iconst 0, 1) := by decide +kernel
theorem dX4_sortGuesses_1 : decode cX4_sortGuesses 1 = .ok (.istore_n 2, 1) := by decide +kernel
theorem dX4_sortGuesses_2 : decode cX4_sortGuesses 2 = .ok (.iload_n 2, 1) := by decide +kernel
theorem dX4_sortGuesses_3 : decode cX4_sortGuesses 3 = .ok (.bipush 24, 2) := by decide +kernel
theorem dX4_sortGuesses_5 : decode cX4_sortGuesses 5 = .ok (.if_icmp .ge 16, 3) := by decide +kernel
theorem dX4_sortGuesses_8 : decode cX4_sortGuesses 8 = .ok (.aload_n 0, 1) := by decide +kernel
theorem dX4_sortGuesses_9 : decode cX4_sortGuesses 9 = .ok (.getfield 34, 3) := by decide +kernel
theorem dX4_sortGuesses_12 : decode cX4_sortGuesses 12 = .ok (.iload_n 2, 1) := by decide +kernel
theorem dX4_sortGuesses_13 : decode cX4_sortGuesses 13 = .ok (.iconst 0, 1) := by decide +kernel
theorem dX4_sortGuesses_14 : decode cX4_sortGuesses 14 = .ok (.iastore, 1) := by decide +kernel
theorem dX4_sortGuesses_15 : decode cX4_sortGuesses 15 = .ok (.iinc 2 1, 3) := by decide +kernel
theorem dX4_sortGuesses_18 : decode cX4_sortGuesses 18 = .ok (.goto (-16), 3) := by decide +kernel
theorem dX4_sortGuesses_21 : decode cX4_sortGuesses 21 = .ok (.iconst 0, 1) := by decide +kernel
theorem dX4_sortGuesses_22 : decode cX4_sortGuesses 22 = .ok (.istore_n 2, 1) := by decide +kernel
theorem dX4_sortGuesses_23 : decode cX4_sortGuesses 23 = .ok (.iconst 0, 1) := by decide +kernel
theorem dX4_sortGuesses_24 : decode cX4_sortGuesses 24 = .ok (.istore_n 3, 1) := by decide +kernel
theorem dX4_sortGuesses_25 : decode cX4_sortGuesses 25 = .ok (.iload_n 3, 1) := by decide +kernel
theorem dX4_sortGuesses_26 : decode cX4_sortGuesses 26 = .ok (.aload_n 0, 1) := by decide +kernel
theorem dX4_sortGuesses_27 : decode cX4_sortGuesses 27 = .ok (.getfield 41, 3) := by decide +kernel
theorem dX4_sortGuesses_30 : decode cX4_sortGuesses 30 = .ok (.getfield 216, 3) := by decide +kernel
theorem dX4_sortGuesses_33 : decode cX4_sortGuesses 33 = .ok (.bipush 12, 2) := by decide +kernel
theorem dX4_sortGuesses_35 : decode cX4_sortGuesses 35 = .ok (.imul, 1) := by decide +kernel
theorem dX4_sortGuesses_36 : decode cX4_sortGuesses 36 = .ok (.if_icmp .ge 60, 3) := by decide +kernel
theorem dX4_sortGuesses_39 : decode cX4_sortGuesses 39 = .ok (.aload_n 0, 1) := by decide +kernel
theorem dX4_sortGuesses_40 : decode cX4_sortGuesses 40 = .ok (.getfield 41, 3) := by decide +kernel
theorem dX4_sortGuesses_43 : decode cX4_sortGuesses 43 = .ok (.iload_n 3, 1) := by decide +kernel
theorem dX4_sortGuesses_44 : decode cX4_sortGuesses 44 = .ok (.iload_n 1, 1) := by decide +kernel
theorem dX4_sortGuesses_45 : decode cX4_sortGuesses 45 = .ok (.invokestatic 267, 3) := by decide +kernel
theorem dX4_sortGuesses_48 : decode cX4_sortGuesses 48 = .ok (.istore 4, 2) := by decide +kernel
theorem dX4_sortGuesses_50 : decode cX4_sortGuesses 50 = .ok (.aload_n 0, 1) := by decide +kernel
theorem dX4_sortGuesses_51 : decode cX4_sortGuesses 51 = .ok (.getfield 19, 3) := by decide +kernel
theorem dX4_sortGuesses_54 : decode cX4_sortGuesses 54 = .ok (.aload_n 0, 1) := by decide +kernel
theorem dX4_sortGuesses_55 : decode cX4_sortGuesses 55 = .ok (.getfield 41, 3) := by decide +kernel
theorem dX4_sortGuesses_58 : decode cX4_sortGuesses 58 = .ok (.iload_n 3, 1) := by decide +kernel
theorem dX4_sortGuesses_59 : decode cX4_sortGuesses 59 = .ok (.invokevirtual 254, 3) := by decide +kernel
theorem dX4_sortGuesses_62 : decode cX4_sortGuesses 62 = .ok (.ifCond .eq 28, 3) := by decide +kernel
theorem dX4_sortGuesses_65 : decode cX4_sortGuesses 65 = .ok (.iload 4, 2) := by decide +kernel
theorem dX4_sortGuesses_67 : decode cX4_sortGuesses 67 = .ok (.iconst 0, 1) := by decide +kernel
theorem dX4_sortGuesses_68 : decode cX4_sortGuesses 68 = .ok (.bipush 23, 2) := by decide +kernel
theorem dX4_sortGuesses_70 : decode cX4_sortGuesses 70 = .ok (.invokestatic 48, 3) := by decide +kernel
theorem dX4_sortGuesses_73 : decode cX4_sortGuesses 73 = .ok (.ifCond .eq 17, 3) := by decide +kernel
theorem dX4_sortGuesses_76 : decode cX4_sortGuesses 76 = .ok (.aload_n 0, 1) := by decide +kernel
theorem dX4_sortGuesses_77 : decode cX4_sortGuesses 77 = .ok (.getfield 34, 3) := by decide +kernel
theorem dX4_sortGuesses_80 : decode cX4_sortGuesses 80 = .ok (.iload 4, 2) := by decide +kernel
theorem dX4_sortGuesses_82 : decode cX4_sortGuesses 82 = .ok (.dup2, 1) := by decide +kernel
theorem dX4_sortGuesses_83 : decode cX4_sortGuesses 83 = .ok (.iaload, 1) := by decide +kernel
theorem dX4_sortGuesses_84 : decode cX4_sortGuesses 84 = .ok (.iconst 1, 1) := by decide +kernel
theorem dX4_sortGuesses_85 : decode cX4_sortGuesses 85 = .ok (.iadd, 1) := by decide +kernel
theorem dX4_sortGuesses_86 : decode cX4_sortGuesses 86 = .ok (.iastore, 1) := by decide +kernel
theorem dX4_sortGuesses_87 : decode cX4_sortGuesses 87 = .ok (.iinc 2 1, 3) := by decide +kernel
theorem dX4_sortGuesses_90 : decode cX4_sortGuesses 90 = .ok (.iinc 3 1, 3) := by decide +kernel
theorem dX4_sortGuesses_93 : decode cX4_sortGuesses 93 = .ok (.goto (-68), 3) := by decide +kernel
theorem dX4_sortGuesses_96 : decode cX4_sortGuesses 96 = .ok (.iload_n 2, 1) := by decide +kernel
theorem dX4_sortGuesses_97 : decode cX4_sortGuesses 97 = .ok (.ireturn, 1) := by decide +kernel
theorem dX4_asSaying_0 : decode cX4_asSaying 0 = .ok (.aload_n 0, 1) := by decide +kernel
theorem dX4_asSaying_1 : decode cX4_asSaying 1 = .ok (.dup, 1) := by decide +kernel
theorem dX4_asSaying_2 : decode cX4_asSaying 2 = .ok (.getfield 250, 3) := by decide +kernel
theorem dX4_asSaying_5 : decode cX4_asSaying 5 = .ok (.lconst 1, 1) := by decide +kernel
theorem dX4_asSaying_6 : decode cX4_asSaying 6 = .ok (.ladd, 1) := by decide +kernel
theorem dX4_asSaying_7 : decode cX4_asSaying 7 = .ok (.putfield 250, 3) := by decide +kernel
theorem dX4_asSaying_10 : decode cX4_asSaying 10 = .ok (.aload_n 0, 1) := by decide +kernel
theorem dX4_asSaying_11 : decode cX4_asSaying 11 = .ok (.getfield 41, 3) := by decide +kernel
theorem dX4_asSaying_14 : decode cX4_asSaying 14 = .ok (.getfield 68, 3) := by decide +kernel
theorem dX4_asSaying_17 : decode cX4_asSaying 17 = .ok (.getfield 81, 3) := by decide +kernel
theorem dX4_asSaying_20 : decode cX4_asSaying 20 = .ok (.iload_n 1, 1) := by decide +kernel
theorem dX4_asSaying_21 : decode cX4_asSaying 21 = .ok (.iaload, 1) := by decide +kernel
theorem dX4_asSaying_22 : decode cX4_asSaying 22 = .ok (.ireturn, 1) := by decide +kernel
set_option maxRecDepth 20000 in
theorem ggX4_asVow_X4_asSaying : GoodIn wsX4_asVow wsX4_asSaying := goodIn_r _ [8, 1, 3, 9, 10, 45, 46, 47, 48, 49, 50, 51, 52, 53, 54, 55, 56, 57, 58, 59, 60, 61, 62, 63, 64, 65, 66, 67, 68] (by decide +kernel) (by decide +kernel)
set_option maxRecDepth 20000 in
theorem gX4_asVow_X4_asSaying : GoodIn wsX4_asVow (wsV RX4 225 RX4 yX4_asSaying wsX4_asSaying) := goodIn_app (goodIn_of _ (by decide +kernel)) ggX4_asVow_X4_asSaying
set_option maxRecDepth 20000 in
theorem ggX4_asVow_X0_strengthAfter : GoodIn wsX4_asVow wsX0_strengthAfter := goodIn_r _ [15, 16, 17, 18, 19, 20, 21, 22, 23, 24, 25, 26, 14, 27, 28, 29, 30, 31, 32, 33, 34, 35, 36, 37, 38, 39, 40, 41, 42, 43, 44, 53, 54, 55, 56, 57, 58, 59, 60, 61, 62, 63, 64, 65, 66, 67, 68] (by decide +kernel) (by decide +kernel)
set_option maxRecDepth 20000 in
theorem gX4_asVow_X0_strengthAfter : GoodIn wsX4_asVow (wsV RX4 91 RX0 yX0_strengthAfter wsX0_strengthAfter) := goodIn_app (goodIn_of _ (by decide +kernel)) ggX4_asVow_X0_strengthAfter
theorem dX4_asVow_0 : decode cX4_asVow 0 = .ok (.aload_n 0, 1) := by decide +kernel
theorem dX4_asVow_1 : decode cX4_asVow 1 = .ok (.dup, 1) := by decide +kernel
theorem dX4_asVow_2 : decode cX4_asVow 2 = .ok (.getfield 250, 3) := by decide +kernel
theorem dX4_asVow_5 : decode cX4_asVow 5 = .ok (.ldc2_w 271, 3) := by decide +kernel
theorem dX4_asVow_8 : decode cX4_asVow 8 = .ok (.ladd, 1) := by decide +kernel
theorem dX4_asVow_9 : decode cX4_asVow 9 = .ok (.putfield 250, 3) := by decide +kernel
theorem dX4_asVow_12 : decode cX4_asVow 12 = .ok (.aload_n 0, 1) := by decide +kernel
theorem dX4_asVow_13 : decode cX4_asVow 13 = .ok (.iload_n 1, 1) := by decide +kernel
theorem dX4_asVow_14 : decode cX4_asVow 14 = .ok (.invokevirtual 225, 3) := by decide +kernel
theorem dX4_asVow_17 : decode cX4_asVow 17 = .ok (.aload_n 0, 1) := by decide +kernel
theorem dX4_asVow_18 : decode cX4_asVow 18 = .ok (.getfield 41, 3) := by decide +kernel
theorem dX4_asVow_21 : decode cX4_asVow 21 = .ok (.iload_n 1, 1) := by decide +kernel
theorem dX4_asVow_22 : decode cX4_asVow 22 = .ok (.iconst 0, 1) := by decide +kernel
theorem dX4_asVow_23 : decode cX4_asVow 23 = .ok (.invokevirtual 91, 3) := by decide +kernel
theorem dX4_asVow_26 : decode cX4_asVow 26 = .ok (.iadd, 1) := by decide +kernel
theorem dX4_asVow_27 : decode cX4_asVow 27 = .ok (.ireturn, 1) := by decide +kernel
set_option maxRecDepth 20000 in
theorem ggX4_asRumour_X4_asSaying : GoodIn wsX4_asRumour wsX4_asSaying := goodIn_r _ [10, 1, 3, 4, 11, 12, 13, 14, 15, 16, 17, 18, 19, 20, 21, 22, 23, 24, 25, 26, 27, 28, 29, 30, 31, 32, 33, 34, 35] (by decide +kernel) (by decide +kernel)
set_option maxRecDepth 20000 in
theorem gX4_asRumour_X4_asSaying : GoodIn wsX4_asRumour (wsV RX4 225 RX4 yX4_asSaying wsX4_asSaying) := goodIn_app (goodIn_of _ (by decide +kernel)) ggX4_asRumour_X4_asSaying
theorem dX4_asRumour_0 : decode cX4_asRumour 0 = .ok (.aload_n 0, 1) := by decide +kernel
theorem dX4_asRumour_1 : decode cX4_asRumour 1 = .ok (.dup, 1) := by decide +kernel
theorem dX4_asRumour_2 : decode cX4_asRumour 2 = .ok (.getfield 250, 3) := by decide +kernel
theorem dX4_asRumour_5 : decode cX4_asRumour 5 = .ok (.ldc2_w 273, 3) := by decide +kernel
theorem dX4_asRumour_8 : decode cX4_asRumour 8 = .ok (.ladd, 1) := by decide +kernel
theorem dX4_asRumour_9 : decode cX4_asRumour 9 = .ok (.putfield 250, 3) := by decide +kernel
theorem dX4_asRumour_12 : decode cX4_asRumour 12 = .ok (.aload_n 0, 1) := by decide +kernel
theorem dX4_asRumour_13 : decode cX4_asRumour 13 = .ok (.iload_n 1, 1) := by decide +kernel
theorem dX4_asRumour_14 : decode cX4_asRumour 14 = .ok (.invokevirtual 225, 3) := by decide +kernel
theorem dX4_asRumour_17 : decode cX4_asRumour 17 = .ok (.aload_n 0, 1) := by decide +kernel
theorem dX4_asRumour_18 : decode cX4_asRumour 18 = .ok (.getfield 41, 3) := by decide +kernel
theorem dX4_asRumour_21 : decode cX4_asRumour 21 = .ok (.getfield 68, 3) := by decide +kernel
theorem dX4_asRumour_24 : decode cX4_asRumour 24 = .ok (.getfield 75, 3) := by decide +kernel
theorem dX4_asRumour_27 : decode cX4_asRumour 27 = .ok (.iload_n 1, 1) := by decide +kernel
theorem dX4_asRumour_28 : decode cX4_asRumour 28 = .ok (.iaload, 1) := by decide +kernel
theorem dX4_asRumour_29 : decode cX4_asRumour 29 = .ok (.isub, 1) := by decide +kernel
theorem dX4_asRumour_30 : decode cX4_asRumour 30 = .ok (.ireturn, 1) := by decide +kernel
set_option maxRecDepth 20000 in
theorem ggX4_asCurse_X4_asVow : GoodIn wsX4_asCurse wsX4_asVow := goodIn_r _ [7, 1, 8, 9, 10, 11, 12, 6, 13, 14, 15, 16, 17, 18, 19, 20, 21, 22, 23, 24, 25, 26, 27, 28, 29, 30, 31, 32, 33, 34, 35, 36, 37, 38, 39, 40, 41, 42, 43, 44, 45, 46, 47, 48, 49, 50, 51, 52, 53, 54, 55, 56, 57, 58, 59, 60, 61, 62, 63, 64, 65, 66, 67, 68, 69, 70, 71, 72, 73] (by decide +kernel) (by decide +kernel)
set_option maxRecDepth 20000 in
theorem gX4_asCurse_X4_asVow : GoodIn wsX4_asCurse (wsV RX4 228 RX4 yX4_asVow wsX4_asVow) := goodIn_app (goodIn_of _ (by decide +kernel)) ggX4_asCurse_X4_asVow
theorem dX4_asCurse_0 : decode cX4_asCurse 0 = .ok (.aload_n 0, 1) := by decide +kernel
theorem dX4_asCurse_1 : decode cX4_asCurse 1 = .ok (.dup, 1) := by decide +kernel
theorem dX4_asCurse_2 : decode cX4_asCurse 2 = .ok (.getfield 250, 3) := by decide +kernel
theorem dX4_asCurse_5 : decode cX4_asCurse 5 = .ok (.ldc2_w 275, 3) := by decide +kernel
theorem dX4_asCurse_8 : decode cX4_asCurse 8 = .ok (.ladd, 1) := by decide +kernel
theorem dX4_asCurse_9 : decode cX4_asCurse 9 = .ok (.putfield 250, 3) := by decide +kernel
theorem dX4_asCurse_12 : decode cX4_asCurse 12 = .ok (.aload_n 0, 1) := by decide +kernel
theorem dX4_asCurse_13 : decode cX4_asCurse 13 = .ok (.iload_n 1, 1) := by decide +kernel
theorem dX4_asCurse_14 : decode cX4_asCurse 14 = .ok (.invokevirtual 228, 3) := by decide +kernel
theorem dX4_asCurse_17 : decode cX4_asCurse 17 = .ok (.iconst 2, 1) := by decide +kernel
theorem dX4_asCurse_18 : decode cX4_asCurse 18 = .ok (.imul, 1) := by decide +kernel
theorem dX4_asCurse_19 : decode cX4_asCurse 19 = .ok (.ireturn, 1) := by decide +kernel
set_option maxRecDepth 20000 in
theorem ggX4_asLie_X4_asRumour : GoodIn wsX4_asLie wsX4_asRumour := goodIn_r _ [7, 1, 8, 9, 10, 11, 12, 13, 14, 6, 15, 16, 17, 18, 19, 20, 21, 22, 23, 24, 25, 26, 27, 28, 29, 30, 31, 32, 33, 34, 35, 36, 37, 38, 39, 40] (by decide +kernel) (by decide +kernel)
set_option maxRecDepth 20000 in
theorem gX4_asLie_X4_asRumour : GoodIn wsX4_asLie (wsV RX4 231 RX4 yX4_asRumour wsX4_asRumour) := goodIn_app (goodIn_of _ (by decide +kernel)) ggX4_asLie_X4_asRumour
theorem dX4_asLie_0 : decode cX4_asLie 0 = .ok (.aload_n 0, 1) := by decide +kernel
theorem dX4_asLie_1 : decode cX4_asLie 1 = .ok (.dup, 1) := by decide +kernel
theorem dX4_asLie_2 : decode cX4_asLie 2 = .ok (.getfield 250, 3) := by decide +kernel
theorem dX4_asLie_5 : decode cX4_asLie 5 = .ok (.ldc2_w 277, 3) := by decide +kernel
theorem dX4_asLie_8 : decode cX4_asLie 8 = .ok (.ladd, 1) := by decide +kernel
theorem dX4_asLie_9 : decode cX4_asLie 9 = .ok (.putfield 250, 3) := by decide +kernel
theorem dX4_asLie_12 : decode cX4_asLie 12 = .ok (.aload_n 0, 1) := by decide +kernel
theorem dX4_asLie_13 : decode cX4_asLie 13 = .ok (.iload_n 1, 1) := by decide +kernel
theorem dX4_asLie_14 : decode cX4_asLie 14 = .ok (.invokevirtual 231, 3) := by decide +kernel
theorem dX4_asLie_17 : decode cX4_asLie 17 = .ok (.iload_n 1, 1) := by decide +kernel
theorem dX4_asLie_18 : decode cX4_asLie 18 = .ok (.iadd, 1) := by decide +kernel
theorem dX4_asLie_19 : decode cX4_asLie 19 = .ok (.ireturn, 1) := by decide +kernel
set_option maxRecDepth 20000 in
theorem ggX4_asHymn_X4_asSaying : GoodIn wsX4_asHymn wsX4_asSaying := goodIn_r _ [8, 1, 3, 9, 10, 35, 36, 37, 38, 39, 40, 41, 42, 43, 44, 45, 46, 47, 48, 49, 50, 51, 52, 53, 54, 55, 56, 57, 58] (by decide +kernel) (by decide +kernel)
set_option maxRecDepth 20000 in
theorem gX4_asHymn_X4_asSaying : GoodIn wsX4_asHymn (wsV RX4 225 RX4 yX4_asSaying wsX4_asSaying) := goodIn_app (goodIn_of _ (by decide +kernel)) ggX4_asHymn_X4_asSaying
set_option maxRecDepth 20000 in
theorem ggX4_asHymn_X0_placeAfter : GoodIn wsX4_asHymn wsX0_placeAfter := goodIn_r _ [15, 16, 17, 18, 19, 20, 21, 14, 22, 23, 24, 25, 26, 27, 28, 29, 30, 31, 32, 33, 34, 43, 44, 45, 46, 47, 48, 49, 50, 51, 52, 53, 54, 55, 56, 57, 58] (by decide +kernel) (by decide +kernel)
set_option maxRecDepth 20000 in
theorem gX4_asHymn_X0_placeAfter : GoodIn wsX4_asHymn (wsV RX4 84 RX0 yX0_placeAfter wsX0_placeAfter) := goodIn_app (goodIn_of _ (by decide +kernel)) ggX4_asHymn_X0_placeAfter
theorem dX4_asHymn_0 : decode cX4_asHymn 0 = .ok (.aload_n 0, 1) := by decide +kernel
theorem dX4_asHymn_1 : decode cX4_asHymn 1 = .ok (.dup, 1) := by decide +kernel
theorem dX4_asHymn_2 : decode cX4_asHymn 2 = .ok (.getfield 250, 3) := by decide +kernel
theorem dX4_asHymn_5 : decode cX4_asHymn 5 = .ok (.ldc2_w 279, 3) := by decide +kernel
theorem dX4_asHymn_8 : decode cX4_asHymn 8 = .ok (.ladd, 1) := by decide +kernel
theorem dX4_asHymn_9 : decode cX4_asHymn 9 = .ok (.putfield 250, 3) := by decide +kernel
theorem dX4_asHymn_12 : decode cX4_asHymn 12 = .ok (.aload_n 0, 1) := by decide +kernel
theorem dX4_asHymn_13 : decode cX4_asHymn 13 = .ok (.iload_n 1, 1) := by decide +kernel
theorem dX4_asHymn_14 : decode cX4_asHymn 14 = .ok (.invokevirtual 225, 3) := by decide +kernel
theorem dX4_asHymn_17 : decode cX4_asHymn 17 = .ok (.aload_n 0, 1) := by decide +kernel
theorem dX4_asHymn_18 : decode cX4_asHymn 18 = .ok (.getfield 41, 3) := by decide +kernel
theorem dX4_asHymn_21 : decode cX4_asHymn 21 = .ok (.iload_n 1, 1) := by decide +kernel
theorem dX4_asHymn_22 : decode cX4_asHymn 22 = .ok (.iconst 0, 1) := by decide +kernel
theorem dX4_asHymn_23 : decode cX4_asHymn 23 = .ok (.invokevirtual 84, 3) := by decide +kernel
theorem dX4_asHymn_26 : decode cX4_asHymn 26 = .ok (.iadd, 1) := by decide +kernel
theorem dX4_asHymn_27 : decode cX4_asHymn 27 = .ok (.ireturn, 1) := by decide +kernel
theorem dX5_init_0 : decode cX5_init 0 = .ok (.aload_n 0, 1) := by decide +kernel
theorem dX5_init_1 : decode cX5_init 1 = .ok (.invokespecial 1, 3) := by decide +kernel
theorem dX5_init_4 : decode cX5_init 4 = .ok (.aload_n 0, 1) := by decide +kernel
theorem dX5_init_5 : decode cX5_init 5 = .ok (.bipush 120, 2) := by decide +kernel
theorem dX5_init_7 : decode cX5_init 7 = .ok (.newarray .int, 2) := by decide +kernel
theorem dX5_init_9 : decode cX5_init 9 = .ok (.putfield 7, 3) := by decide +kernel
theorem dX5_init_12 : decode cX5_init 12 = .ok (.aload_n 0, 1) := by decide +kernel
theorem dX5_init_13 : decode cX5_init 13 = .ok (.bipush 12, 2) := by decide +kernel
theorem dX5_init_15 : decode cX5_init 15 = .ok (.putfield 13, 3) := by decide +kernel
theorem dX5_init_18 : decode cX5_init 18 = .ok (.aload_n 0, 1) := by decide +kernel
theorem dX5_init_19 : decode cX5_init 19 = .ok (.iconst 1, 1) := by decide +kernel
theorem dX5_init_20 : decode cX5_init 20 = .ok (.putfield 17, 3) := by decide +kernel
theorem dX5_init_23 : decode cX5_init 23 = .ok (.aload_n 0, 1) := by decide +kernel
theorem dX5_init_24 : decode cX5_init 24 = .ok (.bipush 50, 2) := by decide +kernel
theorem dX5_init_26 : decode cX5_init 26 = .ok (.newarray .int, 2) := by decide +kernel
theorem dX5_init_28 : decode cX5_init 28 = .ok (.putfield 20, 3) := by decide +kernel
theorem dX5_init_31 : decode cX5_init 31 = .ok (.aload_n 0, 1) := by decide +kernel
theorem dX5_init_32 : decode cX5_init 32 = .ok (.sipush 500, 3) := by decide +kernel
theorem dX5_init_35 : decode cX5_init 35 = .ok (.newarray .int, 2) := by decide +kernel
theorem dX5_init_37 : decode cX5_init 37 = .ok (.putfield 23, 3) := by decide +kernel
theorem dX5_init_40 : decode cX5_init 40 = .ok (.aload_n 0, 1) := by decide +kernel
theorem dX5_init_41 : decode cX5_init 41 = .ok (.sipush 1102, 3) := by decide +kernel
theorem dX5_init_44 : decode cX5_init 44 = .ok (.newarray .int, 2) := by decide +kernel
theorem dX5_init_46 : decode cX5_init 46 = .ok (.putfield 26, 3) := by decide +kernel
theorem dX5_init_49 : decode cX5_init 49 = .ok (.aload_n 0, 1) := by decide +kernel
theorem dX5_init_50 : decode cX5_init 50 = .ok (.iconst 2, 1) := by decide +kernel
theorem dX5_init_51 : decode cX5_init 51 = .ok (.newarray .boolean, 2) := by decide +kernel
theorem dX5_init_53 : decode cX5_init 53 = .ok (.putfield 29, 3) := by decide +kernel
theorem dX5_init_56 : decode cX5_init 56 = .ok (.aload_n 0, 1) := by decide +kernel
theorem dX5_init_57 : decode cX5_init 57 = .ok (.bipush 18, 2) := by decide +kernel
theorem dX5_init_59 : decode cX5_init 59 = .ok (.newarray .int, 2) := by decide +kernel
theorem dX5_init_61 : decode cX5_init 61 = .ok (.putfield 33, 3) := by decide +kernel
theorem dX5_init_64 : decode cX5_init 64 = .ok (.aload_n 0, 1) := by decide +kernel
theorem dX5_init_65 : decode cX5_init 65 = .ok (.bipush 50, 2) := by decide +kernel
theorem dX5_init_67 : decode cX5_init 67 = .ok (.newarray .int, 2) := by decide +kernel
theorem dX5_init_69 : decode cX5_init 69 = .ok (.putfield 36, 3) := by decide +kernel
theorem dX5_init_72 : decode cX5_init 72 = .ok (.return_, 1) := by decide +kernel
theorem dX5_in_0 : decode cX5_in 0 = .ok (.iload_n 0, 1) := by decide +kernel
theorem dX5_in_1 : decode cX5_in 1 = .ok (.iload_n 1, 1) := by decide +kernel
theorem dX5_in_2 : decode cX5_in 2 = .ok (.if_icmp .lt 12, 3) := by decide +kernel
theorem dX5_in_5 : decode cX5_in 5 = .ok (.iload_n 0, 1) := by decide +kernel
theorem dX5_in_6 : decode cX5_in 6 = .ok (.iload_n 2, 1) := by decide +kernel
theorem dX5_in_7 : decode cX5_in 7 = .ok (.if_icmp .gt 7, 3) := by decide +kernel
theorem dX5_in_10 : decode cX5_in 10 = .ok (.iconst 1, 1) := by decide +kernel
theorem dX5_in_11 : decode cX5_in 11 = .ok (.goto 4, 3) := by decide +kernel
theorem dX5_in_14 : decode cX5_in 14 = .ok (.iconst 0, 1) := by decide +kernel
theorem dX5_in_15 : decode cX5_in 15 = .ok (.ireturn, 1) := by decide +kernel
theorem dX5_has_0 : decode cX5_has 0 = .ok (.iload_n 0, 1) := by decide +kernel
theorem dX5_has_1 : decode cX5_has 1 = .ok (.iload_n 1, 1) := by decide +kernel
theorem dX5_has_2 : decode cX5_has 2 = .ok (.ishr, 1) := by decide +kernel
theorem dX5_has_3 : decode cX5_has 3 = .ok (.iconst 1, 1) := by decide +kernel
theorem dX5_has_4 : decode cX5_has 4 = .ok (.iand, 1) := by decide +kernel
theorem dX5_has_5 : decode cX5_has 5 = .ok (.iconst 1, 1) := by decide +kernel
theorem dX5_has_6 : decode cX5_has 6 = .ok (.if_icmp .ne 7, 3) := by decide +kernel
theorem dX5_has_9 : decode cX5_has 9 = .ok (.iconst 1, 1) := by decide +kernel
theorem dX5_has_10 : decode cX5_has 10 = .ok (.goto 4, 3) := by decide +kernel
theorem dX5_has_13 : decode cX5_has 13 = .ok (.iconst 0, 1) := by decide +kernel
theorem dX5_has_14 : decode cX5_has 14 = .ok (.ireturn, 1) := by decide +kernel
theorem dX5_bits_0 : decode cX5_bits 0 = .ok (.iconst 0, 1) := by decide +kernel
theorem dX5_bits_1 : decode cX5_bits 1 = .ok (.istore_n 1, 1) := by decide +kernel
theorem dX5_bits_2 : decode cX5_bits 2 = .ok (.iload_n 0, 1) := by decide +kernel
theorem dX5_bits_3 : decode cX5_bits 3 = .ok (.istore_n 2, 1) := by decide +kernel
theorem dX5_bits_4 : decode cX5_bits 4 = .ok (.iload_n 2, 1) := by decide +kernel
theorem dX5_bits_5 : decode cX5_bits 5 = .ok (.ifCond .eq 15, 3) := by decide +kernel
theorem dX5_bits_8 : decode cX5_bits 8 = .ok (.iinc 1 1, 3) := by decide +kernel
theorem dX5_bits_11 : decode cX5_bits 11 = .ok (.iload_n 2, 1) := by decide +kernel
theorem dX5_bits_12 : decode cX5_bits 12 = .ok (.iload_n 2, 1) := by decide +kernel
theorem dX5_bits_13 : decode cX5_bits 13 = .ok (.iconst 1, 1) := by decide +kernel
theorem dX5_bits_14 : decode cX5_bits 14 = .ok (.isub, 1) := by decide +kernel
theorem dX5_bits_15 : decode cX5_bits 15 = .ok (.iand, 1) := by decide +kernel
theorem dX5_bits_16 : decode cX5_bits 16 = .ok (.istore_n 2, 1) := by decide +kernel
theorem dX5_bits_17 : decode cX5_bits 17 = .ok (.goto (-13), 3) := by decide +kernel
theorem dX5_bits_20 : decode cX5_bits 20 = .ok (.iload_n 1, 1) := by decide +kernel
theorem dX5_bits_21 : decode cX5_bits 21 = .ok (.ireturn, 1) := by decide +kernel
theorem dX5_bring_0 : decode cX5_bring 0 = .ok (.iconst 0, 1) := by decide +kernel
theorem dX5_bring_1 : decode cX5_bring 1 = .ok (.istore 5, 2) := by decide +kernel
theorem dX5_bring_3 : decode cX5_bring 3 = .ok (.iload 5, 2) := by decide +kernel
theorem dX5_bring_5 : decode cX5_bring 5 = .ok (.iload 4, 2) := by decide +kernel
theorem dX5_bring_7 : decode cX5_bring 7 = .ok (.if_icmp .ge 21, 3) := by decide +kernel
theorem dX5_bring_10 : decode cX5_bring 10 = .ok (.aload_n 2, 1) := by decide +kernel
theorem dX5_bring_11 : decode cX5_bring 11 = .ok (.iload_n 3, 1) := by decide +kernel
theorem dX5_bring_12 : decode cX5_bring 12 = .ok (.iload 5, 2) := by decide +kernel
theorem dX5_bring_14 : decode cX5_bring 14 = .ok (.iadd, 1) := by decide +kernel
theorem dX5_bring_15 : decode cX5_bring 15 = .ok (.aload_n 0, 1) := by decide +kernel
theorem dX5_bring_16 : decode cX5_bring 16 = .ok (.iload_n 1, 1) := by decide +kernel
theorem dX5_bring_17 : decode cX5_bring 17 = .ok (.iload 5, 2) := by decide +kernel
theorem dX5_bring_19 : decode cX5_bring 19 = .ok (.iadd, 1) := by decide +kernel
theorem dX5_bring_20 : decode cX5_bring 20 = .ok (.iaload, 1) := by decide +kernel
theorem dX5_bring_21 : decode cX5_bring 21 = .ok (.iastore, 1) := by decide +kernel
theorem dX5_bring_22 : decode cX5_bring 22 = .ok (.iinc 5 1, 3) := by decide +kernel
theorem dX5_bring_25 : decode cX5_bring 25 = .ok (.goto (-22), 3) := by decide +kernel
theorem dX5_bring_28 : decode cX5_bring 28 = .ok (.return_, 1) := by decide +kernel
set_option maxRecDepth 20000 in
theorem ggX5_isSaying_X5_in : GoodIn wsX5_isSaying wsX5_in := goodIn_r _ [5] (by decide +kernel) (by decide +kernel)
set_option maxRecDepth 20000 in
theorem gX5_isSaying_X5_in : GoodIn wsX5_isSaying (va_wsS RX5 39 yX5_in wsX5_in) := goodIn_app (goodIn_of _ (by decide +kernel)) ggX5_isSaying_X5_in
theorem dX5_isSaying_0 : decode cX5_isSaying 0 = .ok (.iload_n 1, 1) := by decide +kernel
theorem dX5_isSaying_1 : decode cX5_isSaying 1 = .ok (.iconst 0, 1) := by decide +kernel
theorem dX5_isSaying_2 : decode cX5_isSaying 2 = .ok (.aload_n 0, 1) := by decide +kernel
theorem dX5_isSaying_3 : decode cX5_isSaying 3 = .ok (.getfield 20, 3) := by decide +kernel
theorem dX5_isSaying_6 : decode cX5_isSaying 6 = .ok (.iconst 1, 1) := by decide +kernel
theorem dX5_isSaying_7 : decode cX5_isSaying 7 = .ok (.iaload, 1) := by decide +kernel
theorem dX5_isSaying_8 : decode cX5_isSaying 8 = .ok (.iconst 1, 1) := by decide +kernel
theorem dX5_isSaying_9 : decode cX5_isSaying 9 = .ok (.isub, 1) := by decide +kernel
theorem dX5_isSaying_10 : decode cX5_isSaying 10 = .ok (.invokestatic 39, 3) := by decide +kernel
theorem dX5_isSaying_13 : decode cX5_isSaying 13 = .ok (.ireturn, 1) := by decide +kernel
set_option maxRecDepth 20000 in
theorem ggX5_isPlace_X5_in : GoodIn wsX5_isPlace wsX5_in := goodIn_r _ [5] (by decide +kernel) (by decide +kernel)
set_option maxRecDepth 20000 in
theorem gX5_isPlace_X5_in : GoodIn wsX5_isPlace (va_wsS RX5 39 yX5_in wsX5_in) := goodIn_app (goodIn_of _ (by decide +kernel)) ggX5_isPlace_X5_in
theorem dX5_isPlace_0 : decode cX5_isPlace 0 = .ok (.iload_n 1, 1) := by decide +kernel
theorem dX5_isPlace_1 : decode cX5_isPlace 1 = .ok (.iconst 0, 1) := by decide +kernel
theorem dX5_isPlace_2 : decode cX5_isPlace 2 = .ok (.aload_n 0, 1) := by decide +kernel
theorem dX5_isPlace_3 : decode cX5_isPlace 3 = .ok (.getfield 13, 3) := by decide +kernel
theorem dX5_isPlace_6 : decode cX5_isPlace 6 = .ok (.iconst 1, 1) := by decide +kernel
theorem dX5_isPlace_7 : decode cX5_isPlace 7 = .ok (.isub, 1) := by decide +kernel
theorem dX5_isPlace_8 : decode cX5_isPlace 8 = .ok (.invokestatic 39, 3) := by decide +kernel
theorem dX5_isPlace_11 : decode cX5_isPlace 11 = .ok (.ireturn, 1) := by decide +kernel
set_option maxRecDepth 20000 in
theorem ggX5_type_X5_in : GoodIn wsX5_type wsX5_in := goodIn_r _ [6] (by decide +kernel) (by decide +kernel)
set_option maxRecDepth 20000 in
theorem gX5_type_X5_in : GoodIn wsX5_type (va_wsS RX5 39 yX5_in wsX5_in) := goodIn_app (goodIn_of _ (by decide +kernel)) ggX5_type_X5_in
theorem dX5_type_0 : decode cX5_type 0 = .ok (.iload_n 1, 1) := by decide +kernel
theorem dX5_type_1 : decode cX5_type 1 = .ok (.iconst 0, 1) := by decide +kernel
theorem dX5_type_2 : decode cX5_type 2 = .ok (.sipush 255, 3) := by decide +kernel
theorem dX5_type_5 : decode cX5_type 5 = .ok (.invokestatic 39, 3) := by decide +kernel
theorem dX5_type_8 : decode cX5_type 8 = .ok (.ifCond .ne 5, 3) := by decide +kernel
theorem dX5_type_11 : decode cX5_type 11 = .ok (.iconst (-1), 1) := by decide +kernel
theorem dX5_type_12 : decode cX5_type 12 = .ok (.ireturn, 1) := by decide +kernel
theorem dX5_type_13 : decode cX5_type 13 = .ok (.aload_n 0, 1) := by decide +kernel
theorem dX5_type_14 : decode cX5_type 14 = .ok (.getfield 43, 3) := by decide +kernel
theorem dX5_type_17 : decode cX5_type 17 = .ok (.bipush 120, 2) := by decide +kernel
theorem dX5_type_19 : decode cX5_type 19 = .ok (.if_icmp .ne 6, 3) := by decide +kernel
theorem dX5_type_22 : decode cX5_type 22 = .ok (.bipush (-3), 2) := by decide +kernel
theorem dX5_type_24 : decode cX5_type 24 = .ok (.ireturn, 1) := by decide +kernel
theorem dX5_type_25 : decode cX5_type 25 = .ok (.aload_n 0, 1) := by decide +kernel
theorem dX5_type_26 : decode cX5_type 26 = .ok (.getfield 7, 3) := by decide +kernel
theorem dX5_type_29 : decode cX5_type 29 = .ok (.aload_n 0, 1) := by decide +kernel
theorem dX5_type_30 : decode cX5_type 30 = .ok (.getfield 43, 3) := by decide +kernel
theorem dX5_type_33 : decode cX5_type 33 = .ok (.iload_n 1, 1) := by decide +kernel
theorem dX5_type_34 : decode cX5_type 34 = .ok (.iastore, 1) := by decide +kernel
theorem dX5_type_35 : decode cX5_type 35 = .ok (.aload_n 0, 1) := by decide +kernel
theorem dX5_type_36 : decode cX5_type 36 = .ok (.dup, 1) := by decide +kernel
theorem dX5_type_37 : decode cX5_type 37 = .ok (.getfield 43, 3) := by decide +kernel
theorem dX5_type_40 : decode cX5_type 40 = .ok (.iconst 1, 1) := by decide +kernel
theorem dX5_type_41 : decode cX5_type 41 = .ok (.iadd, 1) := by decide +kernel
theorem dX5_type_42 : decode cX5_type 42 = .ok (.putfield 43, 3) := by decide +kernel
theorem dX5_type_45 : decode cX5_type 45 = .ok (.aload_n 0, 1) := by decide +kernel
theorem dX5_type_46 : decode cX5_type 46 = .ok (.getfield 43, 3) := by decide +kernel
theorem dX5_type_49 : decode cX5_type 49 = .ok (.ireturn, 1) := by decide +kernel
theorem dX5_clear_0 : decode cX5_clear 0 = .ok (.aload_n 0, 1) := by decide +kernel
theorem dX5_clear_1 : decode cX5_clear 1 = .ok (.getfield 43, 3) := by decide +kernel
theorem dX5_clear_4 : decode cX5_clear 4 = .ok (.istore_n 1, 1) := by decide +kernel
theorem dX5_clear_5 : decode cX5_clear 5 = .ok (.aload_n 0, 1) := by decide +kernel
theorem dX5_clear_6 : decode cX5_clear 6 = .ok (.iconst 0, 1) := by decide +kernel
theorem dX5_clear_7 : decode cX5_clear 7 = .ok (.putfield 43, 3) := by decide +kernel
theorem dX5_clear_10 : decode cX5_clear 10 = .ok (.iload_n 1, 1) := by decide +kernel
theorem dX5_clear_11 : decode cX5_clear 11 = .ok (.ireturn, 1) := by decide +kernel
theorem dX5_here_0 : decode cX5_here 0 = .ok (.aload_n 0, 1) := by decide +kernel
theorem dX5_here_1 : decode cX5_here 1 = .ok (.getfield 46, 3) := by decide +kernel
theorem dX5_here_4 : decode cX5_here 4 = .ok (.aload_n 0, 1) := by decide +kernel
theorem dX5_here_5 : decode cX5_here 5 = .ok (.getfield 43, 3) := by decide +kernel
theorem dX5_here_8 : decode cX5_here 8 = .ok (.if_icmp .ge 15, 3) := by decide +kernel
theorem dX5_here_11 : decode cX5_here 11 = .ok (.aload_n 0, 1) := by decide +kernel
theorem dX5_here_12 : decode cX5_here 12 = .ok (.getfield 7, 3) := by decide +kernel
theorem dX5_here_15 : decode cX5_here 15 = .ok (.aload_n 0, 1) := by decide +kernel
theorem dX5_here_16 : decode cX5_here 16 = .ok (.getfield 46, 3) := by decide +kernel
theorem dX5_here_19 : decode cX5_here 19 = .ok (.iaload, 1) := by decide +kernel
theorem dX5_here_20 : decode cX5_here 20 = .ok (.goto 4, 3) := by decide +kernel
theorem dX5_here_23 : decode cX5_here 23 = .ok (.iconst (-1), 1) := by decide +kernel
theorem dX5_here_24 : decode cX5_here 24 = .ok (.ireturn, 1) := by decide +kernel
set_option maxRecDepth 20000 in
theorem ggX5_skips_X5_here : GoodIn wsX5_skips wsX5_here := goodIn_r _ [6, 1, 7, 8, 9, 10, 11, 12, 13, 14, 15, 16, 17, 18, 19, 20, 21, 22, 23, 24, 25, 26, 27, 28, 29] (by decide +kernel) (by decide +kernel)
set_option maxRecDepth 20000 in
theorem gX5_skips_X5_here : GoodIn wsX5_skips (wsV RX5 49 RX5 yX5_here wsX5_here) := goodIn_app (goodIn_of _ (by decide +kernel)) ggX5_skips_X5_here
theorem dX5_skips_0 : decode cX5_skips 0 = .ok (.aload_n 0, 1) := by decide +kernel
theorem dX5_skips_1 : decode cX5_skips 1 = .ok (.invokevirtual 49, 3) := by decide +kernel
theorem dX5_skips_4 : decode cX5_skips 4 = .ok (.bipush 32, 2) := by decide +kernel
theorem dX5_skips_6 : decode cX5_skips 6 = .ok (.if_icmp .ne 16, 3) := by decide +kernel
theorem dX5_skips_9 : decode cX5_skips 9 = .ok (.aload_n 0, 1) := by decide +kernel
theorem dX5_skips_10 : decode cX5_skips 10 = .ok (.dup, 1) := by decide +kernel
theorem dX5_skips_11 : decode cX5_skips 11 = .ok (.getfield 46, 3) := by decide +kernel
theorem dX5_skips_14 : decode cX5_skips 14 = .ok (.iconst 1, 1) := by decide +kernel
theorem dX5_skips_15 : decode cX5_skips 15 = .ok (.iadd, 1) := by decide +kernel
theorem dX5_skips_16 : decode cX5_skips 16 = .ok (.putfield 46, 3) := by decide +kernel
theorem dX5_skips_19 : decode cX5_skips 19 = .ok (.goto (-19), 3) := by decide +kernel
theorem dX5_skips_22 : decode cX5_skips 22 = .ok (.return_, 1) := by decide +kernel
set_option maxRecDepth 20000 in
theorem ggX5_number_X5_skips : GoodIn wsX5_number wsX5_skips := goodIn_r _ [9, 2, 10, 11, 12, 8, 13, 3, 4, 17, 18, 19, 20, 21, 22, 23, 24, 25, 26, 27, 28, 29, 30, 31, 32, 33, 34, 35, 36, 37] (by decide +kernel) (by decide +kernel)
set_option maxRecDepth 20000 in
theorem gX5_number_X5_skips : GoodIn wsX5_number (wsV RX5 56 RX5 yX5_skips wsX5_skips) := goodIn_app (goodIn_of _ (by decide +kernel)) ggX5_number_X5_skips
set_option maxRecDepth 20000 in
theorem ggX5_number_X5_in : GoodIn wsX5_number wsX5_in := goodIn_r _ [16] (by decide +kernel) (by decide +kernel)
set_option maxRecDepth 20000 in
theorem gX5_number_X5_in : GoodIn wsX5_number (va_wsS RX5 39 yX5_in wsX5_in) := goodIn_app (goodIn_of _ (by decide +kernel)) ggX5_number_X5_in
set_option maxRecDepth 20000 in
theorem ggX5_number_X5_here : GoodIn wsX5_number wsX5_here := goodIn_r _ [13, 2, 3, 4, 17, 18, 19, 20, 21, 22, 23, 24, 25, 26, 27, 28, 29, 30, 31, 32, 33, 34, 35, 36, 37] (by decide +kernel) (by decide +kernel)
set_option maxRecDepth 20000 in
theorem gX5_number_X5_here : GoodIn wsX5_number (wsV RX5 49 RX5 yX5_here wsX5_here) := goodIn_app (goodIn_of _ (by decide +kernel)) ggX5_number_X5_here
theorem dX5_number_0 : decode cX5_number 0 = .ok (.aload_n 0, 1) := by decide +kernel
theorem dX5_number_1 : decode cX5_number 1 = .ok (.getfield 53, 3) := by decide +kernel
theorem dX5_number_4 : decode cX5_number 4 = .ok (.ifCond .lt 5, 3) := by decide +kernel
theorem dX5_number_7 : decode cX5_number 7 = .ok (.iconst 0, 1) := by decide +kernel
theorem dX5_number_8 : decode cX5_number 8 = .ok (.ireturn, 1) := by decide +kernel
theorem dX5_number_9 : decode cX5_number 9 = .ok (.aload_n 0, 1) := by decide +kernel
theorem dX5_number_10 : decode cX5_number 10 = .ok (.invokevirtual 56, 3) := by decide +kernel
theorem dX5_number_13 : decode cX5_number 13 = .ok (.iconst 0, 1) := by decide +kernel
theorem dX5_number_14 : decode cX5_number 14 = .ok (.istore_n 3, 1) := by decide +kernel
theorem dX5_number_15 : decode cX5_number 15 = .ok (.iconst 0, 1) := by decide +kernel
theorem dX5_number_16 : decode cX5_number 16 = .ok (.istore 4, 2) := by decide +kernel
theorem dX5_number_18 : decode cX5_number 18 = .ok (.aload_n 0, 1) := by decide +kernel
theorem dX5_number_19 : decode cX5_number 19 = .ok (.getfield 46, 3) := by decide +kernel
theorem dX5_number_22 : decode cX5_number 22 = .ok (.iload_n 3, 1) := by decide +kernel
theorem dX5_number_23 : decode cX5_number 23 = .ok (.iadd, 1) := by decide +kernel
theorem dX5_number_24 : decode cX5_number 24 = .ok (.aload_n 0, 1) := by decide +kernel
theorem dX5_number_25 : decode cX5_number 25 = .ok (.getfield 43, 3) := by decide +kernel
theorem dX5_number_28 : decode cX5_number 28 = .ok (.if_icmp .ge 62, 3) := by decide +kernel
theorem dX5_number_31 : decode cX5_number 31 = .ok (.aload_n 0, 1) := by decide +kernel
theorem dX5_number_32 : decode cX5_number 32 = .ok (.getfield 7, 3) := by decide +kernel
theorem dX5_number_35 : decode cX5_number 35 = .ok (.aload_n 0, 1) := by decide +kernel
theorem dX5_number_36 : decode cX5_number 36 = .ok (.getfield 46, 3) := by decide +kernel
theorem dX5_number_39 : decode cX5_number 39 = .ok (.iload_n 3, 1) := by decide +kernel
theorem dX5_number_40 : decode cX5_number 40 = .ok (.iadd, 1) := by decide +kernel
theorem dX5_number_41 : decode cX5_number 41 = .ok (.iaload, 1) := by decide +kernel
theorem dX5_number_42 : decode cX5_number 42 = .ok (.bipush 48, 2) := by decide +kernel
theorem dX5_number_44 : decode cX5_number 44 = .ok (.bipush 57, 2) := by decide +kernel
theorem dX5_number_46 : decode cX5_number 46 = .ok (.invokestatic 39, 3) := by decide +kernel
theorem dX5_number_49 : decode cX5_number 49 = .ok (.ifCond .eq 41, 3) := by decide +kernel
theorem dX5_number_52 : decode cX5_number 52 = .ok (.iload_n 3, 1) := by decide +kernel
theorem dX5_number_53 : decode cX5_number 53 = .ok (.iconst 3, 1) := by decide +kernel
theorem dX5_number_54 : decode cX5_number 54 = .ok (.if_icmp .ge 26, 3) := by decide +kernel
theorem dX5_number_57 : decode cX5_number 57 = .ok (.bipush 10, 2) := by decide +kernel
theorem dX5_number_59 : decode cX5_number 59 = .ok (.iload 4, 2) := by decide +kernel
theorem dX5_number_61 : decode cX5_number 61 = .ok (.imul, 1) := by decide +kernel
theorem dX5_number_62 : decode cX5_number 62 = .ok (.aload_n 0, 1) := by decide +kernel
theorem dX5_number_63 : decode cX5_number 63 = .ok (.getfield 7, 3) := by decide +kernel
theorem dX5_number_66 : decode cX5_number 66 = .ok (.aload_n 0, 1) := by decide +kernel
theorem dX5_number_67 : decode cX5_number 67 = .ok (.getfield 46, 3) := by decide +kernel
theorem dX5_number_70 : decode cX5_number 70 = .ok (.iload_n 3, 1) := by decide +kernel
theorem dX5_number_71 : decode cX5_number 71 = .ok (.iadd, 1) := by decide +kernel
theorem dX5_number_72 : decode cX5_number 72 = .ok (.iaload, 1) := by decide +kernel
theorem dX5_number_73 : decode cX5_number 73 = .ok (.iadd, 1) := by decide +kernel
theorem dX5_number_74 : decode cX5_number 74 = .ok (.bipush 48, 2) := by decide +kernel
theorem dX5_number_76 : decode cX5_number 76 = .ok (.isub, 1) := by decide +kernel
theorem dX5_number_77 : decode cX5_number 77 = .ok (.goto 5, 3) := by decide +kernel
theorem dX5_number_80 : decode cX5_number 80 = .ok (.iload 4, 2) := by decide +kernel
theorem dX5_number_82 : decode cX5_number 82 = .ok (.istore 4, 2) := by decide +kernel
theorem dX5_number_84 : decode cX5_number 84 = .ok (.iinc 3 1, 3) := by decide +kernel
theorem dX5_number_87 : decode cX5_number 87 = .ok (.goto (-69), 3) := by decide +kernel
theorem dX5_number_90 : decode cX5_number 90 = .ok (.iload_n 3, 1) := by decide +kernel
theorem dX5_number_91 : decode cX5_number 91 = .ok (.iconst 1, 1) := by decide +kernel
theorem dX5_number_92 : decode cX5_number 92 = .ok (.if_icmp .eq 17, 3) := by decide +kernel
theorem dX5_number_95 : decode cX5_number 95 = .ok (.iload_n 3, 1) := by decide +kernel
theorem dX5_number_96 : decode cX5_number 96 = .ok (.iconst 2, 1) := by decide +kernel
theorem dX5_number_97 : decode cX5_number 97 = .ok (.if_icmp .ne 16, 3) := by decide +kernel
theorem dX5_number_100 : decode cX5_number 100 = .ok (.aload_n 0, 1) := by decide +kernel
theorem dX5_number_101 : decode cX5_number 101 = .ok (.invokevirtual 49, 3) := by decide +kernel
theorem dX5_number_104 : decode cX5_number 104 = .ok (.bipush 48, 2) := by decide +kernel
theorem dX5_number_106 : decode cX5_number 106 = .ok (.if_icmp .eq 7, 3) := by decide +kernel
theorem dX5_number_109 : decode cX5_number 109 = .ok (.iconst 1, 1) := by decide +kernel
theorem dX5_number_110 : decode cX5_number 110 = .ok (.goto 4, 3) := by decide +kernel
theorem dX5_number_113 : decode cX5_number 113 = .ok (.iconst 0, 1) := by decide +kernel
theorem dX5_number_114 : decode cX5_number 114 = .ok (.istore 5, 2) := by decide +kernel
theorem dX5_number_116 : decode cX5_number 116 = .ok (.iload 5, 2) := by decide +kernel
theorem dX5_number_118 : decode cX5_number 118 = .ok (.ifCond .eq 13, 3) := by decide +kernel
theorem dX5_number_121 : decode cX5_number 121 = .ok (.iload 4, 2) := by decide +kernel
theorem dX5_number_123 : decode cX5_number 123 = .ok (.iload_n 1, 1) := by decide +kernel
theorem dX5_number_124 : decode cX5_number 124 = .ok (.iload_n 2, 1) := by decide +kernel
theorem dX5_number_125 : decode cX5_number 125 = .ok (.invokestatic 39, 3) := by decide +kernel
theorem dX5_number_128 : decode cX5_number 128 = .ok (.ifCond .ne 13, 3) := by decide +kernel
theorem dX5_number_131 : decode cX5_number 131 = .ok (.aload_n 0, 1) := by decide +kernel
theorem dX5_number_132 : decode cX5_number 132 = .ok (.aload_n 0, 1) := by decide +kernel
theorem dX5_number_133 : decode cX5_number 133 = .ok (.getfield 46, 3) := by decide +kernel
theorem dX5_number_136 : decode cX5_number 136 = .ok (.putfield 53, 3) := by decide +kernel
theorem dX5_number_139 : decode cX5_number 139 = .ok (.iconst 0, 1) := by decide +kernel
theorem dX5_number_140 : decode cX5_number 140 = .ok (.ireturn, 1) := by decide +kernel
theorem dX5_number_141 : decode cX5_number 141 = .ok (.aload_n 0, 1) := by decide +kernel
theorem dX5_number_142 : decode cX5_number 142 = .ok (.dup, 1) := by decide +kernel
theorem dX5_number_143 : decode cX5_number 143 = .ok (.getfield 46, 3) := by decide +kernel
theorem dX5_number_146 : decode cX5_number 146 = .ok (.iload_n 3, 1) := by decide +kernel
theorem dX5_number_147 : decode cX5_number 147 = .ok (.iadd, 1) := by decide +kernel
theorem dX5_number_148 : decode cX5_number 148 = .ok (.putfield 46, 3) := by decide +kernel
theorem dX5_number_151 : decode cX5_number 151 = .ok (.iload 4, 2) := by decide +kernel
theorem dX5_number_153 : decode cX5_number 153 = .ok (.ireturn, 1) := by decide +kernel
set_option maxRecDepth 20000 in
theorem ggX5_ends_X5_skips : GoodIn wsX5_ends wsX5_skips := goodIn_r _ [8, 2, 9, 10, 11, 7, 12, 13, 14, 15, 16, 17, 18, 19, 20, 21, 22, 23, 24, 25, 26, 27, 28, 29, 30, 31, 32, 33, 34, 35] (by decide +kernel) (by decide +kernel)
set_option maxRecDepth 20000 in
theorem gX5_ends_X5_skips : GoodIn wsX5_ends (wsV RX5 56 RX5 yX5_skips wsX5_skips) := goodIn_app (goodIn_of _ (by decide +kernel)) ggX5_ends_X5_skips
set_option maxRecDepth 20000 in
theorem ggX5_ends_X5_here : GoodIn wsX5_ends wsX5_here := goodIn_r _ [12, 2, 13, 14, 15, 16, 17, 18, 19, 20, 21, 22, 23, 24, 25, 26, 27, 28, 29, 30, 31, 32, 33, 34, 35] (by decide +kernel) (by decide +kernel)
set_option maxRecDepth 20000 in
theorem gX5_ends_X5_here : GoodIn wsX5_ends (wsV RX5 49 RX5 yX5_here wsX5_here) := goodIn_app (goodIn_of _ (by decide +kernel)) ggX5_ends_X5_here
theorem dX5_ends_0 : decode cX5_ends 0 = .ok (.aload_n 0, 1) := by decide +kernel
theorem dX5_ends_1 : decode cX5_ends 1 = .ok (.getfield 53, 3) := by decide +kernel
theorem dX5_ends_4 : decode cX5_ends 4 = .ok (.ifCond .lt 4, 3) := by decide +kernel
theorem dX5_ends_7 : decode cX5_ends 7 = .ok (.return_, 1) := by decide +kernel
theorem dX5_ends_8 : decode cX5_ends 8 = .ok (.aload_n 0, 1) := by decide +kernel
theorem dX5_ends_9 : decode cX5_ends 9 = .ok (.invokevirtual 56, 3) := by decide +kernel
theorem dX5_ends_12 : decode cX5_ends 12 = .ok (.aload_n 0, 1) := by decide +kernel
theorem dX5_ends_13 : decode cX5_ends 13 = .ok (.invokevirtual 49, 3) := by decide +kernel
theorem dX5_ends_16 : decode cX5_ends 16 = .ok (.bipush 59, 2) := by decide +kernel
theorem dX5_ends_18 : decode cX5_ends 18 = .ok (.if_icmp .ne 26, 3) := by decide +kernel
theorem dX5_ends_21 : decode cX5_ends 21 = .ok (.aload_n 0, 1) := by decide +kernel
theorem dX5_ends_22 : decode cX5_ends 22 = .ok (.dup, 1) := by decide +kernel
theorem dX5_ends_23 : decode cX5_ends 23 = .ok (.getfield 46, 3) := by decide +kernel
theorem dX5_ends_26 : decode cX5_ends 26 = .ok (.iconst 1, 1) := by decide +kernel
theorem dX5_ends_27 : decode cX5_ends 27 = .ok (.iadd, 1) := by decide +kernel
theorem dX5_ends_28 : decode cX5_ends 28 = .ok (.putfield 46, 3) := by decide +kernel
theorem dX5_ends_31 : decode cX5_ends 31 = .ok (.aload_n 0, 1) := by decide +kernel
theorem dX5_ends_32 : decode cX5_ends 32 = .ok (.dup, 1) := by decide +kernel
theorem dX5_ends_33 : decode cX5_ends 33 = .ok (.getfield 59, 3) := by decide +kernel
theorem dX5_ends_36 : decode cX5_ends 36 = .ok (.iconst 1, 1) := by decide +kernel
theorem dX5_ends_37 : decode cX5_ends 37 = .ok (.iadd, 1) := by decide +kernel
theorem dX5_ends_38 : decode cX5_ends 38 = .ok (.putfield 59, 3) := by decide +kernel
theorem dX5_ends_41 : decode cX5_ends 41 = .ok (.goto 11, 3) := by decide +kernel
theorem dX5_ends_44 : decode cX5_ends 44 = .ok (.aload_n 0, 1) := by decide +kernel
theorem dX5_ends_45 : decode cX5_ends 45 = .ok (.aload_n 0, 1) := by decide +kernel
theorem dX5_ends_46 : decode cX5_ends 46 = .ok (.getfield 46, 3) := by decide +kernel
theorem dX5_ends_49 : decode cX5_ends 49 = .ok (.putfield 53, 3) := by decide +kernel
theorem dX5_ends_52 : decode cX5_ends 52 = .ok (.return_, 1) := by decide +kernel
set_option maxRecDepth 20000 in
theorem ggX5_readSaying_X5_number : GoodIn wsX5_readSaying wsX5_number := goodIn_r _ [7, 8, 9, 10, 11, 12, 13, 14, 6, 15, 16, 17, 18, 19, 20, 21, 22, 28, 29, 30, 31, 32, 33, 34, 35, 36, 37, 38, 39, 40, 41, 42, 43, 44, 45, 46, 47, 48] (by decide +kernel) (by decide +kernel)
set_option maxRecDepth 20000 in
theorem gX5_readSaying_X5_number : GoodIn wsX5_readSaying (wsV RX5 65 RX5 yX5_number wsX5_number) := goodIn_app (goodIn_of _ (by decide +kernel)) ggX5_readSaying_X5_number
set_option maxRecDepth 20000 in
theorem ggX5_readSaying_X5_ends : GoodIn wsX5_readSaying wsX5_ends := goodIn_r _ [26, 8, 9, 27, 12, 13, 14, 6, 15, 16, 17, 18, 19, 10, 11, 28, 29, 30, 31, 32, 33, 34, 35, 36, 37, 38, 39, 40, 41, 42, 43, 44, 45, 46, 47, 48] (by decide +kernel) (by decide +kernel)
set_option maxRecDepth 20000 in
theorem gX5_readSaying_X5_ends : GoodIn wsX5_readSaying (wsV RX5 69 RX5 yX5_ends wsX5_ends) := goodIn_app (goodIn_of _ (by decide +kernel)) ggX5_readSaying_X5_ends
theorem dX5_readSaying_0 : decode cX5_readSaying 0 = .ok (.aload_n 0, 1) := by decide +kernel
theorem dX5_readSaying_1 : decode cX5_readSaying 1 = .ok (.getfield 36, 3) := by decide +kernel
theorem dX5_readSaying_4 : decode cX5_readSaying 4 = .ok (.iconst 1, 1) := by decide +kernel
theorem dX5_readSaying_5 : decode cX5_readSaying 5 = .ok (.iaload, 1) := by decide +kernel
theorem dX5_readSaying_6 : decode cX5_readSaying 6 = .ok (.istore_n 1, 1) := by decide +kernel
theorem dX5_readSaying_7 : decode cX5_readSaying 7 = .ok (.aload_n 0, 1) := by decide +kernel
theorem dX5_readSaying_8 : decode cX5_readSaying 8 = .ok (.getfield 36, 3) := by decide +kernel
theorem dX5_readSaying_11 : decode cX5_readSaying 11 = .ok (.iconst 2, 1) := by decide +kernel
theorem dX5_readSaying_12 : decode cX5_readSaying 12 = .ok (.iload_n 1, 1) := by decide +kernel
theorem dX5_readSaying_13 : decode cX5_readSaying 13 = .ok (.iadd, 1) := by decide +kernel
theorem dX5_readSaying_14 : decode cX5_readSaying 14 = .ok (.aload_n 0, 1) := by decide +kernel
theorem dX5_readSaying_15 : decode cX5_readSaying 15 = .ok (.iconst 0, 1) := by decide +kernel
theorem dX5_readSaying_16 : decode cX5_readSaying 16 = .ok (.aload_n 0, 1) := by decide +kernel
theorem dX5_readSaying_17 : decode cX5_readSaying 17 = .ok (.getfield 62, 3) := by decide +kernel
theorem dX5_readSaying_20 : decode cX5_readSaying 20 = .ok (.iconst 1, 1) := by decide +kernel
theorem dX5_readSaying_21 : decode cX5_readSaying 21 = .ok (.isub, 1) := by decide +kernel
theorem dX5_readSaying_22 : decode cX5_readSaying 22 = .ok (.invokevirtual 65, 3) := by decide +kernel
theorem dX5_readSaying_25 : decode cX5_readSaying 25 = .ok (.iastore, 1) := by decide +kernel
theorem dX5_readSaying_26 : decode cX5_readSaying 26 = .ok (.aload_n 0, 1) := by decide +kernel
theorem dX5_readSaying_27 : decode cX5_readSaying 27 = .ok (.getfield 36, 3) := by decide +kernel
theorem dX5_readSaying_30 : decode cX5_readSaying 30 = .ok (.bipush 10, 2) := by decide +kernel
theorem dX5_readSaying_32 : decode cX5_readSaying 32 = .ok (.iload_n 1, 1) := by decide +kernel
theorem dX5_readSaying_33 : decode cX5_readSaying 33 = .ok (.iadd, 1) := by decide +kernel
theorem dX5_readSaying_34 : decode cX5_readSaying 34 = .ok (.aload_n 0, 1) := by decide +kernel
theorem dX5_readSaying_35 : decode cX5_readSaying 35 = .ok (.iconst 1, 1) := by decide +kernel
theorem dX5_readSaying_36 : decode cX5_readSaying 36 = .ok (.bipush 6, 2) := by decide +kernel
theorem dX5_readSaying_38 : decode cX5_readSaying 38 = .ok (.invokevirtual 65, 3) := by decide +kernel
theorem dX5_readSaying_41 : decode cX5_readSaying 41 = .ok (.iastore, 1) := by decide +kernel
theorem dX5_readSaying_42 : decode cX5_readSaying 42 = .ok (.aload_n 0, 1) := by decide +kernel
theorem dX5_readSaying_43 : decode cX5_readSaying 43 = .ok (.getfield 36, 3) := by decide +kernel
theorem dX5_readSaying_46 : decode cX5_readSaying 46 = .ok (.bipush 18, 2) := by decide +kernel
theorem dX5_readSaying_48 : decode cX5_readSaying 48 = .ok (.iload_n 1, 1) := by decide +kernel
theorem dX5_readSaying_49 : decode cX5_readSaying 49 = .ok (.iadd, 1) := by decide +kernel
theorem dX5_readSaying_50 : decode cX5_readSaying 50 = .ok (.aload_n 0, 1) := by decide +kernel
theorem dX5_readSaying_51 : decode cX5_readSaying 51 = .ok (.iconst 0, 1) := by decide +kernel
theorem dX5_readSaying_52 : decode cX5_readSaying 52 = .ok (.iconst 1, 1) := by decide +kernel
theorem dX5_readSaying_53 : decode cX5_readSaying 53 = .ok (.invokevirtual 65, 3) := by decide +kernel
theorem dX5_readSaying_56 : decode cX5_readSaying 56 = .ok (.iastore, 1) := by decide +kernel
theorem dX5_readSaying_57 : decode cX5_readSaying 57 = .ok (.aload_n 0, 1) := by decide +kernel
theorem dX5_readSaying_58 : decode cX5_readSaying 58 = .ok (.getfield 36, 3) := by decide +kernel
theorem dX5_readSaying_61 : decode cX5_readSaying 61 = .ok (.bipush 26, 2) := by decide +kernel
theorem dX5_readSaying_63 : decode cX5_readSaying 63 = .ok (.iload_n 1, 1) := by decide +kernel
theorem dX5_readSaying_64 : decode cX5_readSaying 64 = .ok (.iadd, 1) := by decide +kernel
theorem dX5_readSaying_65 : decode cX5_readSaying 65 = .ok (.aload_n 0, 1) := by decide +kernel
theorem dX5_readSaying_66 : decode cX5_readSaying 66 = .ok (.iconst 1, 1) := by decide +kernel
theorem dX5_readSaying_67 : decode cX5_readSaying 67 = .ok (.bipush 30, 2) := by decide +kernel
theorem dX5_readSaying_69 : decode cX5_readSaying 69 = .ok (.invokevirtual 65, 3) := by decide +kernel
theorem dX5_readSaying_72 : decode cX5_readSaying 72 = .ok (.iastore, 1) := by decide +kernel
theorem dX5_readSaying_73 : decode cX5_readSaying 73 = .ok (.aload_n 0, 1) := by decide +kernel
theorem dX5_readSaying_74 : decode cX5_readSaying 74 = .ok (.getfield 36, 3) := by decide +kernel
theorem dX5_readSaying_77 : decode cX5_readSaying 77 = .ok (.iconst 1, 1) := by decide +kernel
theorem dX5_readSaying_78 : decode cX5_readSaying 78 = .ok (.dup2, 1) := by decide +kernel
theorem dX5_readSaying_79 : decode cX5_readSaying 79 = .ok (.iaload, 1) := by decide +kernel
theorem dX5_readSaying_80 : decode cX5_readSaying 80 = .ok (.iconst 1, 1) := by decide +kernel
theorem dX5_readSaying_81 : decode cX5_readSaying 81 = .ok (.iadd, 1) := by decide +kernel
theorem dX5_readSaying_82 : decode cX5_readSaying 82 = .ok (.iastore, 1) := by decide +kernel
theorem dX5_readSaying_83 : decode cX5_readSaying 83 = .ok (.aload_n 0, 1) := by decide +kernel
theorem dX5_readSaying_84 : decode cX5_readSaying 84 = .ok (.invokevirtual 69, 3) := by decide +kernel
theorem dX5_readSaying_87 : decode cX5_readSaying 87 = .ok (.return_, 1) := by decide +kernel
set_option maxRecDepth 20000 in
theorem ggX5_readItem_X5_here : GoodIn wsX5_readItem wsX5_here := goodIn_r _ [15, 1, 2, 3, 35, 36, 37, 38, 39, 40, 41, 42, 43, 44, 45, 46, 47, 48, 49, 50, 51, 52, 53, 54, 55] (by decide +kernel) (by decide +kernel)
set_option maxRecDepth 20000 in
theorem gX5_readItem_X5_here : GoodIn wsX5_readItem (wsV RX5 49 RX5 yX5_here wsX5_here) := goodIn_app (goodIn_of _ (by decide +kernel)) ggX5_readItem_X5_here
set_option maxRecDepth 20000 in
theorem ggX5_readItem_X5_in : GoodIn wsX5_readItem wsX5_in := goodIn_r _ [18] (by decide +kernel) (by decide +kernel)
set_option maxRecDepth 20000 in
theorem gX5_readItem_X5_in : GoodIn wsX5_readItem (va_wsS RX5 39 yX5_in wsX5_in) := goodIn_app (goodIn_of _ (by decide +kernel)) ggX5_readItem_X5_in
set_option maxRecDepth 20000 in
theorem ggX5_readItem_X5_number : GoodIn wsX5_readItem wsX5_number := goodIn_r _ [22, 7, 1, 2, 3, 23, 24, 25, 14, 26, 11, 12, 13, 15, 16, 17, 18, 35, 36, 37, 38, 39, 40, 41, 42, 43, 44, 45, 46, 47, 48, 49, 50, 51, 52, 53, 54, 55] (by decide +kernel) (by decide +kernel)
set_option maxRecDepth 20000 in
theorem gX5_readItem_X5_number : GoodIn wsX5_readItem (wsV RX5 65 RX5 yX5_number wsX5_number) := goodIn_app (goodIn_of _ (by decide +kernel)) ggX5_readItem_X5_number
set_option maxRecDepth 20000 in
theorem ggX5_readItem_X5_ends : GoodIn wsX5_readItem wsX5_ends := goodIn_r _ [30, 7, 1, 4, 23, 24, 25, 14, 26, 11, 12, 13, 15, 2, 3, 35, 36, 37, 38, 39, 40, 41, 42, 43, 44, 45, 46, 47, 48, 49, 50, 51, 52, 53, 54, 55] (by decide +kernel) (by decide +kernel)
set_option maxRecDepth 20000 in
theorem gX5_readItem_X5_ends : GoodIn wsX5_readItem (wsV RX5 69 RX5 yX5_ends wsX5_ends) := goodIn_app (goodIn_of _ (by decide +kernel)) ggX5_readItem_X5_ends
set_option maxRecDepth 20000 in
theorem ggX5_readItem_X5_readSaying : GoodIn wsX5_readItem wsX5_readSaying := goodIn_r _ [34, 6, 8, 19, 20, 21, 14, 22, 7, 1, 2, 3, 23, 24, 25, 26, 11, 12, 13, 15, 16, 17, 18, 27, 28, 29, 30, 4, 35, 36, 37, 38, 39, 40, 41, 42, 43, 44, 45, 46, 47, 48, 49, 50, 51, 52, 53, 54, 55] (by decide +kernel) (by decide +kernel)
set_option maxRecDepth 20000 in
theorem gX5_readItem_X5_readSaying : GoodIn wsX5_readItem (wsV RX5 82 RX5 yX5_readSaying wsX5_readSaying) := goodIn_app (goodIn_of _ (by decide +kernel)) ggX5_readItem_X5_readSaying
theorem dX5_readItem_0 : decode cX5_readItem 0 = .ok (.aload_n 0, 1) := by decide +kernel
theorem dX5_readItem_1 : decode cX5_readItem 1 = .ok (.invokevirtual 49, 3) := by decide +kernel
theorem dX5_readItem_4 : decode cX5_readItem 4 = .ok (.istore_n 1, 1) := by decide +kernel
theorem dX5_readItem_5 : decode cX5_readItem 5 = .ok (.aload_n 0, 1) := by decide +kernel
theorem dX5_readItem_6 : decode cX5_readItem 6 = .ok (.getfield 46, 3) := by decide +kernel
theorem dX5_readItem_9 : decode cX5_readItem 9 = .ok (.iconst 1, 1) := by decide +kernel
theorem dX5_readItem_10 : decode cX5_readItem 10 = .ok (.iadd, 1) := by decide +kernel
theorem dX5_readItem_11 : decode cX5_readItem 11 = .ok (.aload_n 0, 1) := by decide +kernel
theorem dX5_readItem_12 : decode cX5_readItem 12 = .ok (.getfield 43, 3) := by decide +kernel
theorem dX5_readItem_15 : decode cX5_readItem 15 = .ok (.if_icmp .ge 24, 3) := by decide +kernel
theorem dX5_readItem_18 : decode cX5_readItem 18 = .ok (.aload_n 0, 1) := by decide +kernel
theorem dX5_readItem_19 : decode cX5_readItem 19 = .ok (.getfield 7, 3) := by decide +kernel
theorem dX5_readItem_22 : decode cX5_readItem 22 = .ok (.aload_n 0, 1) := by decide +kernel
theorem dX5_readItem_23 : decode cX5_readItem 23 = .ok (.getfield 46, 3) := by decide +kernel
theorem dX5_readItem_26 : decode cX5_readItem 26 = .ok (.iconst 1, 1) := by decide +kernel
theorem dX5_readItem_27 : decode cX5_readItem 27 = .ok (.iadd, 1) := by decide +kernel
theorem dX5_readItem_28 : decode cX5_readItem 28 = .ok (.iaload, 1) := by decide +kernel
theorem dX5_readItem_29 : decode cX5_readItem 29 = .ok (.bipush 97, 2) := by decide +kernel
theorem dX5_readItem_31 : decode cX5_readItem 31 = .ok (.bipush 122, 2) := by decide +kernel
theorem dX5_readItem_33 : decode cX5_readItem 33 = .ok (.invokestatic 39, 3) := by decide +kernel
theorem dX5_readItem_36 : decode cX5_readItem 36 = .ok (.ifCond .ne 7, 3) := by decide +kernel
theorem dX5_readItem_39 : decode cX5_readItem 39 = .ok (.iconst 1, 1) := by decide +kernel
theorem dX5_readItem_40 : decode cX5_readItem 40 = .ok (.goto 4, 3) := by decide +kernel
theorem dX5_readItem_43 : decode cX5_readItem 43 = .ok (.iconst 0, 1) := by decide +kernel
theorem dX5_readItem_44 : decode cX5_readItem 44 = .ok (.istore_n 2, 1) := by decide +kernel
theorem dX5_readItem_45 : decode cX5_readItem 45 = .ok (.iload_n 1, 1) := by decide +kernel
theorem dX5_readItem_46 : decode cX5_readItem 46 = .ok (.bipush 110, 2) := by decide +kernel
theorem dX5_readItem_48 : decode cX5_readItem 48 = .ok (.if_icmp .ne 10, 3) := by decide +kernel
theorem dX5_readItem_51 : decode cX5_readItem 51 = .ok (.aload_n 0, 1) := by decide +kernel
theorem dX5_readItem_52 : decode cX5_readItem 52 = .ok (.getfield 59, 3) := by decide +kernel
theorem dX5_readItem_55 : decode cX5_readItem 55 = .ok (.ifCond .eq 39, 3) := by decide +kernel
theorem dX5_readItem_58 : decode cX5_readItem 58 = .ok (.iload_n 1, 1) := by decide +kernel
theorem dX5_readItem_59 : decode cX5_readItem 59 = .ok (.bipush 108, 2) := by decide +kernel
theorem dX5_readItem_61 : decode cX5_readItem 61 = .ok (.if_icmp .ne 10, 3) := by decide +kernel
theorem dX5_readItem_64 : decode cX5_readItem 64 = .ok (.aload_n 0, 1) := by decide +kernel
theorem dX5_readItem_65 : decode cX5_readItem 65 = .ok (.getfield 72, 3) := by decide +kernel
theorem dX5_readItem_68 : decode cX5_readItem 68 = .ok (.ifCond .eq 26, 3) := by decide +kernel
theorem dX5_readItem_71 : decode cX5_readItem 71 = .ok (.iload_n 1, 1) := by decide +kernel
theorem dX5_readItem_72 : decode cX5_readItem 72 = .ok (.bipush 104, 2) := by decide +kernel
theorem dX5_readItem_74 : decode cX5_readItem 74 = .ok (.if_icmp .eq 20, 3) := by decide +kernel
theorem dX5_readItem_77 : decode cX5_readItem 77 = .ok (.iload_n 1, 1) := by decide +kernel
theorem dX5_readItem_78 : decode cX5_readItem 78 = .ok (.bipush 115, 2) := by decide +kernel
theorem dX5_readItem_80 : decode cX5_readItem 80 = .ok (.if_icmp .ne 18, 3) := by decide +kernel
theorem dX5_readItem_83 : decode cX5_readItem 83 = .ok (.aload_n 0, 1) := by decide +kernel
theorem dX5_readItem_84 : decode cX5_readItem 84 = .ok (.getfield 36, 3) := by decide +kernel
theorem dX5_readItem_87 : decode cX5_readItem 87 = .ok (.iconst 1, 1) := by decide +kernel
theorem dX5_readItem_88 : decode cX5_readItem 88 = .ok (.iaload, 1) := by decide +kernel
theorem dX5_readItem_89 : decode cX5_readItem 89 = .ok (.bipush 8, 2) := by decide +kernel
theorem dX5_readItem_91 : decode cX5_readItem 91 = .ok (.if_icmp .ge 7, 3) := by decide +kernel
theorem dX5_readItem_94 : decode cX5_readItem 94 = .ok (.iconst 1, 1) := by decide +kernel
theorem dX5_readItem_95 : decode cX5_readItem 95 = .ok (.goto 4, 3) := by decide +kernel
theorem dX5_readItem_98 : decode cX5_readItem 98 = .ok (.iconst 0, 1) := by decide +kernel
theorem dX5_readItem_99 : decode cX5_readItem 99 = .ok (.istore_n 3, 1) := by decide +kernel
theorem dX5_readItem_100 : decode cX5_readItem 100 = .ok (.iload_n 3, 1) := by decide +kernel
theorem dX5_readItem_101 : decode cX5_readItem 101 = .ok (.ifCond .eq 7, 3) := by decide +kernel
theorem dX5_readItem_104 : decode cX5_readItem 104 = .ok (.iload_n 2, 1) := by decide +kernel
theorem dX5_readItem_105 : decode cX5_readItem 105 = .ok (.ifCond .ne 12, 3) := by decide +kernel
theorem dX5_readItem_108 : decode cX5_readItem 108 = .ok (.aload_n 0, 1) := by decide +kernel
theorem dX5_readItem_109 : decode cX5_readItem 109 = .ok (.aload_n 0, 1) := by decide +kernel
theorem dX5_readItem_110 : decode cX5_readItem 110 = .ok (.getfield 46, 3) := by decide +kernel
theorem dX5_readItem_113 : decode cX5_readItem 113 = .ok (.putfield 53, 3) := by decide +kernel
theorem dX5_readItem_116 : decode cX5_readItem 116 = .ok (.return_, 1) := by decide +kernel
theorem dX5_readItem_117 : decode cX5_readItem 117 = .ok (.aload_n 0, 1) := by decide +kernel
theorem dX5_readItem_118 : decode cX5_readItem 118 = .ok (.dup, 1) := by decide +kernel
theorem dX5_readItem_119 : decode cX5_readItem 119 = .ok (.getfield 46, 3) := by decide +kernel
theorem dX5_readItem_122 : decode cX5_readItem 122 = .ok (.iconst 1, 1) := by decide +kernel
theorem dX5_readItem_123 : decode cX5_readItem 123 = .ok (.iadd, 1) := by decide +kernel
theorem dX5_readItem_124 : decode cX5_readItem 124 = .ok (.putfield 46, 3) := by decide +kernel
theorem dX5_readItem_127 : decode cX5_readItem 127 = .ok (.iload_n 1, 1) := by decide +kernel
theorem dX5_readItem_128 : decode cX5_readItem 128 = .ok (.bipush 110, 2) := by decide +kernel
theorem dX5_readItem_130 : decode cX5_readItem 130 = .ok (.if_icmp .ne 21, 3) := by decide +kernel
theorem dX5_readItem_133 : decode cX5_readItem 133 = .ok (.aload_n 0, 1) := by decide +kernel
theorem dX5_readItem_134 : decode cX5_readItem 134 = .ok (.aload_n 0, 1) := by decide +kernel
theorem dX5_readItem_135 : decode cX5_readItem 135 = .ok (.iconst 4, 1) := by decide +kernel
theorem dX5_readItem_136 : decode cX5_readItem 136 = .ok (.bipush 24, 2) := by decide +kernel
theorem dX5_readItem_138 : decode cX5_readItem 138 = .ok (.invokevirtual 65, 3) := by decide +kernel
theorem dX5_readItem_141 : decode cX5_readItem 141 = .ok (.putfield 62, 3) := by decide +kernel
theorem dX5_readItem_144 : decode cX5_readItem 144 = .ok (.aload_n 0, 1) := by decide +kernel
theorem dX5_readItem_145 : decode cX5_readItem 145 = .ok (.invokevirtual 69, 3) := by decide +kernel
theorem dX5_readItem_148 : decode cX5_readItem 148 = .ok (.goto 71, 3) := by decide +kernel
theorem dX5_readItem_151 : decode cX5_readItem 151 = .ok (.iload_n 1, 1) := by decide +kernel
theorem dX5_readItem_152 : decode cX5_readItem 152 = .ok (.bipush 108, 2) := by decide +kernel
theorem dX5_readItem_154 : decode cX5_readItem 154 = .ok (.if_icmp .ne 26, 3) := by decide +kernel
theorem dX5_readItem_157 : decode cX5_readItem 157 = .ok (.aload_n 0, 1) := by decide +kernel
theorem dX5_readItem_158 : decode cX5_readItem 158 = .ok (.iconst 1, 1) := by decide +kernel
theorem dX5_readItem_159 : decode cX5_readItem 159 = .ok (.putfield 72, 3) := by decide +kernel
theorem dX5_readItem_162 : decode cX5_readItem 162 = .ok (.aload_n 0, 1) := by decide +kernel
theorem dX5_readItem_163 : decode cX5_readItem 163 = .ok (.aload_n 0, 1) := by decide +kernel
theorem dX5_readItem_164 : decode cX5_readItem 164 = .ok (.iconst 1, 1) := by decide +kernel
theorem dX5_readItem_165 : decode cX5_readItem 165 = .ok (.bipush 9, 2) := by decide +kernel
theorem dX5_readItem_167 : decode cX5_readItem 167 = .ok (.invokevirtual 65, 3) := by decide +kernel
theorem dX5_readItem_170 : decode cX5_readItem 170 = .ok (.putfield 76, 3) := by decide +kernel
theorem dX5_readItem_173 : decode cX5_readItem 173 = .ok (.aload_n 0, 1) := by decide +kernel
theorem dX5_readItem_174 : decode cX5_readItem 174 = .ok (.invokevirtual 69, 3) := by decide +kernel
theorem dX5_readItem_177 : decode cX5_readItem 177 = .ok (.goto 42, 3) := by decide +kernel
theorem dX5_readItem_180 : decode cX5_readItem 180 = .ok (.iload_n 1, 1) := by decide +kernel
theorem dX5_readItem_181 : decode cX5_readItem 181 = .ok (.bipush 104, 2) := by decide +kernel
theorem dX5_readItem_183 : decode cX5_readItem 183 = .ok (.if_icmp .ne 32, 3) := by decide +kernel
theorem dX5_readItem_186 : decode cX5_readItem 186 = .ok (.aload_n 0, 1) := by decide +kernel
theorem dX5_readItem_187 : decode cX5_readItem 187 = .ok (.dup, 1) := by decide +kernel
theorem dX5_readItem_188 : decode cX5_readItem 188 = .ok (.getfield 79, 3) := by decide +kernel
theorem dX5_readItem_191 : decode cX5_readItem 191 = .ok (.iconst 1, 1) := by decide +kernel
theorem dX5_readItem_192 : decode cX5_readItem 192 = .ok (.aload_n 0, 1) := by decide +kernel
theorem dX5_readItem_193 : decode cX5_readItem 193 = .ok (.iconst 0, 1) := by decide +kernel
theorem dX5_readItem_194 : decode cX5_readItem 194 = .ok (.aload_n 0, 1) := by decide +kernel
theorem dX5_readItem_195 : decode cX5_readItem 195 = .ok (.getfield 62, 3) := by decide +kernel
theorem dX5_readItem_198 : decode cX5_readItem 198 = .ok (.iconst 1, 1) := by decide +kernel
theorem dX5_readItem_199 : decode cX5_readItem 199 = .ok (.isub, 1) := by decide +kernel
theorem dX5_readItem_200 : decode cX5_readItem 200 = .ok (.invokevirtual 65, 3) := by decide +kernel
theorem dX5_readItem_203 : decode cX5_readItem 203 = .ok (.ishl, 1) := by decide +kernel
theorem dX5_readItem_204 : decode cX5_readItem 204 = .ok (.ior, 1) := by decide +kernel
theorem dX5_readItem_205 : decode cX5_readItem 205 = .ok (.putfield 79, 3) := by decide +kernel
theorem dX5_readItem_208 : decode cX5_readItem 208 = .ok (.aload_n 0, 1) := by decide +kernel
theorem dX5_readItem_209 : decode cX5_readItem 209 = .ok (.invokevirtual 69, 3) := by decide +kernel
theorem dX5_readItem_212 : decode cX5_readItem 212 = .ok (.goto 7, 3) := by decide +kernel
theorem dX5_readItem_215 : decode cX5_readItem 215 = .ok (.aload_n 0, 1) := by decide +kernel
theorem dX5_readItem_216 : decode cX5_readItem 216 = .ok (.invokevirtual 82, 3) := by decide +kernel
theorem dX5_readItem_219 : decode cX5_readItem 219 = .ok (.return_, 1) := by decide +kernel
set_option maxRecDepth 20000 in
theorem ggX5_gallery_X5_skips : GoodIn wsX5_gallery wsX5_skips := goodIn_r _ [21, 1, 22, 23, 24, 20, 25, 9, 26, 49, 50, 51, 52, 53, 54, 55, 56, 57, 58, 59, 60, 61, 62, 63, 64, 65, 66, 67, 68, 69] (by decide +kernel) (by decide +kernel)
set_option maxRecDepth 20000 in
theorem gX5_gallery_X5_skips : GoodIn wsX5_gallery (wsV RX5 56 RX5 yX5_skips wsX5_skips) := goodIn_app (goodIn_of _ (by decide +kernel)) ggX5_gallery_X5_skips
set_option maxRecDepth 20000 in
theorem ggX5_gallery_X5_readItem : GoodIn wsX5_gallery wsX5_readItem := goodIn_r _ [30, 1, 9, 26, 3, 6, 8, 2, 4, 5, 7, 22, 23, 24, 20, 25, 31, 32, 33, 34, 35, 36, 37, 17, 18, 19, 21, 38, 39, 40, 41, 42, 43, 44, 45, 49, 50, 51, 52, 53, 54, 55, 56, 57, 58, 59, 60, 61, 62, 63, 64, 65, 66, 67, 68, 69] (by decide +kernel) (by decide +kernel)
set_option maxRecDepth 20000 in
theorem gX5_gallery_X5_readItem : GoodIn wsX5_gallery (wsV RX5 85 RX5 yX5_readItem wsX5_readItem) := goodIn_app (goodIn_of _ (by decide +kernel)) ggX5_gallery_X5_readItem
set_option maxRecDepth 20000 in
theorem ggX5_gallery_X5_bring : GoodIn wsX5_gallery wsX5_bring := goodIn_r _ [48] (by decide +kernel) (by decide +kernel)
set_option maxRecDepth 20000 in
theorem gX5_gallery_X5_bring : GoodIn wsX5_gallery (va_wsS RX5 91 yX5_bring wsX5_bring) := goodIn_app (goodIn_of _ (by decide +kernel)) ggX5_gallery_X5_bring
theorem dX5_gallery_0 : decode cX5_gallery 0 = .ok (.aload_n 0, 1) := by decide +kernel
theorem dX5_gallery_1 : decode cX5_gallery 1 = .ok (.iconst 0, 1) := by decide +kernel
theorem dX5_gallery_2 : decode cX5_gallery 2 = .ok (.putfield 46, 3) := by decide +kernel
theorem dX5_gallery_5 : decode cX5_gallery 5 = .ok (.aload_n 0, 1) := by decide +kernel
theorem dX5_gallery_6 : decode cX5_gallery 6 = .ok (.iconst (-1), 1) := by decide +kernel
theorem dX5_gallery_7 : decode cX5_gallery 7 = .ok (.putfield 53, 3) := by decide +kernel
theorem dX5_gallery_10 : decode cX5_gallery 10 = .ok (.aload_n 0, 1) := by decide +kernel
theorem dX5_gallery_11 : decode cX5_gallery 11 = .ok (.iconst 0, 1) := by decide +kernel
theorem dX5_gallery_12 : decode cX5_gallery 12 = .ok (.putfield 59, 3) := by decide +kernel
theorem dX5_gallery_15 : decode cX5_gallery 15 = .ok (.aload_n 0, 1) := by decide +kernel
theorem dX5_gallery_16 : decode cX5_gallery 16 = .ok (.bipush 12, 2) := by decide +kernel
theorem dX5_gallery_18 : decode cX5_gallery 18 = .ok (.putfield 62, 3) := by decide +kernel
theorem dX5_gallery_21 : decode cX5_gallery 21 = .ok (.aload_n 0, 1) := by decide +kernel
theorem dX5_gallery_22 : decode cX5_gallery 22 = .ok (.iconst 1, 1) := by decide +kernel
theorem dX5_gallery_23 : decode cX5_gallery 23 = .ok (.putfield 76, 3) := by decide +kernel
theorem dX5_gallery_26 : decode cX5_gallery 26 = .ok (.aload_n 0, 1) := by decide +kernel
theorem dX5_gallery_27 : decode cX5_gallery 27 = .ok (.iconst 0, 1) := by decide +kernel
theorem dX5_gallery_28 : decode cX5_gallery 28 = .ok (.putfield 72, 3) := by decide +kernel
theorem dX5_gallery_31 : decode cX5_gallery 31 = .ok (.aload_n 0, 1) := by decide +kernel
theorem dX5_gallery_32 : decode cX5_gallery 32 = .ok (.iconst 0, 1) := by decide +kernel
theorem dX5_gallery_33 : decode cX5_gallery 33 = .ok (.putfield 79, 3) := by decide +kernel
theorem dX5_gallery_36 : decode cX5_gallery 36 = .ok (.iconst 0, 1) := by decide +kernel
theorem dX5_gallery_37 : decode cX5_gallery 37 = .ok (.istore_n 1, 1) := by decide +kernel
theorem dX5_gallery_38 : decode cX5_gallery 38 = .ok (.iload_n 1, 1) := by decide +kernel
theorem dX5_gallery_39 : decode cX5_gallery 39 = .ok (.bipush 50, 2) := by decide +kernel
theorem dX5_gallery_41 : decode cX5_gallery 41 = .ok (.if_icmp .ge 16, 3) := by decide +kernel
theorem dX5_gallery_44 : decode cX5_gallery 44 = .ok (.aload_n 0, 1) := by decide +kernel
theorem dX5_gallery_45 : decode cX5_gallery 45 = .ok (.getfield 36, 3) := by decide +kernel
theorem dX5_gallery_48 : decode cX5_gallery 48 = .ok (.iload_n 1, 1) := by decide +kernel
theorem dX5_gallery_49 : decode cX5_gallery 49 = .ok (.iconst 0, 1) := by decide +kernel
theorem dX5_gallery_50 : decode cX5_gallery 50 = .ok (.iastore, 1) := by decide +kernel
theorem dX5_gallery_51 : decode cX5_gallery 51 = .ok (.iinc 1 1, 3) := by decide +kernel
theorem dX5_gallery_54 : decode cX5_gallery 54 = .ok (.goto (-16), 3) := by decide +kernel
theorem dX5_gallery_57 : decode cX5_gallery 57 = .ok (.aload_n 0, 1) := by decide +kernel
theorem dX5_gallery_58 : decode cX5_gallery 58 = .ok (.invokevirtual 56, 3) := by decide +kernel
theorem dX5_gallery_61 : decode cX5_gallery 61 = .ok (.aload_n 0, 1) := by decide +kernel
theorem dX5_gallery_62 : decode cX5_gallery 62 = .ok (.getfield 53, 3) := by decide +kernel
theorem dX5_gallery_65 : decode cX5_gallery 65 = .ok (.ifCond .ge 32, 3) := by decide +kernel
theorem dX5_gallery_68 : decode cX5_gallery 68 = .ok (.aload_n 0, 1) := by decide +kernel
theorem dX5_gallery_69 : decode cX5_gallery 69 = .ok (.getfield 46, 3) := by decide +kernel
theorem dX5_gallery_72 : decode cX5_gallery 72 = .ok (.aload_n 0, 1) := by decide +kernel
theorem dX5_gallery_73 : decode cX5_gallery 73 = .ok (.getfield 43, 3) := by decide +kernel
theorem dX5_gallery_76 : decode cX5_gallery 76 = .ok (.if_icmp .ge 21, 3) := by decide +kernel
theorem dX5_gallery_79 : decode cX5_gallery 79 = .ok (.aload_n 0, 1) := by decide +kernel
theorem dX5_gallery_80 : decode cX5_gallery 80 = .ok (.invokevirtual 85, 3) := by decide +kernel
theorem dX5_gallery_83 : decode cX5_gallery 83 = .ok (.aload_n 0, 1) := by decide +kernel
theorem dX5_gallery_84 : decode cX5_gallery 84 = .ok (.getfield 53, 3) := by decide +kernel
theorem dX5_gallery_87 : decode cX5_gallery 87 = .ok (.ifCond .ge (-26), 3) := by decide +kernel
theorem dX5_gallery_90 : decode cX5_gallery 90 = .ok (.aload_n 0, 1) := by decide +kernel
theorem dX5_gallery_91 : decode cX5_gallery 91 = .ok (.invokevirtual 56, 3) := by decide +kernel
theorem dX5_gallery_94 : decode cX5_gallery 94 = .ok (.goto (-33), 3) := by decide +kernel
theorem dX5_gallery_97 : decode cX5_gallery 97 = .ok (.aload_n 0, 1) := by decide +kernel
theorem dX5_gallery_98 : decode cX5_gallery 98 = .ok (.getfield 53, 3) := by decide +kernel
theorem dX5_gallery_101 : decode cX5_gallery 101 = .ok (.ifCond .lt 11, 3) := by decide +kernel
theorem dX5_gallery_104 : decode cX5_gallery 104 = .ok (.bipush (-10), 2) := by decide +kernel
theorem dX5_gallery_106 : decode cX5_gallery 106 = .ok (.aload_n 0, 1) := by decide +kernel
theorem dX5_gallery_107 : decode cX5_gallery 107 = .ok (.getfield 53, 3) := by decide +kernel
theorem dX5_gallery_110 : decode cX5_gallery 110 = .ok (.isub, 1) := by decide +kernel
theorem dX5_gallery_111 : decode cX5_gallery 111 = .ok (.ireturn, 1) := by decide +kernel
theorem dX5_gallery_112 : decode cX5_gallery 112 = .ok (.aload_n 0, 1) := by decide +kernel
theorem dX5_gallery_113 : decode cX5_gallery 113 = .ok (.iconst 0, 1) := by decide +kernel
theorem dX5_gallery_114 : decode cX5_gallery 114 = .ok (.putfield 43, 3) := by decide +kernel
theorem dX5_gallery_117 : decode cX5_gallery 117 = .ok (.aload_n 0, 1) := by decide +kernel
theorem dX5_gallery_118 : decode cX5_gallery 118 = .ok (.aload_n 0, 1) := by decide +kernel
theorem dX5_gallery_119 : decode cX5_gallery 119 = .ok (.getfield 62, 3) := by decide +kernel
theorem dX5_gallery_122 : decode cX5_gallery 122 = .ok (.putfield 13, 3) := by decide +kernel
theorem dX5_gallery_125 : decode cX5_gallery 125 = .ok (.aload_n 0, 1) := by decide +kernel
theorem dX5_gallery_126 : decode cX5_gallery 126 = .ok (.aload_n 0, 1) := by decide +kernel
theorem dX5_gallery_127 : decode cX5_gallery 127 = .ok (.getfield 76, 3) := by decide +kernel
theorem dX5_gallery_130 : decode cX5_gallery 130 = .ok (.putfield 17, 3) := by decide +kernel
theorem dX5_gallery_133 : decode cX5_gallery 133 = .ok (.aload_n 0, 1) := by decide +kernel
theorem dX5_gallery_134 : decode cX5_gallery 134 = .ok (.aload_n 0, 1) := by decide +kernel
theorem dX5_gallery_135 : decode cX5_gallery 135 = .ok (.getfield 79, 3) := by decide +kernel
theorem dX5_gallery_138 : decode cX5_gallery 138 = .ok (.putfield 88, 3) := by decide +kernel
theorem dX5_gallery_141 : decode cX5_gallery 141 = .ok (.aload_n 0, 1) := by decide +kernel
theorem dX5_gallery_142 : decode cX5_gallery 142 = .ok (.getfield 36, 3) := by decide +kernel
theorem dX5_gallery_145 : decode cX5_gallery 145 = .ok (.iconst 0, 1) := by decide +kernel
theorem dX5_gallery_146 : decode cX5_gallery 146 = .ok (.aload_n 0, 1) := by decide +kernel
theorem dX5_gallery_147 : decode cX5_gallery 147 = .ok (.getfield 20, 3) := by decide +kernel
theorem dX5_gallery_150 : decode cX5_gallery 150 = .ok (.iconst 0, 1) := by decide +kernel
theorem dX5_gallery_151 : decode cX5_gallery 151 = .ok (.bipush 50, 2) := by decide +kernel
theorem dX5_gallery_153 : decode cX5_gallery 153 = .ok (.invokestatic 91, 3) := by decide +kernel
theorem dX5_gallery_156 : decode cX5_gallery 156 = .ok (.aload_n 0, 1) := by decide +kernel
theorem dX5_gallery_157 : decode cX5_gallery 157 = .ok (.iconst 0, 1) := by decide +kernel
theorem dX5_gallery_158 : decode cX5_gallery 158 = .ok (.putfield 95, 3) := by decide +kernel
theorem dX5_gallery_161 : decode cX5_gallery 161 = .ok (.aload_n 0, 1) := by decide +kernel
theorem dX5_gallery_162 : decode cX5_gallery 162 = .ok (.iconst 0, 1) := by decide +kernel
theorem dX5_gallery_163 : decode cX5_gallery 163 = .ok (.putfield 98, 3) := by decide +kernel
theorem dX5_gallery_166 : decode cX5_gallery 166 = .ok (.aload_n 0, 1) := by decide +kernel
theorem dX5_gallery_167 : decode cX5_gallery 167 = .ok (.getfield 29, 3) := by decide +kernel
theorem dX5_gallery_170 : decode cX5_gallery 170 = .ok (.iconst 0, 1) := by decide +kernel
theorem dX5_gallery_171 : decode cX5_gallery 171 = .ok (.iconst 0, 1) := by decide +kernel
theorem dX5_gallery_172 : decode cX5_gallery 172 = .ok (.bastore, 1) := by decide +kernel
theorem dX5_gallery_173 : decode cX5_gallery 173 = .ok (.aload_n 0, 1) := by decide +kernel
theorem dX5_gallery_174 : decode cX5_gallery 174 = .ok (.getfield 29, 3) := by decide +kernel
theorem dX5_gallery_177 : decode cX5_gallery 177 = .ok (.iconst 1, 1) := by decide +kernel
theorem dX5_gallery_178 : decode cX5_gallery 178 = .ok (.iconst 0, 1) := by decide +kernel
theorem dX5_gallery_179 : decode cX5_gallery 179 = .ok (.bastore, 1) := by decide +kernel
theorem dX5_gallery_180 : decode cX5_gallery 180 = .ok (.aload_n 0, 1) := by decide +kernel
theorem dX5_gallery_181 : decode cX5_gallery 181 = .ok (.getfield 59, 3) := by decide +kernel
theorem dX5_gallery_184 : decode cX5_gallery 184 = .ok (.ireturn, 1) := by decide +kernel
theorem dX5_round_0 : decode cX5_round 0 = .ok (.iload_n 1, 1) := by decide +kernel
theorem dX5_round_1 : decode cX5_round 1 = .ok (.aload_n 0, 1) := by decide +kernel
theorem dX5_round_2 : decode cX5_round 2 = .ok (.getfield 13, 3) := by decide +kernel
theorem dX5_round_5 : decode cX5_round 5 = .ok (.irem, 1) := by decide +kernel
theorem dX5_round_6 : decode cX5_round 6 = .ok (.aload_n 0, 1) := by decide +kernel
theorem dX5_round_7 : decode cX5_round 7 = .ok (.getfield 13, 3) := by decide +kernel
theorem dX5_round_10 : decode cX5_round 10 = .ok (.iadd, 1) := by decide +kernel
theorem dX5_round_11 : decode cX5_round 11 = .ok (.aload_n 0, 1) := by decide +kernel
theorem dX5_round_12 : decode cX5_round 12 = .ok (.getfield 13, 3) := by decide +kernel
theorem dX5_round_15 : decode cX5_round 15 = .ok (.irem, 1) := by decide +kernel
theorem dX5_round_16 : decode cX5_round 16 = .ok (.ireturn, 1) := by decide +kernel
set_option maxRecDepth 20000 in
theorem ggX5_placeBy_X5_round : GoodIn wsX5_placeBy wsX5_round := goodIn_r _ [5, 6, 7, 8, 9, 10, 11, 12, 13, 14, 15, 16, 17, 18, 19, 20, 21, 22, 23, 24, 25, 26, 27] (by decide +kernel) (by decide +kernel)
set_option maxRecDepth 20000 in
theorem gX5_placeBy_X5_round : GoodIn wsX5_placeBy (wsV RX5 101 RX5 yX5_round wsX5_round) := goodIn_app (goodIn_of _ (by decide +kernel)) ggX5_placeBy_X5_round
theorem dX5_placeBy_0 : decode cX5_placeBy 0 = .ok (.aload_n 0, 1) := by decide +kernel
theorem dX5_placeBy_1 : decode cX5_placeBy 1 = .ok (.iload_n 3, 1) := by decide +kernel
theorem dX5_placeBy_2 : decode cX5_placeBy 2 = .ok (.ifCond .ne 12, 3) := by decide +kernel
theorem dX5_placeBy_5 : decode cX5_placeBy 5 = .ok (.iload_n 1, 1) := by decide +kernel
theorem dX5_placeBy_6 : decode cX5_placeBy 6 = .ok (.iload_n 2, 1) := by decide +kernel
theorem dX5_placeBy_7 : decode cX5_placeBy 7 = .ok (.iload 4, 2) := by decide +kernel
theorem dX5_placeBy_9 : decode cX5_placeBy 9 = .ok (.imul, 1) := by decide +kernel
theorem dX5_placeBy_10 : decode cX5_placeBy 10 = .ok (.iadd, 1) := by decide +kernel
theorem dX5_placeBy_11 : decode cX5_placeBy 11 = .ok (.goto 9, 3) := by decide +kernel
theorem dX5_placeBy_14 : decode cX5_placeBy 14 = .ok (.iload_n 1, 1) := by decide +kernel
theorem dX5_placeBy_15 : decode cX5_placeBy 15 = .ok (.iload_n 2, 1) := by decide +kernel
theorem dX5_placeBy_16 : decode cX5_placeBy 16 = .ok (.iload 4, 2) := by decide +kernel
theorem dX5_placeBy_18 : decode cX5_placeBy 18 = .ok (.imul, 1) := by decide +kernel
theorem dX5_placeBy_19 : decode cX5_placeBy 19 = .ok (.isub, 1) := by decide +kernel
theorem dX5_placeBy_20 : decode cX5_placeBy 20 = .ok (.invokevirtual 101, 3) := by decide +kernel
theorem dX5_placeBy_23 : decode cX5_placeBy 23 = .ok (.ireturn, 1) := by decide +kernel
theorem dX5_ago_0 : decode cX5_ago 0 = .ok (.aload_n 0, 1) := by decide +kernel
theorem dX5_ago_1 : decode cX5_ago 1 = .ok (.getfield 20, 3) := by decide +kernel
theorem dX5_ago_4 : decode cX5_ago 4 = .ok (.iconst 0, 1) := by decide +kernel
theorem dX5_ago_5 : decode cX5_ago 5 = .ok (.iaload, 1) := by decide +kernel
theorem dX5_ago_6 : decode cX5_ago 6 = .ok (.iload_n 2, 1) := by decide +kernel
theorem dX5_ago_7 : decode cX5_ago 7 = .ok (.iadd, 1) := by decide +kernel
theorem dX5_ago_8 : decode cX5_ago 8 = .ok (.aload_n 0, 1) := by decide +kernel
theorem dX5_ago_9 : decode cX5_ago 9 = .ok (.getfield 20, 3) := by decide +kernel
theorem dX5_ago_12 : decode cX5_ago 12 = .ok (.bipush 34, 2) := by decide +kernel
theorem dX5_ago_14 : decode cX5_ago 14 = .ok (.iload_n 1, 1) := by decide +kernel
theorem dX5_ago_15 : decode cX5_ago 15 = .ok (.iadd, 1) := by decide +kernel
theorem dX5_ago_16 : decode cX5_ago 16 = .ok (.iaload, 1) := by decide +kernel
theorem dX5_ago_17 : decode cX5_ago 17 = .ok (.isub, 1) := by decide +kernel
theorem dX5_ago_18 : decode cX5_ago 18 = .ok (.ireturn, 1) := by decide +kernel
set_option maxRecDepth 20000 in
theorem ggX5_placeOf_X5_ago : GoodIn wsX5_placeOf wsX5_ago := goodIn_r _ [6, 1, 16, 17, 18, 19, 20, 21, 22, 23, 24, 25, 26, 27, 28, 29, 30, 31, 32, 33, 34, 35, 36] (by decide +kernel) (by decide +kernel)
set_option maxRecDepth 20000 in
theorem gX5_placeOf_X5_ago : GoodIn wsX5_placeOf (wsV RX5 105 RX5 yX5_ago wsX5_ago) := goodIn_app (goodIn_of _ (by decide +kernel)) ggX5_placeOf_X5_ago
set_option maxRecDepth 20000 in
theorem ggX5_placeOf_X5_placeBy : GoodIn wsX5_placeOf wsX5_placeBy := goodIn_r _ [10, 11, 12, 13, 5, 14, 15, 16, 17, 18, 19, 20, 21, 22, 23, 24, 25, 26, 27, 28, 29, 30, 31, 32, 33, 34, 35, 36] (by decide +kernel) (by decide +kernel)
set_option maxRecDepth 20000 in
theorem gX5_placeOf_X5_placeBy : GoodIn wsX5_placeOf (wsV RX5 108 RX5 yX5_placeBy wsX5_placeBy) := goodIn_app (goodIn_of _ (by decide +kernel)) ggX5_placeOf_X5_placeBy
theorem dX5_placeOf_0 : decode cX5_placeOf 0 = .ok (.aload_n 0, 1) := by decide +kernel
theorem dX5_placeOf_1 : decode cX5_placeOf 1 = .ok (.aload_n 0, 1) := by decide +kernel
theorem dX5_placeOf_2 : decode cX5_placeOf 2 = .ok (.getfield 20, 3) := by decide +kernel
theorem dX5_placeOf_5 : decode cX5_placeOf 5 = .ok (.iconst 2, 1) := by decide +kernel
theorem dX5_placeOf_6 : decode cX5_placeOf 6 = .ok (.iload_n 1, 1) := by decide +kernel
theorem dX5_placeOf_7 : decode cX5_placeOf 7 = .ok (.iadd, 1) := by decide +kernel
theorem dX5_placeOf_8 : decode cX5_placeOf 8 = .ok (.iaload, 1) := by decide +kernel
theorem dX5_placeOf_9 : decode cX5_placeOf 9 = .ok (.aload_n 0, 1) := by decide +kernel
theorem dX5_placeOf_10 : decode cX5_placeOf 10 = .ok (.getfield 20, 3) := by decide +kernel
theorem dX5_placeOf_13 : decode cX5_placeOf 13 = .ok (.bipush 10, 2) := by decide +kernel
theorem dX5_placeOf_15 : decode cX5_placeOf 15 = .ok (.iload_n 1, 1) := by decide +kernel
theorem dX5_placeOf_16 : decode cX5_placeOf 16 = .ok (.iadd, 1) := by decide +kernel
theorem dX5_placeOf_17 : decode cX5_placeOf 17 = .ok (.iaload, 1) := by decide +kernel
theorem dX5_placeOf_18 : decode cX5_placeOf 18 = .ok (.aload_n 0, 1) := by decide +kernel
theorem dX5_placeOf_19 : decode cX5_placeOf 19 = .ok (.getfield 20, 3) := by decide +kernel
theorem dX5_placeOf_22 : decode cX5_placeOf 22 = .ok (.bipush 18, 2) := by decide +kernel
theorem dX5_placeOf_24 : decode cX5_placeOf 24 = .ok (.iload_n 1, 1) := by decide +kernel
theorem dX5_placeOf_25 : decode cX5_placeOf 25 = .ok (.iadd, 1) := by decide +kernel
theorem dX5_placeOf_26 : decode cX5_placeOf 26 = .ok (.iaload, 1) := by decide +kernel
theorem dX5_placeOf_27 : decode cX5_placeOf 27 = .ok (.aload_n 0, 1) := by decide +kernel
theorem dX5_placeOf_28 : decode cX5_placeOf 28 = .ok (.iload_n 1, 1) := by decide +kernel
theorem dX5_placeOf_29 : decode cX5_placeOf 29 = .ok (.iload_n 2, 1) := by decide +kernel
theorem dX5_placeOf_30 : decode cX5_placeOf 30 = .ok (.invokevirtual 105, 3) := by decide +kernel
theorem dX5_placeOf_33 : decode cX5_placeOf 33 = .ok (.invokevirtual 108, 3) := by decide +kernel
theorem dX5_placeOf_36 : decode cX5_placeOf 36 = .ok (.ireturn, 1) := by decide +kernel
set_option maxRecDepth 20000 in
theorem ggX5_lapsOf_X5_ago : GoodIn wsX5_lapsOf wsX5_ago := goodIn_r _ [7, 1, 8, 9, 10, 11, 12, 13, 14, 15, 16, 17, 18, 19, 20, 21, 22, 23, 24, 25, 26, 27, 28] (by decide +kernel) (by decide +kernel)
set_option maxRecDepth 20000 in
theorem gX5_lapsOf_X5_ago : GoodIn wsX5_lapsOf (wsV RX5 105 RX5 yX5_ago wsX5_ago) := goodIn_app (goodIn_of _ (by decide +kernel)) ggX5_lapsOf_X5_ago
theorem dX5_lapsOf_0 : decode cX5_lapsOf 0 = .ok (.aload_n 0, 1) := by decide +kernel
theorem dX5_lapsOf_1 : decode cX5_lapsOf 1 = .ok (.getfield 20, 3) := by decide +kernel
theorem dX5_lapsOf_4 : decode cX5_lapsOf 4 = .ok (.bipush 10, 2) := by decide +kernel
theorem dX5_lapsOf_6 : decode cX5_lapsOf 6 = .ok (.iload_n 1, 1) := by decide +kernel
theorem dX5_lapsOf_7 : decode cX5_lapsOf 7 = .ok (.iadd, 1) := by decide +kernel
theorem dX5_lapsOf_8 : decode cX5_lapsOf 8 = .ok (.iaload, 1) := by decide +kernel
theorem dX5_lapsOf_9 : decode cX5_lapsOf 9 = .ok (.aload_n 0, 1) := by decide +kernel
theorem dX5_lapsOf_10 : decode cX5_lapsOf 10 = .ok (.iload_n 1, 1) := by decide +kernel
theorem dX5_lapsOf_11 : decode cX5_lapsOf 11 = .ok (.iload_n 2, 1) := by decide +kernel
theorem dX5_lapsOf_12 : decode cX5_lapsOf 12 = .ok (.invokevirtual 105, 3) := by decide +kernel
theorem dX5_lapsOf_15 : decode cX5_lapsOf 15 = .ok (.imul, 1) := by decide +kernel
theorem dX5_lapsOf_16 : decode cX5_lapsOf 16 = .ok (.aload_n 0, 1) := by decide +kernel
theorem dX5_lapsOf_17 : decode cX5_lapsOf 17 = .ok (.getfield 13, 3) := by decide +kernel
theorem dX5_lapsOf_20 : decode cX5_lapsOf 20 = .ok (.idiv, 1) := by decide +kernel
theorem dX5_lapsOf_21 : decode cX5_lapsOf 21 = .ok (.ireturn, 1) := by decide +kernel
set_option maxRecDepth 20000 in
theorem ggX5_strengthOf_X5_lapsOf : GoodIn wsX5_strengthOf wsX5_lapsOf := goodIn_r _ [7, 1, 8, 9, 10, 11, 6, 12, 13, 14, 15, 16, 17, 18, 19, 20, 21, 22, 23, 24, 25, 26, 27, 28, 29, 30, 31, 32, 33] (by decide +kernel) (by decide +kernel)
set_option maxRecDepth 20000 in
theorem gX5_strengthOf_X5_lapsOf : GoodIn wsX5_strengthOf (wsV RX5 112 RX5 yX5_lapsOf wsX5_lapsOf) := goodIn_app (goodIn_of _ (by decide +kernel)) ggX5_strengthOf_X5_lapsOf
theorem dX5_strengthOf_0 : decode cX5_strengthOf 0 = .ok (.aload_n 0, 1) := by decide +kernel
theorem dX5_strengthOf_1 : decode cX5_strengthOf 1 = .ok (.getfield 20, 3) := by decide +kernel
theorem dX5_strengthOf_4 : decode cX5_strengthOf 4 = .ok (.bipush 26, 2) := by decide +kernel
theorem dX5_strengthOf_6 : decode cX5_strengthOf 6 = .ok (.iload_n 1, 1) := by decide +kernel
theorem dX5_strengthOf_7 : decode cX5_strengthOf 7 = .ok (.iadd, 1) := by decide +kernel
theorem dX5_strengthOf_8 : decode cX5_strengthOf 8 = .ok (.iaload, 1) := by decide +kernel
theorem dX5_strengthOf_9 : decode cX5_strengthOf 9 = .ok (.aload_n 0, 1) := by decide +kernel
theorem dX5_strengthOf_10 : decode cX5_strengthOf 10 = .ok (.getfield 17, 3) := by decide +kernel
theorem dX5_strengthOf_13 : decode cX5_strengthOf 13 = .ok (.aload_n 0, 1) := by decide +kernel
theorem dX5_strengthOf_14 : decode cX5_strengthOf 14 = .ok (.iload_n 1, 1) := by decide +kernel
theorem dX5_strengthOf_15 : decode cX5_strengthOf 15 = .ok (.iload_n 2, 1) := by decide +kernel
theorem dX5_strengthOf_16 : decode cX5_strengthOf 16 = .ok (.invokevirtual 112, 3) := by decide +kernel
theorem dX5_strengthOf_19 : decode cX5_strengthOf 19 = .ok (.imul, 1) := by decide +kernel
theorem dX5_strengthOf_20 : decode cX5_strengthOf 20 = .ok (.isub, 1) := by decide +kernel
theorem dX5_strengthOf_21 : decode cX5_strengthOf 21 = .ok (.istore_n 3, 1) := by decide +kernel
theorem dX5_strengthOf_22 : decode cX5_strengthOf 22 = .ok (.iload_n 3, 1) := by decide +kernel
theorem dX5_strengthOf_23 : decode cX5_strengthOf 23 = .ok (.ifCond .lt 16, 3) := by decide +kernel
theorem dX5_strengthOf_26 : decode cX5_strengthOf 26 = .ok (.aload_n 0, 1) := by decide +kernel
theorem dX5_strengthOf_27 : decode cX5_strengthOf 27 = .ok (.getfield 20, 3) := by decide +kernel
theorem dX5_strengthOf_30 : decode cX5_strengthOf 30 = .ok (.bipush 42, 2) := by decide +kernel
theorem dX5_strengthOf_32 : decode cX5_strengthOf 32 = .ok (.iload_n 1, 1) := by decide +kernel
theorem dX5_strengthOf_33 : decode cX5_strengthOf 33 = .ok (.iadd, 1) := by decide +kernel
theorem dX5_strengthOf_34 : decode cX5_strengthOf 34 = .ok (.iaload, 1) := by decide +kernel
theorem dX5_strengthOf_35 : decode cX5_strengthOf 35 = .ok (.iconst 1, 1) := by decide +kernel
theorem dX5_strengthOf_36 : decode cX5_strengthOf 36 = .ok (.if_icmp .ne 7, 3) := by decide +kernel
theorem dX5_strengthOf_39 : decode cX5_strengthOf 39 = .ok (.iconst 0, 1) := by decide +kernel
theorem dX5_strengthOf_40 : decode cX5_strengthOf 40 = .ok (.goto 4, 3) := by decide +kernel
theorem dX5_strengthOf_43 : decode cX5_strengthOf 43 = .ok (.iload_n 3, 1) := by decide +kernel
theorem dX5_strengthOf_44 : decode cX5_strengthOf 44 = .ok (.ireturn, 1) := by decide +kernel
set_option maxRecDepth 20000 in
theorem ggX5_soundsOf_X5_strengthOf : GoodIn wsX5_soundsOf wsX5_strengthOf := goodIn_r _ [6, 1, 7, 8, 9, 10, 5, 11, 12, 13, 14, 15, 16, 29, 30, 31, 32, 33, 34, 35, 36, 37, 38, 39, 40, 41, 42, 43, 44, 45, 46, 47, 48, 49] (by decide +kernel) (by decide +kernel)
set_option maxRecDepth 20000 in
theorem gX5_soundsOf_X5_strengthOf : GoodIn wsX5_soundsOf (wsV RX5 115 RX5 yX5_strengthOf wsX5_strengthOf) := goodIn_app (goodIn_of _ (by decide +kernel)) ggX5_soundsOf_X5_strengthOf
set_option maxRecDepth 20000 in
theorem ggX5_soundsOf_X5_placeOf : GoodIn wsX5_soundsOf wsX5_placeOf := goodIn_r _ [20, 1, 13, 14, 15, 5, 16, 21, 22, 23, 24, 25, 26, 27, 28, 12, 29, 30, 31, 32, 33, 34, 35, 36, 37, 38, 39, 40, 41, 42, 43, 44, 45, 46, 47, 48, 49] (by decide +kernel) (by decide +kernel)
set_option maxRecDepth 20000 in
theorem gX5_soundsOf_X5_placeOf : GoodIn wsX5_soundsOf (wsV RX5 118 RX5 yX5_placeOf wsX5_placeOf) := goodIn_app (goodIn_of _ (by decide +kernel)) ggX5_soundsOf_X5_placeOf
theorem dX5_soundsOf_0 : decode cX5_soundsOf 0 = .ok (.iconst 0, 1) := by decide +kernel
theorem dX5_soundsOf_1 : decode cX5_soundsOf 1 = .ok (.istore_n 3, 1) := by decide +kernel
theorem dX5_soundsOf_2 : decode cX5_soundsOf 2 = .ok (.iconst 0, 1) := by decide +kernel
theorem dX5_soundsOf_3 : decode cX5_soundsOf 3 = .ok (.istore 4, 2) := by decide +kernel
theorem dX5_soundsOf_5 : decode cX5_soundsOf 5 = .ok (.iload 4, 2) := by decide +kernel
theorem dX5_soundsOf_7 : decode cX5_soundsOf 7 = .ok (.aload_n 0, 1) := by decide +kernel
theorem dX5_soundsOf_8 : decode cX5_soundsOf 8 = .ok (.getfield 20, 3) := by decide +kernel
theorem dX5_soundsOf_11 : decode cX5_soundsOf 11 = .ok (.iconst 1, 1) := by decide +kernel
theorem dX5_soundsOf_12 : decode cX5_soundsOf 12 = .ok (.iaload, 1) := by decide +kernel
theorem dX5_soundsOf_13 : decode cX5_soundsOf 13 = .ok (.if_icmp .ge 41, 3) := by decide +kernel
theorem dX5_soundsOf_16 : decode cX5_soundsOf 16 = .ok (.iload_n 3, 1) := by decide +kernel
theorem dX5_soundsOf_17 : decode cX5_soundsOf 17 = .ok (.aload_n 0, 1) := by decide +kernel
theorem dX5_soundsOf_18 : decode cX5_soundsOf 18 = .ok (.iload 4, 2) := by decide +kernel
theorem dX5_soundsOf_20 : decode cX5_soundsOf 20 = .ok (.iload_n 2, 1) := by decide +kernel
theorem dX5_soundsOf_21 : decode cX5_soundsOf 21 = .ok (.invokevirtual 115, 3) := by decide +kernel
theorem dX5_soundsOf_24 : decode cX5_soundsOf 24 = .ok (.ifCond .le 21, 3) := by decide +kernel
theorem dX5_soundsOf_27 : decode cX5_soundsOf 27 = .ok (.aload_n 0, 1) := by decide +kernel
theorem dX5_soundsOf_28 : decode cX5_soundsOf 28 = .ok (.iload 4, 2) := by decide +kernel
theorem dX5_soundsOf_30 : decode cX5_soundsOf 30 = .ok (.iload_n 2, 1) := by decide +kernel
theorem dX5_soundsOf_31 : decode cX5_soundsOf 31 = .ok (.invokevirtual 118, 3) := by decide +kernel
theorem dX5_soundsOf_34 : decode cX5_soundsOf 34 = .ok (.iload_n 1, 1) := by decide +kernel
theorem dX5_soundsOf_35 : decode cX5_soundsOf 35 = .ok (.if_icmp .ne 10, 3) := by decide +kernel
theorem dX5_soundsOf_38 : decode cX5_soundsOf 38 = .ok (.iconst 1, 1) := by decide +kernel
theorem dX5_soundsOf_39 : decode cX5_soundsOf 39 = .ok (.iload 4, 2) := by decide +kernel
theorem dX5_soundsOf_41 : decode cX5_soundsOf 41 = .ok (.ishl, 1) := by decide +kernel
theorem dX5_soundsOf_42 : decode cX5_soundsOf 42 = .ok (.goto 4, 3) := by decide +kernel
theorem dX5_soundsOf_45 : decode cX5_soundsOf 45 = .ok (.iconst 0, 1) := by decide +kernel
theorem dX5_soundsOf_46 : decode cX5_soundsOf 46 = .ok (.ior, 1) := by decide +kernel
theorem dX5_soundsOf_47 : decode cX5_soundsOf 47 = .ok (.istore_n 3, 1) := by decide +kernel
theorem dX5_soundsOf_48 : decode cX5_soundsOf 48 = .ok (.iinc 4 1, 3) := by decide +kernel
theorem dX5_soundsOf_51 : decode cX5_soundsOf 51 = .ok (.goto (-46), 3) := by decide +kernel
theorem dX5_soundsOf_54 : decode cX5_soundsOf 54 = .ok (.iload_n 3, 1) := by decide +kernel
theorem dX5_soundsOf_55 : decode cX5_soundsOf 55 = .ok (.ireturn, 1) := by decide +kernel
set_option maxRecDepth 20000 in
theorem ggX5_loudOf_X5_has : GoodIn wsX5_loudOf wsX5_has := goodIn_r _ [5] (by decide +kernel) (by decide +kernel)
set_option maxRecDepth 20000 in
theorem gX5_loudOf_X5_has : GoodIn wsX5_loudOf (va_wsS RX5 121 yX5_has wsX5_has) := goodIn_app (goodIn_of _ (by decide +kernel)) ggX5_loudOf_X5_has
set_option maxRecDepth 20000 in
theorem ggX5_loudOf_X5_strengthOf : GoodIn wsX5_loudOf wsX5_strengthOf := goodIn_r _ [9, 1, 10, 11, 12, 13, 4, 14, 15, 16, 17, 18, 19, 20, 21, 22, 23, 24, 25, 26, 27, 28, 29, 30, 31, 32, 33, 34, 35, 36, 37, 38, 39, 40] (by decide +kernel) (by decide +kernel)
set_option maxRecDepth 20000 in
theorem gX5_loudOf_X5_strengthOf : GoodIn wsX5_loudOf (wsV RX5 115 RX5 yX5_strengthOf wsX5_strengthOf) := goodIn_app (goodIn_of _ (by decide +kernel)) ggX5_loudOf_X5_strengthOf
theorem dX5_loudOf_0 : decode cX5_loudOf 0 = .ok (.iconst 0, 1) := by decide +kernel
theorem dX5_loudOf_1 : decode cX5_loudOf 1 = .ok (.istore_n 3, 1) := by decide +kernel
theorem dX5_loudOf_2 : decode cX5_loudOf 2 = .ok (.iconst 0, 1) := by decide +kernel
theorem dX5_loudOf_3 : decode cX5_loudOf 3 = .ok (.istore 4, 2) := by decide +kernel
theorem dX5_loudOf_5 : decode cX5_loudOf 5 = .ok (.iload 4, 2) := by decide +kernel
theorem dX5_loudOf_7 : decode cX5_loudOf 7 = .ok (.aload_n 0, 1) := by decide +kernel
theorem dX5_loudOf_8 : decode cX5_loudOf 8 = .ok (.getfield 20, 3) := by decide +kernel
theorem dX5_loudOf_11 : decode cX5_loudOf 11 = .ok (.iconst 1, 1) := by decide +kernel
theorem dX5_loudOf_12 : decode cX5_loudOf 12 = .ok (.iaload, 1) := by decide +kernel
theorem dX5_loudOf_13 : decode cX5_loudOf 13 = .ok (.if_icmp .ge 32, 3) := by decide +kernel
theorem dX5_loudOf_16 : decode cX5_loudOf 16 = .ok (.iload_n 3, 1) := by decide +kernel
theorem dX5_loudOf_17 : decode cX5_loudOf 17 = .ok (.iload_n 1, 1) := by decide +kernel
theorem dX5_loudOf_18 : decode cX5_loudOf 18 = .ok (.iload 4, 2) := by decide +kernel
theorem dX5_loudOf_20 : decode cX5_loudOf 20 = .ok (.invokestatic 121, 3) := by decide +kernel
theorem dX5_loudOf_23 : decode cX5_loudOf 23 = .ok (.ifCond .eq 13, 3) := by decide +kernel
theorem dX5_loudOf_26 : decode cX5_loudOf 26 = .ok (.aload_n 0, 1) := by decide +kernel
theorem dX5_loudOf_27 : decode cX5_loudOf 27 = .ok (.iload 4, 2) := by decide +kernel
theorem dX5_loudOf_29 : decode cX5_loudOf 29 = .ok (.iload_n 2, 1) := by decide +kernel
theorem dX5_loudOf_30 : decode cX5_loudOf 30 = .ok (.invokevirtual 115, 3) := by decide +kernel
theorem dX5_loudOf_33 : decode cX5_loudOf 33 = .ok (.goto 4, 3) := by decide +kernel
theorem dX5_loudOf_36 : decode cX5_loudOf 36 = .ok (.iconst 0, 1) := by decide +kernel
theorem dX5_loudOf_37 : decode cX5_loudOf 37 = .ok (.iadd, 1) := by decide +kernel
theorem dX5_loudOf_38 : decode cX5_loudOf 38 = .ok (.istore_n 3, 1) := by decide +kernel
theorem dX5_loudOf_39 : decode cX5_loudOf 39 = .ok (.iinc 4 1, 3) := by decide +kernel
theorem dX5_loudOf_42 : decode cX5_loudOf 42 = .ok (.goto (-37), 3) := by decide +kernel
theorem dX5_loudOf_45 : decode cX5_loudOf 45 = .ok (.iload_n 3, 1) := by decide +kernel
theorem dX5_loudOf_46 : decode cX5_loudOf 46 = .ok (.ireturn, 1) := by decide +kernel
