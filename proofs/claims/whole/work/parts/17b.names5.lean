set_option maxRecDepth 20000 in
theorem gX5_ask_X5_guessAt : GoodIn wsX5_ask (wsV RX5 163 RX5 yX5_guessAt wsX5_guessAt) := goodIn_app (goodIn_of _ (by decide +kernel)) ggX5_ask_X5_guessAt
theorem dX5_ask_0 : decode cX5_ask 0 = .ok (.iload_n 1, 1) := by decide +kernel
theorem dX5_ask_1 : decode cX5_ask 1 = .ok (.iconst 0, 1) := by decide +kernel
theorem dX5_ask_2 : decode cX5_ask 2 = .ok (.bipush 99, 2) := by decide +kernel
theorem dX5_ask_4 : decode cX5_ask 4 = .ok (.invokestatic 39, 3) := by decide +kernel
theorem dX5_ask_7 : decode cX5_ask 7 = .ok (.ifCond .ne 5, 3) := by decide +kernel
theorem dX5_ask_10 : decode cX5_ask 10 = .ok (.iconst (-1), 1) := by decide +kernel
theorem dX5_ask_11 : decode cX5_ask 11 = .ok (.ireturn, 1) := by decide +kernel
theorem dX5_ask_12 : decode cX5_ask 12 = .ok (.aload_n 0, 1) := by decide +kernel
theorem dX5_ask_13 : decode cX5_ask 13 = .ok (.iconst 0, 1) := by decide +kernel
theorem dX5_ask_14 : decode cX5_ask 14 = .ok (.invokevirtual 169, 3) := by decide +kernel
theorem dX5_ask_17 : decode cX5_ask 17 = .ok (.istore_n 2, 1) := by decide +kernel
theorem dX5_ask_18 : decode cX5_ask 18 = .ok (.bipush (-9), 2) := by decide +kernel
theorem dX5_ask_20 : decode cX5_ask 20 = .ok (.istore_n 3, 1) := by decide +kernel
theorem dX5_ask_21 : decode cX5_ask 21 = .ok (.iload_n 2, 1) := by decide +kernel
theorem dX5_ask_22 : decode cX5_ask 22 = .ok (.istore 4, 2) := by decide +kernel
theorem dX5_ask_24 : decode cX5_ask 24 = .ok (.iconst 0, 1) := by decide +kernel
theorem dX5_ask_25 : decode cX5_ask 25 = .ok (.istore 5, 2) := by decide +kernel
theorem dX5_ask_27 : decode cX5_ask 27 = .ok (.iload 5, 2) := by decide +kernel
theorem dX5_ask_29 : decode cX5_ask 29 = .ok (.aload_n 0, 1) := by decide +kernel
theorem dX5_ask_30 : decode cX5_ask 30 = .ok (.getfield 13, 3) := by decide +kernel
theorem dX5_ask_33 : decode cX5_ask 33 = .ok (.if_icmp .ge 114, 3) := by decide +kernel
theorem dX5_ask_36 : decode cX5_ask 36 = .ok (.iconst 0, 1) := by decide +kernel
theorem dX5_ask_37 : decode cX5_ask 37 = .ok (.istore 6, 2) := by decide +kernel
theorem dX5_ask_39 : decode cX5_ask 39 = .ok (.iconst 0, 1) := by decide +kernel
theorem dX5_ask_40 : decode cX5_ask 40 = .ok (.istore 7, 2) := by decide +kernel
theorem dX5_ask_42 : decode cX5_ask 42 = .ok (.iload 7, 2) := by decide +kernel
theorem dX5_ask_44 : decode cX5_ask 44 = .ok (.bipush 12, 2) := by decide +kernel
theorem dX5_ask_46 : decode cX5_ask 46 = .ok (.aload_n 0, 1) := by decide +kernel
theorem dX5_ask_47 : decode cX5_ask 47 = .ok (.getfield 13, 3) := by decide +kernel
theorem dX5_ask_50 : decode cX5_ask 50 = .ok (.imul, 1) := by decide +kernel
theorem dX5_ask_51 : decode cX5_ask 51 = .ok (.if_icmp .ge 40, 3) := by decide +kernel
theorem dX5_ask_54 : decode cX5_ask 54 = .ok (.iload 6, 2) := by decide +kernel
theorem dX5_ask_56 : decode cX5_ask 56 = .ok (.aload_n 0, 1) := by decide +kernel
theorem dX5_ask_57 : decode cX5_ask 57 = .ok (.iload 7, 2) := by decide +kernel
theorem dX5_ask_59 : decode cX5_ask 59 = .ok (.invokevirtual 166, 3) := by decide +kernel
theorem dX5_ask_62 : decode cX5_ask 62 = .ok (.ifCond .eq 19, 3) := by decide +kernel
theorem dX5_ask_65 : decode cX5_ask 65 = .ok (.aload_n 0, 1) := by decide +kernel
theorem dX5_ask_66 : decode cX5_ask 66 = .ok (.iload 7, 2) := by decide +kernel
theorem dX5_ask_68 : decode cX5_ask 68 = .ok (.iload_n 1, 1) := by decide +kernel
theorem dX5_ask_69 : decode cX5_ask 69 = .ok (.invokevirtual 163, 3) := by decide +kernel
theorem dX5_ask_72 : decode cX5_ask 72 = .ok (.iload 5, 2) := by decide +kernel
theorem dX5_ask_74 : decode cX5_ask 74 = .ok (.if_icmp .ne 7, 3) := by decide +kernel
theorem dX5_ask_77 : decode cX5_ask 77 = .ok (.iconst 1, 1) := by decide +kernel
theorem dX5_ask_78 : decode cX5_ask 78 = .ok (.goto 4, 3) := by decide +kernel
theorem dX5_ask_81 : decode cX5_ask 81 = .ok (.iconst 0, 1) := by decide +kernel
theorem dX5_ask_82 : decode cX5_ask 82 = .ok (.iadd, 1) := by decide +kernel
theorem dX5_ask_83 : decode cX5_ask 83 = .ok (.istore 6, 2) := by decide +kernel
theorem dX5_ask_85 : decode cX5_ask 85 = .ok (.iinc 7 1, 3) := by decide +kernel
theorem dX5_ask_88 : decode cX5_ask 88 = .ok (.goto (-46), 3) := by decide +kernel
theorem dX5_ask_91 : decode cX5_ask 91 = .ok (.iload 6, 2) := by decide +kernel
theorem dX5_ask_93 : decode cX5_ask 93 = .ok (.iload_n 2, 1) := by decide +kernel
theorem dX5_ask_94 : decode cX5_ask 94 = .ok (.iload 6, 2) := by decide +kernel
theorem dX5_ask_96 : decode cX5_ask 96 = .ok (.isub, 1) := by decide +kernel
theorem dX5_ask_97 : decode cX5_ask 97 = .ok (.if_icmp .le 8, 3) := by decide +kernel
theorem dX5_ask_100 : decode cX5_ask 100 = .ok (.iload 6, 2) := by decide +kernel
theorem dX5_ask_102 : decode cX5_ask 102 = .ok (.goto 7, 3) := by decide +kernel
theorem dX5_ask_105 : decode cX5_ask 105 = .ok (.iload_n 2, 1) := by decide +kernel
theorem dX5_ask_106 : decode cX5_ask 106 = .ok (.iload 6, 2) := by decide +kernel
theorem dX5_ask_108 : decode cX5_ask 108 = .ok (.isub, 1) := by decide +kernel
theorem dX5_ask_109 : decode cX5_ask 109 = .ok (.istore 7, 2) := by decide +kernel
theorem dX5_ask_111 : decode cX5_ask 111 = .ok (.iload 7, 2) := by decide +kernel
theorem dX5_ask_113 : decode cX5_ask 113 = .ok (.iload 4, 2) := by decide +kernel
theorem dX5_ask_115 : decode cX5_ask 115 = .ok (.if_icmp .ge 8, 3) := by decide +kernel
theorem dX5_ask_118 : decode cX5_ask 118 = .ok (.iload 5, 2) := by decide +kernel
theorem dX5_ask_120 : decode cX5_ask 120 = .ok (.goto 4, 3) := by decide +kernel
theorem dX5_ask_123 : decode cX5_ask 123 = .ok (.iload_n 3, 1) := by decide +kernel
theorem dX5_ask_124 : decode cX5_ask 124 = .ok (.istore_n 3, 1) := by decide +kernel
theorem dX5_ask_125 : decode cX5_ask 125 = .ok (.iload 7, 2) := by decide +kernel
theorem dX5_ask_127 : decode cX5_ask 127 = .ok (.iload 4, 2) := by decide +kernel
theorem dX5_ask_129 : decode cX5_ask 129 = .ok (.if_icmp .ge 8, 3) := by decide +kernel
theorem dX5_ask_132 : decode cX5_ask 132 = .ok (.iload 7, 2) := by decide +kernel
theorem dX5_ask_134 : decode cX5_ask 134 = .ok (.goto 5, 3) := by decide +kernel
theorem dX5_ask_137 : decode cX5_ask 137 = .ok (.iload 4, 2) := by decide +kernel
theorem dX5_ask_139 : decode cX5_ask 139 = .ok (.istore 4, 2) := by decide +kernel
theorem dX5_ask_141 : decode cX5_ask 141 = .ok (.iinc 5 1, 3) := by decide +kernel
theorem dX5_ask_144 : decode cX5_ask 144 = .ok (.goto (-117), 3) := by decide +kernel
theorem dX5_ask_147 : decode cX5_ask 147 = .ok (.iload_n 3, 1) := by decide +kernel
theorem dX5_ask_148 : decode cX5_ask 148 = .ok (.ireturn, 1) := by decide +kernel
set_option maxRecDepth 20000 in
theorem ggX5_mark_X5_in : GoodIn wsX5_mark wsX5_in := goodIn_r _ [12] (by decide +kernel) (by decide +kernel)
set_option maxRecDepth 20000 in
theorem gX5_mark_X5_in : GoodIn wsX5_mark (va_wsS RX5 39 yX5_in wsX5_in) := goodIn_app (goodIn_of _ (by decide +kernel)) ggX5_mark_X5_in
set_option maxRecDepth 20000 in
theorem ggX5_mark_X5_isSaying : GoodIn wsX5_mark wsX5_isSaying := goodIn_r _ [16, 2, 9, 10, 11, 12, 43, 44, 45, 46, 47, 48, 49, 50, 51, 52, 53, 54, 55, 56, 57, 58, 59, 60, 61, 62, 63] (by decide +kernel) (by decide +kernel)
set_option maxRecDepth 20000 in
theorem gX5_mark_X5_isSaying : GoodIn wsX5_mark (wsV RX5 131 RX5 yX5_isSaying wsX5_isSaying) := goodIn_app (goodIn_of _ (by decide +kernel)) ggX5_mark_X5_isSaying
set_option maxRecDepth 20000 in
theorem ggX5_mark_X5_strengthOf : GoodIn wsX5_mark wsX5_strengthOf := goodIn_r _ [20, 2, 21, 22, 23, 24, 11, 25, 26, 27, 28, 29, 30, 43, 44, 45, 46, 47, 48, 49, 50, 51, 52, 53, 54, 55, 56, 57, 58, 59, 60, 61, 62, 63] (by decide +kernel) (by decide +kernel)
set_option maxRecDepth 20000 in
theorem gX5_mark_X5_strengthOf : GoodIn wsX5_mark (wsV RX5 115 RX5 yX5_strengthOf wsX5_strengthOf) := goodIn_app (goodIn_of _ (by decide +kernel)) ggX5_mark_X5_strengthOf
set_option maxRecDepth 20000 in
theorem ggX5_mark_X5_placeOf : GoodIn wsX5_mark wsX5_placeOf := goodIn_r _ [34, 2, 27, 28, 29, 11, 30, 35, 36, 37, 38, 39, 40, 41, 42, 26, 43, 44, 45, 46, 47, 48, 49, 50, 51, 52, 53, 54, 55, 56, 57, 58, 59, 60, 61, 62, 63] (by decide +kernel) (by decide +kernel)
set_option maxRecDepth 20000 in
theorem gX5_mark_X5_placeOf : GoodIn wsX5_mark (wsV RX5 118 RX5 yX5_placeOf wsX5_placeOf) := goodIn_app (goodIn_of _ (by decide +kernel)) ggX5_mark_X5_placeOf
theorem dX5_mark_0 : decode cX5_mark 0 = .ok (.iload_n 1, 1) := by decide +kernel
theorem dX5_mark_1 : decode cX5_mark 1 = .ok (.iconst 0, 1) := by decide +kernel
theorem dX5_mark_2 : decode cX5_mark 2 = .ok (.iconst 5, 1) := by decide +kernel
theorem dX5_mark_3 : decode cX5_mark 3 = .ok (.invokestatic 39, 3) := by decide +kernel
theorem dX5_mark_6 : decode cX5_mark 6 = .ok (.ifCond .eq 11, 3) := by decide +kernel
theorem dX5_mark_9 : decode cX5_mark 9 = .ok (.aload_n 0, 1) := by decide +kernel
theorem dX5_mark_10 : decode cX5_mark 10 = .ok (.iload_n 2, 1) := by decide +kernel
theorem dX5_mark_11 : decode cX5_mark 11 = .ok (.invokevirtual 131, 3) := by decide +kernel
theorem dX5_mark_14 : decode cX5_mark 14 = .ok (.ifCond .ne 6, 3) := by decide +kernel
theorem dX5_mark_17 : decode cX5_mark 17 = .ok (.ldc 172, 2) := by decide +kernel
theorem dX5_mark_19 : decode cX5_mark 19 = .ok (.ireturn, 1) := by decide +kernel
theorem dX5_mark_20 : decode cX5_mark 20 = .ok (.aload_n 0, 1) := by decide +kernel
theorem dX5_mark_21 : decode cX5_mark 21 = .ok (.getfield 20, 3) := by decide +kernel
theorem dX5_mark_24 : decode cX5_mark 24 = .ok (.bipush 26, 2) := by decide +kernel
theorem dX5_mark_26 : decode cX5_mark 26 = .ok (.iload_n 2, 1) := by decide +kernel
theorem dX5_mark_27 : decode cX5_mark 27 = .ok (.iadd, 1) := by decide +kernel
theorem dX5_mark_28 : decode cX5_mark 28 = .ok (.iaload, 1) := by decide +kernel
theorem dX5_mark_29 : decode cX5_mark 29 = .ok (.istore_n 3, 1) := by decide +kernel
theorem dX5_mark_30 : decode cX5_mark 30 = .ok (.aload_n 0, 1) := by decide +kernel
theorem dX5_mark_31 : decode cX5_mark 31 = .ok (.dup, 1) := by decide +kernel
theorem dX5_mark_32 : decode cX5_mark 32 = .ok (.getfield 173, 3) := by decide +kernel
theorem dX5_mark_35 : decode cX5_mark 35 = .ok (.lconst 1, 1) := by decide +kernel
theorem dX5_mark_36 : decode cX5_mark 36 = .ok (.ladd, 1) := by decide +kernel
theorem dX5_mark_37 : decode cX5_mark 37 = .ok (.putfield 173, 3) := by decide +kernel
theorem dX5_mark_40 : decode cX5_mark 40 = .ok (.iload_n 1, 1) := by decide +kernel
theorem dX5_mark_41 : decode cX5_mark 41 = .ok (.tableswitch 150 1 5 #[35, 56, 80, 103, 129], 35) := by decide +kernel
theorem dX5_mark_76 : decode cX5_mark 76 = .ok (.aload_n 0, 1) := by decide +kernel
theorem dX5_mark_77 : decode cX5_mark 77 = .ok (.dup, 1) := by decide +kernel
theorem dX5_mark_78 : decode cX5_mark 78 = .ok (.getfield 173, 3) := by decide +kernel
theorem dX5_mark_81 : decode cX5_mark 81 = .ok (.ldc2_w 177, 3) := by decide +kernel
theorem dX5_mark_84 : decode cX5_mark 84 = .ok (.ladd, 1) := by decide +kernel
theorem dX5_mark_85 : decode cX5_mark 85 = .ok (.putfield 173, 3) := by decide +kernel
theorem dX5_mark_88 : decode cX5_mark 88 = .ok (.iload_n 3, 1) := by decide +kernel
theorem dX5_mark_89 : decode cX5_mark 89 = .ok (.aload_n 0, 1) := by decide +kernel
theorem dX5_mark_90 : decode cX5_mark 90 = .ok (.iload_n 2, 1) := by decide +kernel
theorem dX5_mark_91 : decode cX5_mark 91 = .ok (.iconst 0, 1) := by decide +kernel
theorem dX5_mark_92 : decode cX5_mark 92 = .ok (.invokevirtual 115, 3) := by decide +kernel
theorem dX5_mark_95 : decode cX5_mark 95 = .ok (.iadd, 1) := by decide +kernel
theorem dX5_mark_96 : decode cX5_mark 96 = .ok (.ireturn, 1) := by decide +kernel
theorem dX5_mark_97 : decode cX5_mark 97 = .ok (.aload_n 0, 1) := by decide +kernel
theorem dX5_mark_98 : decode cX5_mark 98 = .ok (.dup, 1) := by decide +kernel
theorem dX5_mark_99 : decode cX5_mark 99 = .ok (.getfield 173, 3) := by decide +kernel
theorem dX5_mark_102 : decode cX5_mark 102 = .ok (.ldc2_w 179, 3) := by decide +kernel
theorem dX5_mark_105 : decode cX5_mark 105 = .ok (.ladd, 1) := by decide +kernel
theorem dX5_mark_106 : decode cX5_mark 106 = .ok (.putfield 173, 3) := by decide +kernel
theorem dX5_mark_109 : decode cX5_mark 109 = .ok (.iload_n 3, 1) := by decide +kernel
theorem dX5_mark_110 : decode cX5_mark 110 = .ok (.aload_n 0, 1) := by decide +kernel
theorem dX5_mark_111 : decode cX5_mark 111 = .ok (.getfield 20, 3) := by decide +kernel
theorem dX5_mark_114 : decode cX5_mark 114 = .ok (.bipush 10, 2) := by decide +kernel
theorem dX5_mark_116 : decode cX5_mark 116 = .ok (.iload_n 2, 1) := by decide +kernel
theorem dX5_mark_117 : decode cX5_mark 117 = .ok (.iadd, 1) := by decide +kernel
theorem dX5_mark_118 : decode cX5_mark 118 = .ok (.iaload, 1) := by decide +kernel
theorem dX5_mark_119 : decode cX5_mark 119 = .ok (.isub, 1) := by decide +kernel
theorem dX5_mark_120 : decode cX5_mark 120 = .ok (.ireturn, 1) := by decide +kernel
theorem dX5_mark_121 : decode cX5_mark 121 = .ok (.aload_n 0, 1) := by decide +kernel
theorem dX5_mark_122 : decode cX5_mark 122 = .ok (.dup, 1) := by decide +kernel
theorem dX5_mark_123 : decode cX5_mark 123 = .ok (.getfield 173, 3) := by decide +kernel
theorem dX5_mark_126 : decode cX5_mark 126 = .ok (.ldc2_w 181, 3) := by decide +kernel
theorem dX5_mark_129 : decode cX5_mark 129 = .ok (.ladd, 1) := by decide +kernel
theorem dX5_mark_130 : decode cX5_mark 130 = .ok (.putfield 173, 3) := by decide +kernel
theorem dX5_mark_133 : decode cX5_mark 133 = .ok (.iconst 2, 1) := by decide +kernel
theorem dX5_mark_134 : decode cX5_mark 134 = .ok (.iload_n 3, 1) := by decide +kernel
theorem dX5_mark_135 : decode cX5_mark 135 = .ok (.aload_n 0, 1) := by decide +kernel
theorem dX5_mark_136 : decode cX5_mark 136 = .ok (.iload_n 2, 1) := by decide +kernel
theorem dX5_mark_137 : decode cX5_mark 137 = .ok (.iconst 0, 1) := by decide +kernel
theorem dX5_mark_138 : decode cX5_mark 138 = .ok (.invokevirtual 115, 3) := by decide +kernel
theorem dX5_mark_141 : decode cX5_mark 141 = .ok (.iadd, 1) := by decide +kernel
theorem dX5_mark_142 : decode cX5_mark 142 = .ok (.imul, 1) := by decide +kernel
theorem dX5_mark_143 : decode cX5_mark 143 = .ok (.ireturn, 1) := by decide +kernel
theorem dX5_mark_144 : decode cX5_mark 144 = .ok (.aload_n 0, 1) := by decide +kernel
theorem dX5_mark_145 : decode cX5_mark 145 = .ok (.dup, 1) := by decide +kernel
theorem dX5_mark_146 : decode cX5_mark 146 = .ok (.getfield 173, 3) := by decide +kernel
theorem dX5_mark_149 : decode cX5_mark 149 = .ok (.ldc2_w 183, 3) := by decide +kernel
theorem dX5_mark_152 : decode cX5_mark 152 = .ok (.ladd, 1) := by decide +kernel
theorem dX5_mark_153 : decode cX5_mark 153 = .ok (.putfield 173, 3) := by decide +kernel
theorem dX5_mark_156 : decode cX5_mark 156 = .ok (.iload_n 3, 1) := by decide +kernel
theorem dX5_mark_157 : decode cX5_mark 157 = .ok (.aload_n 0, 1) := by decide +kernel
theorem dX5_mark_158 : decode cX5_mark 158 = .ok (.getfield 20, 3) := by decide +kernel
theorem dX5_mark_161 : decode cX5_mark 161 = .ok (.bipush 10, 2) := by decide +kernel
theorem dX5_mark_163 : decode cX5_mark 163 = .ok (.iload_n 2, 1) := by decide +kernel
theorem dX5_mark_164 : decode cX5_mark 164 = .ok (.iadd, 1) := by decide +kernel
theorem dX5_mark_165 : decode cX5_mark 165 = .ok (.iaload, 1) := by decide +kernel
theorem dX5_mark_166 : decode cX5_mark 166 = .ok (.isub, 1) := by decide +kernel
theorem dX5_mark_167 : decode cX5_mark 167 = .ok (.iload_n 2, 1) := by decide +kernel
theorem dX5_mark_168 : decode cX5_mark 168 = .ok (.iadd, 1) := by decide +kernel
theorem dX5_mark_169 : decode cX5_mark 169 = .ok (.ireturn, 1) := by decide +kernel
theorem dX5_mark_170 : decode cX5_mark 170 = .ok (.aload_n 0, 1) := by decide +kernel
theorem dX5_mark_171 : decode cX5_mark 171 = .ok (.dup, 1) := by decide +kernel
theorem dX5_mark_172 : decode cX5_mark 172 = .ok (.getfield 173, 3) := by decide +kernel
theorem dX5_mark_175 : decode cX5_mark 175 = .ok (.ldc2_w 185, 3) := by decide +kernel
theorem dX5_mark_178 : decode cX5_mark 178 = .ok (.ladd, 1) := by decide +kernel
theorem dX5_mark_179 : decode cX5_mark 179 = .ok (.putfield 173, 3) := by decide +kernel
theorem dX5_mark_182 : decode cX5_mark 182 = .ok (.iload_n 3, 1) := by decide +kernel
theorem dX5_mark_183 : decode cX5_mark 183 = .ok (.aload_n 0, 1) := by decide +kernel
theorem dX5_mark_184 : decode cX5_mark 184 = .ok (.iload_n 2, 1) := by decide +kernel
theorem dX5_mark_185 : decode cX5_mark 185 = .ok (.iconst 0, 1) := by decide +kernel
theorem dX5_mark_186 : decode cX5_mark 186 = .ok (.invokevirtual 118, 3) := by decide +kernel
theorem dX5_mark_189 : decode cX5_mark 189 = .ok (.iadd, 1) := by decide +kernel
theorem dX5_mark_190 : decode cX5_mark 190 = .ok (.ireturn, 1) := by decide +kernel
theorem dX5_mark_191 : decode cX5_mark 191 = .ok (.iload_n 3, 1) := by decide +kernel
theorem dX5_mark_192 : decode cX5_mark 192 = .ok (.ireturn, 1) := by decide +kernel
set_option maxRecDepth 20000 in
theorem ggX5_keep_X5_in : GoodIn wsX5_keep wsX5_in := goodIn_r _ [9] (by decide +kernel) (by decide +kernel)
set_option maxRecDepth 20000 in
theorem gX5_keep_X5_in : GoodIn wsX5_keep (va_wsS RX5 39 yX5_in wsX5_in) := goodIn_app (goodIn_of _ (by decide +kernel)) ggX5_keep_X5_in
set_option maxRecDepth 20000 in
theorem ggX5_keep_X5_bring : GoodIn wsX5_keep wsX5_bring := goodIn_r _ [12] (by decide +kernel) (by decide +kernel)
set_option maxRecDepth 20000 in
theorem gX5_keep_X5_bring : GoodIn wsX5_keep (va_wsS RX5 91 yX5_bring wsX5_bring) := goodIn_app (goodIn_of _ (by decide +kernel)) ggX5_keep_X5_bring
theorem dX5_keep_0 : decode cX5_keep 0 = .ok (.iload_n 1, 1) := by decide +kernel
theorem dX5_keep_1 : decode cX5_keep 1 = .ok (.iconst 0, 1) := by decide +kernel
theorem dX5_keep_2 : decode cX5_keep 2 = .ok (.iconst 1, 1) := by decide +kernel
theorem dX5_keep_3 : decode cX5_keep 3 = .ok (.invokestatic 39, 3) := by decide +kernel
theorem dX5_keep_6 : decode cX5_keep 6 = .ok (.ifCond .ne 5, 3) := by decide +kernel
theorem dX5_keep_9 : decode cX5_keep 9 = .ok (.iconst (-1), 1) := by decide +kernel
theorem dX5_keep_10 : decode cX5_keep 10 = .ok (.ireturn, 1) := by decide +kernel
theorem dX5_keep_11 : decode cX5_keep 11 = .ok (.sipush 551, 3) := by decide +kernel
theorem dX5_keep_14 : decode cX5_keep 14 = .ok (.iload_n 1, 1) := by decide +kernel
theorem dX5_keep_15 : decode cX5_keep 15 = .ok (.imul, 1) := by decide +kernel
theorem dX5_keep_16 : decode cX5_keep 16 = .ok (.istore_n 2, 1) := by decide +kernel
theorem dX5_keep_17 : decode cX5_keep 17 = .ok (.aload_n 0, 1) := by decide +kernel
theorem dX5_keep_18 : decode cX5_keep 18 = .ok (.getfield 29, 3) := by decide +kernel
theorem dX5_keep_21 : decode cX5_keep 21 = .ok (.iload_n 1, 1) := by decide +kernel
theorem dX5_keep_22 : decode cX5_keep 22 = .ok (.iconst 1, 1) := by decide +kernel
theorem dX5_keep_23 : decode cX5_keep 23 = .ok (.bastore, 1) := by decide +kernel
theorem dX5_keep_24 : decode cX5_keep 24 = .ok (.aload_n 0, 1) := by decide +kernel
theorem dX5_keep_25 : decode cX5_keep 25 = .ok (.getfield 26, 3) := by decide +kernel
theorem dX5_keep_28 : decode cX5_keep 28 = .ok (.iload_n 2, 1) := by decide +kernel
theorem dX5_keep_29 : decode cX5_keep 29 = .ok (.aload_n 0, 1) := by decide +kernel
theorem dX5_keep_30 : decode cX5_keep 30 = .ok (.getfield 95, 3) := by decide +kernel
theorem dX5_keep_33 : decode cX5_keep 33 = .ok (.iastore, 1) := by decide +kernel
theorem dX5_keep_34 : decode cX5_keep 34 = .ok (.aload_n 0, 1) := by decide +kernel
theorem dX5_keep_35 : decode cX5_keep 35 = .ok (.getfield 20, 3) := by decide +kernel
theorem dX5_keep_38 : decode cX5_keep 38 = .ok (.iconst 0, 1) := by decide +kernel
theorem dX5_keep_39 : decode cX5_keep 39 = .ok (.aload_n 0, 1) := by decide +kernel
theorem dX5_keep_40 : decode cX5_keep 40 = .ok (.getfield 26, 3) := by decide +kernel
theorem dX5_keep_43 : decode cX5_keep 43 = .ok (.iload_n 2, 1) := by decide +kernel
theorem dX5_keep_44 : decode cX5_keep 44 = .ok (.iconst 1, 1) := by decide +kernel
theorem dX5_keep_45 : decode cX5_keep 45 = .ok (.iadd, 1) := by decide +kernel
theorem dX5_keep_46 : decode cX5_keep 46 = .ok (.bipush 50, 2) := by decide +kernel
theorem dX5_keep_48 : decode cX5_keep 48 = .ok (.invokestatic 91, 3) := by decide +kernel
theorem dX5_keep_51 : decode cX5_keep 51 = .ok (.aload_n 0, 1) := by decide +kernel
theorem dX5_keep_52 : decode cX5_keep 52 = .ok (.getfield 23, 3) := by decide +kernel
theorem dX5_keep_55 : decode cX5_keep 55 = .ok (.iconst 0, 1) := by decide +kernel
theorem dX5_keep_56 : decode cX5_keep 56 = .ok (.aload_n 0, 1) := by decide +kernel
theorem dX5_keep_57 : decode cX5_keep 57 = .ok (.getfield 26, 3) := by decide +kernel
theorem dX5_keep_60 : decode cX5_keep 60 = .ok (.iload_n 2, 1) := by decide +kernel
theorem dX5_keep_61 : decode cX5_keep 61 = .ok (.iconst 1, 1) := by decide +kernel
theorem dX5_keep_62 : decode cX5_keep 62 = .ok (.iadd, 1) := by decide +kernel
theorem dX5_keep_63 : decode cX5_keep 63 = .ok (.bipush 50, 2) := by decide +kernel
theorem dX5_keep_65 : decode cX5_keep 65 = .ok (.iadd, 1) := by decide +kernel
theorem dX5_keep_66 : decode cX5_keep 66 = .ok (.sipush 500, 3) := by decide +kernel
theorem dX5_keep_69 : decode cX5_keep 69 = .ok (.invokestatic 91, 3) := by decide +kernel
theorem dX5_keep_72 : decode cX5_keep 72 = .ok (.aload_n 0, 1) := by decide +kernel
theorem dX5_keep_73 : decode cX5_keep 73 = .ok (.getfield 20, 3) := by decide +kernel
theorem dX5_keep_76 : decode cX5_keep 76 = .ok (.iconst 0, 1) := by decide +kernel
theorem dX5_keep_77 : decode cX5_keep 77 = .ok (.iaload, 1) := by decide +kernel
theorem dX5_keep_78 : decode cX5_keep 78 = .ok (.ireturn, 1) := by decide +kernel
set_option maxRecDepth 20000 in
theorem ggX5_back_X5_in : GoodIn wsX5_back wsX5_in := goodIn_r _ [9] (by decide +kernel) (by decide +kernel)
set_option maxRecDepth 20000 in
theorem gX5_back_X5_in : GoodIn wsX5_back (va_wsS RX5 39 yX5_in wsX5_in) := goodIn_app (goodIn_of _ (by decide +kernel)) ggX5_back_X5_in
set_option maxRecDepth 20000 in
theorem ggX5_back_X5_bring : GoodIn wsX5_back wsX5_bring := goodIn_r _ [12] (by decide +kernel) (by decide +kernel)
set_option maxRecDepth 20000 in
theorem gX5_back_X5_bring : GoodIn wsX5_back (va_wsS RX5 91 yX5_bring wsX5_bring) := goodIn_app (goodIn_of _ (by decide +kernel)) ggX5_back_X5_bring
theorem dX5_back_0 : decode cX5_back 0 = .ok (.iload_n 1, 1) := by decide +kernel
theorem dX5_back_1 : decode cX5_back 1 = .ok (.iconst 0, 1) := by decide +kernel
theorem dX5_back_2 : decode cX5_back 2 = .ok (.iconst 1, 1) := by decide +kernel
theorem dX5_back_3 : decode cX5_back 3 = .ok (.invokestatic 39, 3) := by decide +kernel
theorem dX5_back_6 : decode cX5_back 6 = .ok (.ifCond .ne 5, 3) := by decide +kernel
theorem dX5_back_9 : decode cX5_back 9 = .ok (.iconst (-1), 1) := by decide +kernel
theorem dX5_back_10 : decode cX5_back 10 = .ok (.ireturn, 1) := by decide +kernel
theorem dX5_back_11 : decode cX5_back 11 = .ok (.aload_n 0, 1) := by decide +kernel
theorem dX5_back_12 : decode cX5_back 12 = .ok (.getfield 29, 3) := by decide +kernel
theorem dX5_back_15 : decode cX5_back 15 = .ok (.iload_n 1, 1) := by decide +kernel
theorem dX5_back_16 : decode cX5_back 16 = .ok (.baload, 1) := by decide +kernel
theorem dX5_back_17 : decode cX5_back 17 = .ok (.ifCond .ne 6, 3) := by decide +kernel
theorem dX5_back_20 : decode cX5_back 20 = .ok (.bipush (-2), 2) := by decide +kernel
theorem dX5_back_22 : decode cX5_back 22 = .ok (.ireturn, 1) := by decide +kernel
theorem dX5_back_23 : decode cX5_back 23 = .ok (.sipush 551, 3) := by decide +kernel
theorem dX5_back_26 : decode cX5_back 26 = .ok (.iload_n 1, 1) := by decide +kernel
theorem dX5_back_27 : decode cX5_back 27 = .ok (.imul, 1) := by decide +kernel
theorem dX5_back_28 : decode cX5_back 28 = .ok (.istore_n 2, 1) := by decide +kernel
theorem dX5_back_29 : decode cX5_back 29 = .ok (.aload_n 0, 1) := by decide +kernel
theorem dX5_back_30 : decode cX5_back 30 = .ok (.aload_n 0, 1) := by decide +kernel
theorem dX5_back_31 : decode cX5_back 31 = .ok (.getfield 26, 3) := by decide +kernel
theorem dX5_back_34 : decode cX5_back 34 = .ok (.iload_n 2, 1) := by decide +kernel
theorem dX5_back_35 : decode cX5_back 35 = .ok (.iaload, 1) := by decide +kernel
theorem dX5_back_36 : decode cX5_back 36 = .ok (.putfield 95, 3) := by decide +kernel
theorem dX5_back_39 : decode cX5_back 39 = .ok (.aload_n 0, 1) := by decide +kernel
theorem dX5_back_40 : decode cX5_back 40 = .ok (.getfield 26, 3) := by decide +kernel
theorem dX5_back_43 : decode cX5_back 43 = .ok (.iload_n 2, 1) := by decide +kernel
theorem dX5_back_44 : decode cX5_back 44 = .ok (.iconst 1, 1) := by decide +kernel
theorem dX5_back_45 : decode cX5_back 45 = .ok (.iadd, 1) := by decide +kernel
theorem dX5_back_46 : decode cX5_back 46 = .ok (.aload_n 0, 1) := by decide +kernel
theorem dX5_back_47 : decode cX5_back 47 = .ok (.getfield 20, 3) := by decide +kernel
theorem dX5_back_50 : decode cX5_back 50 = .ok (.iconst 0, 1) := by decide +kernel
theorem dX5_back_51 : decode cX5_back 51 = .ok (.bipush 50, 2) := by decide +kernel
theorem dX5_back_53 : decode cX5_back 53 = .ok (.invokestatic 91, 3) := by decide +kernel
theorem dX5_back_56 : decode cX5_back 56 = .ok (.aload_n 0, 1) := by decide +kernel
theorem dX5_back_57 : decode cX5_back 57 = .ok (.getfield 26, 3) := by decide +kernel
theorem dX5_back_60 : decode cX5_back 60 = .ok (.iload_n 2, 1) := by decide +kernel
theorem dX5_back_61 : decode cX5_back 61 = .ok (.iconst 1, 1) := by decide +kernel
theorem dX5_back_62 : decode cX5_back 62 = .ok (.iadd, 1) := by decide +kernel
theorem dX5_back_63 : decode cX5_back 63 = .ok (.bipush 50, 2) := by decide +kernel
theorem dX5_back_65 : decode cX5_back 65 = .ok (.iadd, 1) := by decide +kernel
theorem dX5_back_66 : decode cX5_back 66 = .ok (.aload_n 0, 1) := by decide +kernel
theorem dX5_back_67 : decode cX5_back 67 = .ok (.getfield 23, 3) := by decide +kernel
theorem dX5_back_70 : decode cX5_back 70 = .ok (.iconst 0, 1) := by decide +kernel
theorem dX5_back_71 : decode cX5_back 71 = .ok (.sipush 500, 3) := by decide +kernel
theorem dX5_back_74 : decode cX5_back 74 = .ok (.invokestatic 91, 3) := by decide +kernel
theorem dX5_back_77 : decode cX5_back 77 = .ok (.aload_n 0, 1) := by decide +kernel
theorem dX5_back_78 : decode cX5_back 78 = .ok (.getfield 20, 3) := by decide +kernel
theorem dX5_back_81 : decode cX5_back 81 = .ok (.iconst 0, 1) := by decide +kernel
theorem dX5_back_82 : decode cX5_back 82 = .ok (.iaload, 1) := by decide +kernel
theorem dX5_back_83 : decode cX5_back 83 = .ok (.ireturn, 1) := by decide +kernel
set_option maxRecDepth 20000 in
theorem ggX5_count_X5_bits : GoodIn wsX5_count wsX5_bits := goodIn_r _ [11] (by decide +kernel) (by decide +kernel)
set_option maxRecDepth 20000 in
theorem gX5_count_X5_bits : GoodIn wsX5_count (va_wsS RX5 153 yX5_bits wsX5_bits) := goodIn_app (goodIn_of _ (by decide +kernel)) ggX5_count_X5_bits
theorem dX5_count_0 : decode cX5_count 0 = .ok (.iload_n 1, 1) := by decide +kernel
theorem dX5_count_1 : decode cX5_count 1 = .ok (.tableswitch 83 0 6 #[43, 48, 55, 60, 68, 73, 78], 43) := by decide +kernel
theorem dX5_count_44 : decode cX5_count 44 = .ok (.aload_n 0, 1) := by decide +kernel
theorem dX5_count_45 : decode cX5_count 45 = .ok (.getfield 13, 3) := by decide +kernel
theorem dX5_count_48 : decode cX5_count 48 = .ok (.ireturn, 1) := by decide +kernel
theorem dX5_count_49 : decode cX5_count 49 = .ok (.aload_n 0, 1) := by decide +kernel
theorem dX5_count_50 : decode cX5_count 50 = .ok (.getfield 20, 3) := by decide +kernel
theorem dX5_count_53 : decode cX5_count 53 = .ok (.iconst 1, 1) := by decide +kernel
theorem dX5_count_54 : decode cX5_count 54 = .ok (.iaload, 1) := by decide +kernel
theorem dX5_count_55 : decode cX5_count 55 = .ok (.ireturn, 1) := by decide +kernel
theorem dX5_count_56 : decode cX5_count 56 = .ok (.aload_n 0, 1) := by decide +kernel
theorem dX5_count_57 : decode cX5_count 57 = .ok (.getfield 17, 3) := by decide +kernel
theorem dX5_count_60 : decode cX5_count 60 = .ok (.ireturn, 1) := by decide +kernel
theorem dX5_count_61 : decode cX5_count 61 = .ok (.aload_n 0, 1) := by decide +kernel
theorem dX5_count_62 : decode cX5_count 62 = .ok (.getfield 88, 3) := by decide +kernel
theorem dX5_count_65 : decode cX5_count 65 = .ok (.invokestatic 153, 3) := by decide +kernel
theorem dX5_count_68 : decode cX5_count 68 = .ok (.ireturn, 1) := by decide +kernel
theorem dX5_count_69 : decode cX5_count 69 = .ok (.aload_n 0, 1) := by decide +kernel
theorem dX5_count_70 : decode cX5_count 70 = .ok (.getfield 98, 3) := by decide +kernel
theorem dX5_count_73 : decode cX5_count 73 = .ok (.ireturn, 1) := by decide +kernel
theorem dX5_count_74 : decode cX5_count 74 = .ok (.aload_n 0, 1) := by decide +kernel
theorem dX5_count_75 : decode cX5_count 75 = .ok (.getfield 95, 3) := by decide +kernel
theorem dX5_count_78 : decode cX5_count 78 = .ok (.ireturn, 1) := by decide +kernel
theorem dX5_count_79 : decode cX5_count 79 = .ok (.aload_n 0, 1) := by decide +kernel
theorem dX5_count_80 : decode cX5_count 80 = .ok (.getfield 43, 3) := by decide +kernel
theorem dX5_count_83 : decode cX5_count 83 = .ok (.ireturn, 1) := by decide +kernel
theorem dX5_count_84 : decode cX5_count 84 = .ok (.iconst (-1), 1) := by decide +kernel
theorem dX5_count_85 : decode cX5_count 85 = .ok (.ireturn, 1) := by decide +kernel
theorem dX5_trace_0 : decode cX5_trace 0 = .ok (.aload_n 0, 1) := by decide +kernel
theorem dX5_trace_1 : decode cX5_trace 1 = .ok (.getfield 173, 3) := by decide +kernel
theorem dX5_trace_4 : decode cX5_trace 4 = .ok (.lreturn, 1) := by decide +kernel
