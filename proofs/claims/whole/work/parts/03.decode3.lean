theorem dX6_swing_7 : decode cX6_swing 7 = .ok (.ifCond .eq 12, 3) := by decide +kernel
theorem dX6_swing_10 : decode cX6_swing 10 = .ok (.iload_n 2, 1) := by decide +kernel
theorem dX6_swing_11 : decode cX6_swing 11 = .ok (.iconst 0, 1) := by decide +kernel
theorem dX6_swing_12 : decode cX6_swing 12 = .ok (.iconst 2, 1) := by decide +kernel
theorem dX6_swing_13 : decode cX6_swing 13 = .ok (.invokestatic 47, 3) := by decide +kernel
theorem dX6_swing_16 : decode cX6_swing 16 = .ok (.ifCond .ne 7, 3) := by decide +kernel
theorem dX6_swing_19 : decode cX6_swing 19 = .ok (.sipush (-1002), 3) := by decide +kernel
theorem dX6_swing_22 : decode cX6_swing 22 = .ok (.ireturn, 1) := by decide +kernel
theorem dX6_swing_23 : decode cX6_swing 23 = .ok (.aload_n 0, 1) := by decide +kernel
theorem dX6_swing_24 : decode cX6_swing 24 = .ok (.getfield 25, 3) := by decide +kernel
theorem dX6_swing_27 : decode cX6_swing 27 = .ok (.iload_n 1, 1) := by decide +kernel
theorem dX6_swing_28 : decode cX6_swing 28 = .ok (.sipush 148, 3) := by decide +kernel
theorem dX6_swing_31 : decode cX6_swing 31 = .ok (.invokevirtual 104, 3) := by decide +kernel
theorem dX6_swing_34 : decode cX6_swing 34 = .ok (.aload_n 0, 1) := by decide +kernel
theorem dX6_swing_35 : decode cX6_swing 35 = .ok (.getfield 25, 3) := by decide +kernel
theorem dX6_swing_38 : decode cX6_swing 38 = .ok (.bipush 100, 2) := by decide +kernel
theorem dX6_swing_40 : decode cX6_swing 40 = .ok (.sipush 148, 3) := by decide +kernel
theorem dX6_swing_43 : decode cX6_swing 43 = .ok (.invokevirtual 108, 3) := by decide +kernel
theorem dX6_swing_46 : decode cX6_swing 46 = .ok (.istore_n 3, 1) := by decide +kernel
theorem dX6_swing_47 : decode cX6_swing 47 = .ok (.aload_n 0, 1) := by decide +kernel
theorem dX6_swing_48 : decode cX6_swing 48 = .ok (.getfield 25, 3) := by decide +kernel
theorem dX6_swing_51 : decode cX6_swing 51 = .ok (.bipush 100, 2) := by decide +kernel
theorem dX6_swing_53 : decode cX6_swing 53 = .ok (.sipush 148, 3) := by decide +kernel
theorem dX6_swing_56 : decode cX6_swing 56 = .ok (.invokevirtual 111, 3) := by decide +kernel
theorem dX6_swing_59 : decode cX6_swing 59 = .ok (.istore 4, 2) := by decide +kernel
theorem dX6_swing_61 : decode cX6_swing 61 = .ok (.iload_n 2, 1) := by decide +kernel
theorem dX6_swing_62 : decode cX6_swing 62 = .ok (.ifCond .ne 15, 3) := by decide +kernel
theorem dX6_swing_65 : decode cX6_swing 65 = .ok (.iload_n 3, 1) := by decide +kernel
theorem dX6_swing_66 : decode cX6_swing 66 = .ok (.iload 4, 2) := by decide +kernel
theorem dX6_swing_68 : decode cX6_swing 68 = .ok (.if_icmp .ne 7, 3) := by decide +kernel
theorem dX6_swing_71 : decode cX6_swing 71 = .ok (.iconst 0, 1) := by decide +kernel
theorem dX6_swing_72 : decode cX6_swing 72 = .ok (.goto 4, 3) := by decide +kernel
theorem dX6_swing_75 : decode cX6_swing 75 = .ok (.iconst 1, 1) := by decide +kernel
theorem dX6_swing_76 : decode cX6_swing 76 = .ok (.ireturn, 1) := by decide +kernel
theorem dX6_swing_77 : decode cX6_swing 77 = .ok (.iload_n 2, 1) := by decide +kernel
theorem dX6_swing_78 : decode cX6_swing 78 = .ok (.iconst 1, 1) := by decide +kernel
theorem dX6_swing_79 : decode cX6_swing 79 = .ok (.if_icmp .ne 7, 3) := by decide +kernel
theorem dX6_swing_82 : decode cX6_swing 82 = .ok (.iload_n 3, 1) := by decide +kernel
theorem dX6_swing_83 : decode cX6_swing 83 = .ok (.goto 5, 3) := by decide +kernel
theorem dX6_swing_86 : decode cX6_swing 86 = .ok (.iload 4, 2) := by decide +kernel
theorem dX6_swing_88 : decode cX6_swing 88 = .ok (.ireturn, 1) := by decide +kernel
set_option maxRecDepth 20000 in
theorem ggX6_digest_X4_figure : GoodIn wsX6_digest wsX4_figure := goodIn_r _ [6, 7, 8, 9, 10, 11, 12, 13, 14, 15, 16, 17, 18, 19, 20, 21, 22, 23, 24, 25, 26, 27, 39, 40, 41, 42, 43, 44, 45, 46, 47, 48, 49, 50, 51, 52, 53, 54, 55, 56, 57, 58, 59, 60, 61, 62, 63, 64] rfl (by decide +kernel)
set_option maxRecDepth 20000 in
theorem gX6_digest_X4_figure : GoodIn wsX6_digest (wsV RX6 87 RX4 yX4_figure wsX4_figure) := goodIn_app (goodIn_of _ (by decide +kernel)) ggX6_digest_X4_figure
set_option maxRecDepth 20000 in
theorem ggX6_digest_X3_stateOf : GoodIn wsX6_digest wsX3_stateOf := goodIn_r _ [31, 26, 32, 33, 34, 63, 64] rfl (by decide +kernel)
set_option maxRecDepth 20000 in
theorem gX6_digest_X3_stateOf : GoodIn wsX6_digest (wsV RX6 81 RX3 yX3_stateOf wsX3_stateOf) := goodIn_app (goodIn_of _ (by decide +kernel)) ggX6_digest_X3_stateOf
theorem dX6_digest_0 : decode cX6_digest 0 = .ok (.bipush 7, 2) := by decide +kernel
theorem dX6_digest_2 : decode cX6_digest 2 = .ok (.istore_n 1, 1) := by decide +kernel
theorem dX6_digest_3 : decode cX6_digest 3 = .ok (.iconst 0, 1) := by decide +kernel
theorem dX6_digest_4 : decode cX6_digest 4 = .ok (.istore_n 2, 1) := by decide +kernel
theorem dX6_digest_5 : decode cX6_digest 5 = .ok (.iload_n 2, 1) := by decide +kernel
theorem dX6_digest_6 : decode cX6_digest 6 = .ok (.bipush 13, 2) := by decide +kernel
theorem dX6_digest_8 : decode cX6_digest 8 = .ok (.if_icmp .ge 23, 3) := by decide +kernel
theorem dX6_digest_11 : decode cX6_digest 11 = .ok (.bipush 31, 2) := by decide +kernel
theorem dX6_digest_13 : decode cX6_digest 13 = .ok (.iload_n 1, 1) := by decide +kernel
theorem dX6_digest_14 : decode cX6_digest 14 = .ok (.imul, 1) := by decide +kernel
theorem dX6_digest_15 : decode cX6_digest 15 = .ok (.aload_n 0, 1) := by decide +kernel
theorem dX6_digest_16 : decode cX6_digest 16 = .ok (.getfield 21, 3) := by decide +kernel
theorem dX6_digest_19 : decode cX6_digest 19 = .ok (.iload_n 2, 1) := by decide +kernel
theorem dX6_digest_20 : decode cX6_digest 20 = .ok (.invokevirtual 87, 3) := by decide +kernel
theorem dX6_digest_23 : decode cX6_digest 23 = .ok (.iadd, 1) := by decide +kernel
theorem dX6_digest_24 : decode cX6_digest 24 = .ok (.istore_n 1, 1) := by decide +kernel
theorem dX6_digest_25 : decode cX6_digest 25 = .ok (.iinc 2 1, 3) := by decide +kernel
theorem dX6_digest_28 : decode cX6_digest 28 = .ok (.goto (-23), 3) := by decide +kernel
theorem dX6_digest_31 : decode cX6_digest 31 = .ok (.iconst 0, 1) := by decide +kernel
theorem dX6_digest_32 : decode cX6_digest 32 = .ok (.istore_n 2, 1) := by decide +kernel
theorem dX6_digest_33 : decode cX6_digest 33 = .ok (.iload_n 2, 1) := by decide +kernel
theorem dX6_digest_34 : decode cX6_digest 34 = .ok (.bipush 12, 2) := by decide +kernel
theorem dX6_digest_36 : decode cX6_digest 36 = .ok (.if_icmp .ge 26, 3) := by decide +kernel
theorem dX6_digest_39 : decode cX6_digest 39 = .ok (.bipush 31, 2) := by decide +kernel
theorem dX6_digest_41 : decode cX6_digest 41 = .ok (.iload_n 1, 1) := by decide +kernel
theorem dX6_digest_42 : decode cX6_digest 42 = .ok (.imul, 1) := by decide +kernel
theorem dX6_digest_43 : decode cX6_digest 43 = .ok (.aload_n 0, 1) := by decide +kernel
theorem dX6_digest_44 : decode cX6_digest 44 = .ok (.getfield 21, 3) := by decide +kernel
theorem dX6_digest_47 : decode cX6_digest 47 = .ok (.getfield 69, 3) := by decide +kernel
theorem dX6_digest_50 : decode cX6_digest 50 = .ok (.iload_n 2, 1) := by decide +kernel
theorem dX6_digest_51 : decode cX6_digest 51 = .ok (.invokevirtual 81, 3) := by decide +kernel
theorem dX6_digest_54 : decode cX6_digest 54 = .ok (.iadd, 1) := by decide +kernel
theorem dX6_digest_55 : decode cX6_digest 55 = .ok (.istore_n 1, 1) := by decide +kernel
theorem dX6_digest_56 : decode cX6_digest 56 = .ok (.iinc 2 1, 3) := by decide +kernel
theorem dX6_digest_59 : decode cX6_digest 59 = .ok (.goto (-26), 3) := by decide +kernel
theorem dX6_digest_62 : decode cX6_digest 62 = .ok (.iload_n 1, 1) := by decide +kernel
theorem dX6_digest_63 : decode cX6_digest 63 = .ok (.ireturn, 1) := by decide +kernel
theorem dX6_within_0 : decode cX6_within 0 = .ok (.iload_n 0, 1) := by decide +kernel
theorem dX6_within_1 : decode cX6_within 1 = .ok (.iload_n 1, 1) := by decide +kernel
theorem dX6_within_2 : decode cX6_within 2 = .ok (.if_icmp .lt 12, 3) := by decide +kernel
theorem dX6_within_5 : decode cX6_within 5 = .ok (.iload_n 0, 1) := by decide +kernel
theorem dX6_within_6 : decode cX6_within 6 = .ok (.iload_n 2, 1) := by decide +kernel
theorem dX6_within_7 : decode cX6_within 7 = .ok (.if_icmp .gt 7, 3) := by decide +kernel
theorem dX6_within_10 : decode cX6_within 10 = .ok (.iconst 1, 1) := by decide +kernel
theorem dX6_within_11 : decode cX6_within 11 = .ok (.goto 4, 3) := by decide +kernel
theorem dX6_within_14 : decode cX6_within 14 = .ok (.iconst 0, 1) := by decide +kernel
theorem dX6_within_15 : decode cX6_within 15 = .ok (.ireturn, 1) := by decide +kernel
theorem dX6_rowAt_0 : decode cX6_rowAt 0 = .ok (.iconst 0, 1) := by decide +kernel
theorem dX6_rowAt_1 : decode cX6_rowAt 1 = .ok (.istore_n 2, 1) := by decide +kernel
theorem dX6_rowAt_2 : decode cX6_rowAt 2 = .ok (.iconst 0, 1) := by decide +kernel
theorem dX6_rowAt_3 : decode cX6_rowAt 3 = .ok (.istore_n 3, 1) := by decide +kernel
theorem dX6_rowAt_4 : decode cX6_rowAt 4 = .ok (.iload_n 3, 1) := by decide +kernel
theorem dX6_rowAt_5 : decode cX6_rowAt 5 = .ok (.iload_n 1, 1) := by decide +kernel
theorem dX6_rowAt_6 : decode cX6_rowAt 6 = .ok (.if_icmp .ge 19, 3) := by decide +kernel
theorem dX6_rowAt_9 : decode cX6_rowAt 9 = .ok (.iload_n 2, 1) := by decide +kernel
theorem dX6_rowAt_10 : decode cX6_rowAt 10 = .ok (.iconst 2, 1) := by decide +kernel
theorem dX6_rowAt_11 : decode cX6_rowAt 11 = .ok (.imul, 1) := by decide +kernel
theorem dX6_rowAt_12 : decode cX6_rowAt 12 = .ok (.iload_n 0, 1) := by decide +kernel
theorem dX6_rowAt_13 : decode cX6_rowAt 13 = .ok (.iload_n 3, 1) := by decide +kernel
theorem dX6_rowAt_14 : decode cX6_rowAt 14 = .ok (.ishr, 1) := by decide +kernel
theorem dX6_rowAt_15 : decode cX6_rowAt 15 = .ok (.iconst 1, 1) := by decide +kernel
theorem dX6_rowAt_16 : decode cX6_rowAt 16 = .ok (.iand, 1) := by decide +kernel
theorem dX6_rowAt_17 : decode cX6_rowAt 17 = .ok (.iadd, 1) := by decide +kernel
theorem dX6_rowAt_18 : decode cX6_rowAt 18 = .ok (.istore_n 2, 1) := by decide +kernel
theorem dX6_rowAt_19 : decode cX6_rowAt 19 = .ok (.iinc 3 1, 3) := by decide +kernel
theorem dX6_rowAt_22 : decode cX6_rowAt 22 = .ok (.goto (-18), 3) := by decide +kernel
theorem dX6_rowAt_25 : decode cX6_rowAt 25 = .ok (.iload_n 2, 1) := by decide +kernel
theorem dX6_rowAt_26 : decode cX6_rowAt 26 = .ok (.ireturn, 1) := by decide +kernel
set_option maxRecDepth 20000 in
theorem ggX7_init_X7_first : GoodIn wsX7_init wsX7_first := goodIn_r _ [31, 6, 7, 5, 36, 37, 38, 39, 40, 41, 42, 43, 44, 45, 46, 47, 48, 49, 50, 51, 52, 53, 54, 55, 56, 57] rfl (by decide +kernel)
set_option maxRecDepth 20000 in
theorem gX7_init_X7_first : GoodIn wsX7_init (wsV RX7 74 RX7 yX7_first wsX7_first) := goodIn_app (goodIn_of _ (by decide +kernel)) ggX7_init_X7_first
set_option maxRecDepth 20000 in
theorem ggX7_init_X7_begin : GoodIn wsX7_init wsX7_begin := goodIn_r _ [35, 12, 13, 14, 20, 36, 37, 38, 39, 40, 41, 42, 43, 44, 45, 46, 47, 48, 49, 50, 51, 52, 53, 54, 55, 56, 57] rfl (by decide +kernel)
set_option maxRecDepth 20000 in
theorem gX7_init_X7_begin : GoodIn wsX7_init (wsV RX7 78 RX7 yX7_begin wsX7_begin) := goodIn_app (goodIn_of _ (by decide +kernel)) ggX7_init_X7_begin
theorem dX7_init_0 : decode cX7_init 0 = .ok (.aload_n 0, 1) := by decide +kernel
theorem dX7_init_1 : decode cX7_init 1 = .ok (.invokespecial 1, 3) := by decide +kernel
theorem dX7_init_4 : decode cX7_init 4 = .ok (.aload_n 0, 1) := by decide +kernel
theorem dX7_init_5 : decode cX7_init 5 = .ok (.bipush 19, 2) := by decide +kernel
theorem dX7_init_7 : decode cX7_init 7 = .ok (.newarray .int, 2) := by decide +kernel
theorem dX7_init_9 : decode cX7_init 9 = .ok (.putfield 7, 3) := by decide +kernel
theorem dX7_init_12 : decode cX7_init 12 = .ok (.aload_n 0, 1) := by decide +kernel
theorem dX7_init_13 : decode cX7_init 13 = .ok (.bipush 19, 2) := by decide +kernel
theorem dX7_init_15 : decode cX7_init 15 = .ok (.newarray .int, 2) := by decide +kernel
theorem dX7_init_17 : decode cX7_init 17 = .ok (.putfield 13, 3) := by decide +kernel
theorem dX7_init_20 : decode cX7_init 20 = .ok (.aload_n 0, 1) := by decide +kernel
theorem dX7_init_21 : decode cX7_init 21 = .ok (.bipush 19, 2) := by decide +kernel
theorem dX7_init_23 : decode cX7_init 23 = .ok (.newarray .int, 2) := by decide +kernel
theorem dX7_init_25 : decode cX7_init 25 = .ok (.putfield 16, 3) := by decide +kernel
theorem dX7_init_28 : decode cX7_init 28 = .ok (.aload_n 0, 1) := by decide +kernel
theorem dX7_init_29 : decode cX7_init 29 = .ok (.sipush 200, 3) := by decide +kernel
theorem dX7_init_32 : decode cX7_init 32 = .ok (.newarray .int, 2) := by decide +kernel
theorem dX7_init_34 : decode cX7_init 34 = .ok (.putfield 19, 3) := by decide +kernel
theorem dX7_init_37 : decode cX7_init 37 = .ok (.aload_n 0, 1) := by decide +kernel
theorem dX7_init_38 : decode cX7_init 38 = .ok (.sipush 200, 3) := by decide +kernel
theorem dX7_init_41 : decode cX7_init 41 = .ok (.newarray .boolean, 2) := by decide +kernel
theorem dX7_init_43 : decode cX7_init 43 = .ok (.putfield 22, 3) := by decide +kernel
theorem dX7_init_46 : decode cX7_init 46 = .ok (.aload_n 0, 1) := by decide +kernel
theorem dX7_init_47 : decode cX7_init 47 = .ok (.bipush 24, 2) := by decide +kernel
theorem dX7_init_49 : decode cX7_init 49 = .ok (.newarray .int, 2) := by decide +kernel
theorem dX7_init_51 : decode cX7_init 51 = .ok (.putfield 26, 3) := by decide +kernel
theorem dX7_init_54 : decode cX7_init 54 = .ok (.aload_n 0, 1) := by decide +kernel
theorem dX7_init_55 : decode cX7_init 55 = .ok (.bipush 8, 2) := by decide +kernel
theorem dX7_init_57 : decode cX7_init 57 = .ok (.newarray .int, 2) := by decide +kernel
theorem dX7_init_59 : decode cX7_init 59 = .ok (.putfield 29, 3) := by decide +kernel
theorem dX7_init_62 : decode cX7_init 62 = .ok (.aload_n 0, 1) := by decide +kernel
theorem dX7_init_63 : decode cX7_init 63 = .ok (.bipush 12, 2) := by decide +kernel
theorem dX7_init_65 : decode cX7_init 65 = .ok (.newarray .int, 2) := by decide +kernel
theorem dX7_init_67 : decode cX7_init 67 = .ok (.putfield 32, 3) := by decide +kernel
theorem dX7_init_70 : decode cX7_init 70 = .ok (.aload_n 0, 1) := by decide +kernel
theorem dX7_init_71 : decode cX7_init 71 = .ok (.bipush 12, 2) := by decide +kernel
theorem dX7_init_73 : decode cX7_init 73 = .ok (.newarray .int, 2) := by decide +kernel
theorem dX7_init_75 : decode cX7_init 75 = .ok (.putfield 35, 3) := by decide +kernel
theorem dX7_init_78 : decode cX7_init 78 = .ok (.aload_n 0, 1) := by decide +kernel
theorem dX7_init_79 : decode cX7_init 79 = .ok (.sipush 200, 3) := by decide +kernel
theorem dX7_init_82 : decode cX7_init 82 = .ok (.newarray .int, 2) := by decide +kernel
theorem dX7_init_84 : decode cX7_init 84 = .ok (.putfield 38, 3) := by decide +kernel
theorem dX7_init_87 : decode cX7_init 87 = .ok (.aload_n 0, 1) := by decide +kernel
theorem dX7_init_88 : decode cX7_init 88 = .ok (.sipush 200, 3) := by decide +kernel
theorem dX7_init_91 : decode cX7_init 91 = .ok (.newarray .int, 2) := by decide +kernel
theorem dX7_init_93 : decode cX7_init 93 = .ok (.putfield 41, 3) := by decide +kernel
theorem dX7_init_96 : decode cX7_init 96 = .ok (.aload_n 0, 1) := by decide +kernel
theorem dX7_init_97 : decode cX7_init 97 = .ok (.sipush 200, 3) := by decide +kernel
theorem dX7_init_100 : decode cX7_init 100 = .ok (.newarray .int, 2) := by decide +kernel
theorem dX7_init_102 : decode cX7_init 102 = .ok (.putfield 44, 3) := by decide +kernel
theorem dX7_init_105 : decode cX7_init 105 = .ok (.aload_n 0, 1) := by decide +kernel
theorem dX7_init_106 : decode cX7_init 106 = .ok (.sipush 200, 3) := by decide +kernel
theorem dX7_init_109 : decode cX7_init 109 = .ok (.newarray .int, 2) := by decide +kernel
theorem dX7_init_111 : decode cX7_init 111 = .ok (.putfield 47, 3) := by decide +kernel
theorem dX7_init_114 : decode cX7_init 114 = .ok (.aload_n 0, 1) := by decide +kernel
theorem dX7_init_115 : decode cX7_init 115 = .ok (.sipush 200, 3) := by decide +kernel
theorem dX7_init_118 : decode cX7_init 118 = .ok (.newarray .int, 2) := by decide +kernel
theorem dX7_init_120 : decode cX7_init 120 = .ok (.putfield 50, 3) := by decide +kernel
theorem dX7_init_123 : decode cX7_init 123 = .ok (.aload_n 0, 1) := by decide +kernel
theorem dX7_init_124 : decode cX7_init 124 = .ok (.iconst 2, 1) := by decide +kernel
theorem dX7_init_125 : decode cX7_init 125 = .ok (.newarray .int, 2) := by decide +kernel
theorem dX7_init_127 : decode cX7_init 127 = .ok (.putfield 53, 3) := by decide +kernel
theorem dX7_init_130 : decode cX7_init 130 = .ok (.aload_n 0, 1) := by decide +kernel
theorem dX7_init_131 : decode cX7_init 131 = .ok (.sipush 200, 3) := by decide +kernel
theorem dX7_init_134 : decode cX7_init 134 = .ok (.newarray .int, 2) := by decide +kernel
theorem dX7_init_136 : decode cX7_init 136 = .ok (.putfield 56, 3) := by decide +kernel
theorem dX7_init_139 : decode cX7_init 139 = .ok (.aload_n 0, 1) := by decide +kernel
theorem dX7_init_140 : decode cX7_init 140 = .ok (.sipush 1200, 3) := by decide +kernel
theorem dX7_init_143 : decode cX7_init 143 = .ok (.newarray .int, 2) := by decide +kernel
theorem dX7_init_145 : decode cX7_init 145 = .ok (.putfield 59, 3) := by decide +kernel
theorem dX7_init_148 : decode cX7_init 148 = .ok (.aload_n 0, 1) := by decide +kernel
theorem dX7_init_149 : decode cX7_init 149 = .ok (.sipush 2500, 3) := by decide +kernel
theorem dX7_init_152 : decode cX7_init 152 = .ok (.newarray .int, 2) := by decide +kernel
theorem dX7_init_154 : decode cX7_init 154 = .ok (.putfield 62, 3) := by decide +kernel
theorem dX7_init_157 : decode cX7_init 157 = .ok (.aload_n 0, 1) := by decide +kernel
theorem dX7_init_158 : decode cX7_init 158 = .ok (.sipush 8645, 3) := by decide +kernel
theorem dX7_init_161 : decode cX7_init 161 = .ok (.newarray .int, 2) := by decide +kernel
theorem dX7_init_163 : decode cX7_init 163 = .ok (.putfield 65, 3) := by decide +kernel
theorem dX7_init_166 : decode cX7_init 166 = .ok (.aload_n 0, 1) := by decide +kernel
theorem dX7_init_167 : decode cX7_init 167 = .ok (.sipush 8645, 3) := by decide +kernel
theorem dX7_init_170 : decode cX7_init 170 = .ok (.newarray .int, 2) := by decide +kernel
theorem dX7_init_172 : decode cX7_init 172 = .ok (.putfield 68, 3) := by decide +kernel
theorem dX7_init_175 : decode cX7_init 175 = .ok (.aload_n 0, 1) := by decide +kernel
theorem dX7_init_176 : decode cX7_init 176 = .ok (.sipush 200, 3) := by decide +kernel
theorem dX7_init_179 : decode cX7_init 179 = .ok (.newarray .int, 2) := by decide +kernel
theorem dX7_init_181 : decode cX7_init 181 = .ok (.putfield 71, 3) := by decide +kernel
theorem dX7_init_184 : decode cX7_init 184 = .ok (.aload_n 0, 1) := by decide +kernel
theorem dX7_init_185 : decode cX7_init 185 = .ok (.iconst 0, 1) := by decide +kernel
theorem dX7_init_186 : decode cX7_init 186 = .ok (.iconst 0, 1) := by decide +kernel
theorem dX7_init_187 : decode cX7_init 187 = .ok (.iconst 5, 1) := by decide +kernel
theorem dX7_init_188 : decode cX7_init 188 = .ok (.iconst 1, 1) := by decide +kernel
theorem dX7_init_189 : decode cX7_init 189 = .ok (.invokevirtual 74, 3) := by decide +kernel
theorem dX7_init_192 : decode cX7_init 192 = .ok (.aload_n 0, 1) := by decide +kernel
theorem dX7_init_193 : decode cX7_init 193 = .ok (.iconst 1, 1) := by decide +kernel
theorem dX7_init_194 : decode cX7_init 194 = .ok (.iconst 0, 1) := by decide +kernel
theorem dX7_init_195 : decode cX7_init 195 = .ok (.iconst 5, 1) := by decide +kernel
theorem dX7_init_196 : decode cX7_init 196 = .ok (.iconst 1, 1) := by decide +kernel
theorem dX7_init_197 : decode cX7_init 197 = .ok (.invokevirtual 74, 3) := by decide +kernel
theorem dX7_init_200 : decode cX7_init 200 = .ok (.aload_n 0, 1) := by decide +kernel
theorem dX7_init_201 : decode cX7_init 201 = .ok (.iconst 2, 1) := by decide +kernel
theorem dX7_init_202 : decode cX7_init 202 = .ok (.iconst 1, 1) := by decide +kernel
theorem dX7_init_203 : decode cX7_init 203 = .ok (.bipush 20, 2) := by decide +kernel
theorem dX7_init_205 : decode cX7_init 205 = .ok (.iconst 5, 1) := by decide +kernel
theorem dX7_init_206 : decode cX7_init 206 = .ok (.invokevirtual 74, 3) := by decide +kernel
theorem dX7_init_209 : decode cX7_init 209 = .ok (.aload_n 0, 1) := by decide +kernel
theorem dX7_init_210 : decode cX7_init 210 = .ok (.iconst 3, 1) := by decide +kernel
theorem dX7_init_211 : decode cX7_init 211 = .ok (.iconst 1, 1) := by decide +kernel
theorem dX7_init_212 : decode cX7_init 212 = .ok (.bipush 10, 2) := by decide +kernel
theorem dX7_init_214 : decode cX7_init 214 = .ok (.iconst 3, 1) := by decide +kernel
theorem dX7_init_215 : decode cX7_init 215 = .ok (.invokevirtual 74, 3) := by decide +kernel
theorem dX7_init_218 : decode cX7_init 218 = .ok (.aload_n 0, 1) := by decide +kernel
theorem dX7_init_219 : decode cX7_init 219 = .ok (.iconst 4, 1) := by decide +kernel
theorem dX7_init_220 : decode cX7_init 220 = .ok (.iconst 1, 1) := by decide +kernel
theorem dX7_init_221 : decode cX7_init 221 = .ok (.iconst 4, 1) := by decide +kernel
theorem dX7_init_222 : decode cX7_init 222 = .ok (.iconst 1, 1) := by decide +kernel
theorem dX7_init_223 : decode cX7_init 223 = .ok (.invokevirtual 74, 3) := by decide +kernel
theorem dX7_init_226 : decode cX7_init 226 = .ok (.aload_n 0, 1) := by decide +kernel
theorem dX7_init_227 : decode cX7_init 227 = .ok (.iconst 5, 1) := by decide +kernel
theorem dX7_init_228 : decode cX7_init 228 = .ok (.iconst 0, 1) := by decide +kernel
theorem dX7_init_229 : decode cX7_init 229 = .ok (.iconst 5, 1) := by decide +kernel
theorem dX7_init_230 : decode cX7_init 230 = .ok (.iconst 0, 1) := by decide +kernel
theorem dX7_init_231 : decode cX7_init 231 = .ok (.invokevirtual 74, 3) := by decide +kernel
theorem dX7_init_234 : decode cX7_init 234 = .ok (.aload_n 0, 1) := by decide +kernel
theorem dX7_init_235 : decode cX7_init 235 = .ok (.bipush 6, 2) := by decide +kernel
theorem dX7_init_237 : decode cX7_init 237 = .ok (.iconst 1, 1) := by decide +kernel
theorem dX7_init_238 : decode cX7_init 238 = .ok (.iconst 5, 1) := by decide +kernel
theorem dX7_init_239 : decode cX7_init 239 = .ok (.iconst 1, 1) := by decide +kernel
theorem dX7_init_240 : decode cX7_init 240 = .ok (.invokevirtual 74, 3) := by decide +kernel
theorem dX7_init_243 : decode cX7_init 243 = .ok (.aload_n 0, 1) := by decide +kernel
theorem dX7_init_244 : decode cX7_init 244 = .ok (.bipush 7, 2) := by decide +kernel
theorem dX7_init_246 : decode cX7_init 246 = .ok (.iconst 0, 1) := by decide +kernel
theorem dX7_init_247 : decode cX7_init 247 = .ok (.bipush 12, 2) := by decide +kernel
theorem dX7_init_249 : decode cX7_init 249 = .ok (.iconst 1, 1) := by decide +kernel
theorem dX7_init_250 : decode cX7_init 250 = .ok (.invokevirtual 74, 3) := by decide +kernel
theorem dX7_init_253 : decode cX7_init 253 = .ok (.aload_n 0, 1) := by decide +kernel
theorem dX7_init_254 : decode cX7_init 254 = .ok (.bipush 8, 2) := by decide +kernel
theorem dX7_init_256 : decode cX7_init 256 = .ok (.iconst 0, 1) := by decide +kernel
theorem dX7_init_257 : decode cX7_init 257 = .ok (.bipush 12, 2) := by decide +kernel
theorem dX7_init_259 : decode cX7_init 259 = .ok (.bipush 12, 2) := by decide +kernel
theorem dX7_init_261 : decode cX7_init 261 = .ok (.invokevirtual 74, 3) := by decide +kernel
theorem dX7_init_264 : decode cX7_init 264 = .ok (.aload_n 0, 1) := by decide +kernel
theorem dX7_init_265 : decode cX7_init 265 = .ok (.bipush 9, 2) := by decide +kernel
theorem dX7_init_267 : decode cX7_init 267 = .ok (.iconst 0, 1) := by decide +kernel
theorem dX7_init_268 : decode cX7_init 268 = .ok (.bipush 10, 2) := by decide +kernel
theorem dX7_init_270 : decode cX7_init 270 = .ok (.iconst 0, 1) := by decide +kernel
theorem dX7_init_271 : decode cX7_init 271 = .ok (.invokevirtual 74, 3) := by decide +kernel
theorem dX7_init_274 : decode cX7_init 274 = .ok (.aload_n 0, 1) := by decide +kernel
theorem dX7_init_275 : decode cX7_init 275 = .ok (.bipush 10, 2) := by decide +kernel
theorem dX7_init_277 : decode cX7_init 277 = .ok (.iconst 0, 1) := by decide +kernel
theorem dX7_init_278 : decode cX7_init 278 = .ok (.iconst 2, 1) := by decide +kernel
theorem dX7_init_279 : decode cX7_init 279 = .ok (.iconst 1, 1) := by decide +kernel
theorem dX7_init_280 : decode cX7_init 280 = .ok (.invokevirtual 74, 3) := by decide +kernel
theorem dX7_init_283 : decode cX7_init 283 = .ok (.aload_n 0, 1) := by decide +kernel
theorem dX7_init_284 : decode cX7_init 284 = .ok (.bipush 11, 2) := by decide +kernel
theorem dX7_init_286 : decode cX7_init 286 = .ok (.iconst 1, 1) := by decide +kernel
theorem dX7_init_287 : decode cX7_init 287 = .ok (.bipush 60, 2) := by decide +kernel
theorem dX7_init_289 : decode cX7_init 289 = .ok (.iconst 5, 1) := by decide +kernel
theorem dX7_init_290 : decode cX7_init 290 = .ok (.invokevirtual 74, 3) := by decide +kernel
theorem dX7_init_293 : decode cX7_init 293 = .ok (.aload_n 0, 1) := by decide +kernel
theorem dX7_init_294 : decode cX7_init 294 = .ok (.bipush 12, 2) := by decide +kernel
theorem dX7_init_296 : decode cX7_init 296 = .ok (.iconst 0, 1) := by decide +kernel
theorem dX7_init_297 : decode cX7_init 297 = .ok (.sipush 400, 3) := by decide +kernel
theorem dX7_init_300 : decode cX7_init 300 = .ok (.bipush 10, 2) := by decide +kernel
theorem dX7_init_302 : decode cX7_init 302 = .ok (.invokevirtual 74, 3) := by decide +kernel
theorem dX7_init_305 : decode cX7_init 305 = .ok (.aload_n 0, 1) := by decide +kernel
theorem dX7_init_306 : decode cX7_init 306 = .ok (.bipush 13, 2) := by decide +kernel
theorem dX7_init_308 : decode cX7_init 308 = .ok (.iconst 0, 1) := by decide +kernel
theorem dX7_init_309 : decode cX7_init 309 = .ok (.sipush 400, 3) := by decide +kernel
theorem dX7_init_312 : decode cX7_init 312 = .ok (.iconst 2, 1) := by decide +kernel
theorem dX7_init_313 : decode cX7_init 313 = .ok (.invokevirtual 74, 3) := by decide +kernel
theorem dX7_init_316 : decode cX7_init 316 = .ok (.aload_n 0, 1) := by decide +kernel
theorem dX7_init_317 : decode cX7_init 317 = .ok (.bipush 14, 2) := by decide +kernel
theorem dX7_init_319 : decode cX7_init 319 = .ok (.iconst 1, 1) := by decide +kernel
theorem dX7_init_320 : decode cX7_init 320 = .ok (.bipush 6, 2) := by decide +kernel
theorem dX7_init_322 : decode cX7_init 322 = .ok (.iconst 1, 1) := by decide +kernel
theorem dX7_init_323 : decode cX7_init 323 = .ok (.invokevirtual 74, 3) := by decide +kernel
theorem dX7_init_326 : decode cX7_init 326 = .ok (.aload_n 0, 1) := by decide +kernel
theorem dX7_init_327 : decode cX7_init 327 = .ok (.bipush 15, 2) := by decide +kernel
theorem dX7_init_329 : decode cX7_init 329 = .ok (.iconst 1, 1) := by decide +kernel
theorem dX7_init_330 : decode cX7_init 330 = .ok (.bipush 6, 2) := by decide +kernel
theorem dX7_init_332 : decode cX7_init 332 = .ok (.iconst 1, 1) := by decide +kernel
theorem dX7_init_333 : decode cX7_init 333 = .ok (.invokevirtual 74, 3) := by decide +kernel
theorem dX7_init_336 : decode cX7_init 336 = .ok (.aload_n 0, 1) := by decide +kernel
theorem dX7_init_337 : decode cX7_init 337 = .ok (.bipush 16, 2) := by decide +kernel
theorem dX7_init_339 : decode cX7_init 339 = .ok (.iconst 0, 1) := by decide +kernel
theorem dX7_init_340 : decode cX7_init 340 = .ok (.bipush 100, 2) := by decide +kernel
theorem dX7_init_342 : decode cX7_init 342 = .ok (.bipush 10, 2) := by decide +kernel
theorem dX7_init_344 : decode cX7_init 344 = .ok (.invokevirtual 74, 3) := by decide +kernel
theorem dX7_init_347 : decode cX7_init 347 = .ok (.aload_n 0, 1) := by decide +kernel
theorem dX7_init_348 : decode cX7_init 348 = .ok (.bipush 17, 2) := by decide +kernel
theorem dX7_init_350 : decode cX7_init 350 = .ok (.iconst 0, 1) := by decide +kernel
theorem dX7_init_351 : decode cX7_init 351 = .ok (.bipush 100, 2) := by decide +kernel
theorem dX7_init_353 : decode cX7_init 353 = .ok (.iconst 4, 1) := by decide +kernel
theorem dX7_init_354 : decode cX7_init 354 = .ok (.invokevirtual 74, 3) := by decide +kernel
theorem dX7_init_357 : decode cX7_init 357 = .ok (.aload_n 0, 1) := by decide +kernel
theorem dX7_init_358 : decode cX7_init 358 = .ok (.bipush 18, 2) := by decide +kernel
theorem dX7_init_360 : decode cX7_init 360 = .ok (.iconst 0, 1) := by decide +kernel
theorem dX7_init_361 : decode cX7_init 361 = .ok (.sipush 1000, 3) := by decide +kernel
theorem dX7_init_364 : decode cX7_init 364 = .ok (.bipush 50, 2) := by decide +kernel
theorem dX7_init_366 : decode cX7_init 366 = .ok (.invokevirtual 74, 3) := by decide +kernel
theorem dX7_init_369 : decode cX7_init 369 = .ok (.aload_n 0, 1) := by decide +kernel
theorem dX7_init_370 : decode cX7_init 370 = .ok (.invokevirtual 78, 3) := by decide +kernel
theorem dX7_init_373 : decode cX7_init 373 = .ok (.return_, 1) := by decide +kernel
theorem dX7_first_0 : decode cX7_first 0 = .ok (.aload_n 0, 1) := by decide +kernel
theorem dX7_first_1 : decode cX7_first 1 = .ok (.getfield 13, 3) := by decide +kernel
theorem dX7_first_4 : decode cX7_first 4 = .ok (.iload_n 1, 1) := by decide +kernel
theorem dX7_first_5 : decode cX7_first 5 = .ok (.iload_n 2, 1) := by decide +kernel
theorem dX7_first_6 : decode cX7_first 6 = .ok (.iastore, 1) := by decide +kernel
theorem dX7_first_7 : decode cX7_first 7 = .ok (.aload_n 0, 1) := by decide +kernel
theorem dX7_first_8 : decode cX7_first 8 = .ok (.getfield 16, 3) := by decide +kernel
theorem dX7_first_11 : decode cX7_first 11 = .ok (.iload_n 1, 1) := by decide +kernel
theorem dX7_first_12 : decode cX7_first 12 = .ok (.iload_n 3, 1) := by decide +kernel
theorem dX7_first_13 : decode cX7_first 13 = .ok (.iastore, 1) := by decide +kernel
theorem dX7_first_14 : decode cX7_first 14 = .ok (.aload_n 0, 1) := by decide +kernel
theorem dX7_first_15 : decode cX7_first 15 = .ok (.getfield 7, 3) := by decide +kernel
theorem dX7_first_18 : decode cX7_first 18 = .ok (.iload_n 1, 1) := by decide +kernel
theorem dX7_first_19 : decode cX7_first 19 = .ok (.iload 4, 2) := by decide +kernel
theorem dX7_first_21 : decode cX7_first 21 = .ok (.iastore, 1) := by decide +kernel
theorem dX7_first_22 : decode cX7_first 22 = .ok (.return_, 1) := by decide +kernel
theorem dX7_in_0 : decode cX7_in 0 = .ok (.lload_n 0, 1) := by decide +kernel
theorem dX7_in_1 : decode cX7_in 1 = .ok (.lload_n 2, 1) := by decide +kernel
theorem dX7_in_2 : decode cX7_in 2 = .ok (.lcmp, 1) := by decide +kernel
theorem dX7_in_3 : decode cX7_in 3 = .ok (.ifCond .lt 14, 3) := by decide +kernel
theorem dX7_in_6 : decode cX7_in 6 = .ok (.lload_n 0, 1) := by decide +kernel
theorem dX7_in_7 : decode cX7_in 7 = .ok (.lload 4, 2) := by decide +kernel
theorem dX7_in_9 : decode cX7_in 9 = .ok (.lcmp, 1) := by decide +kernel
theorem dX7_in_10 : decode cX7_in 10 = .ok (.ifCond .gt 7, 3) := by decide +kernel
theorem dX7_in_13 : decode cX7_in 13 = .ok (.iconst 1, 1) := by decide +kernel
theorem dX7_in_14 : decode cX7_in 14 = .ok (.goto 4, 3) := by decide +kernel
theorem dX7_in_17 : decode cX7_in 17 = .ok (.iconst 0, 1) := by decide +kernel
theorem dX7_in_18 : decode cX7_in 18 = .ok (.ireturn, 1) := by decide +kernel
theorem dX7_begin_0 : decode cX7_begin 0 = .ok (.iconst 0, 1) := by decide +kernel
theorem dX7_begin_1 : decode cX7_begin 1 = .ok (.istore_n 1, 1) := by decide +kernel
theorem dX7_begin_2 : decode cX7_begin 2 = .ok (.iload_n 1, 1) := by decide +kernel
theorem dX7_begin_3 : decode cX7_begin 3 = .ok (.bipush 8, 2) := by decide +kernel
theorem dX7_begin_5 : decode cX7_begin 5 = .ok (.if_icmp .ge 31, 3) := by decide +kernel
theorem dX7_begin_8 : decode cX7_begin 8 = .ok (.aload_n 0, 1) := by decide +kernel
theorem dX7_begin_9 : decode cX7_begin 9 = .ok (.getfield 29, 3) := by decide +kernel
theorem dX7_begin_12 : decode cX7_begin 12 = .ok (.iload_n 1, 1) := by decide +kernel
theorem dX7_begin_13 : decode cX7_begin 13 = .ok (.iload_n 1, 1) := by decide +kernel
theorem dX7_begin_14 : decode cX7_begin 14 = .ok (.iconst 5, 1) := by decide +kernel
theorem dX7_begin_15 : decode cX7_begin 15 = .ok (.if_icmp .eq 9, 3) := by decide +kernel
theorem dX7_begin_18 : decode cX7_begin 18 = .ok (.iload_n 1, 1) := by decide +kernel
theorem dX7_begin_19 : decode cX7_begin 19 = .ok (.bipush 6, 2) := by decide +kernel
theorem dX7_begin_21 : decode cX7_begin 21 = .ok (.if_icmp .ne 7, 3) := by decide +kernel
theorem dX7_begin_24 : decode cX7_begin 24 = .ok (.iconst (-1), 1) := by decide +kernel
theorem dX7_begin_25 : decode cX7_begin 25 = .ok (.goto 4, 3) := by decide +kernel
theorem dX7_begin_28 : decode cX7_begin 28 = .ok (.iconst 0, 1) := by decide +kernel
theorem dX7_begin_29 : decode cX7_begin 29 = .ok (.iastore, 1) := by decide +kernel
theorem dX7_begin_30 : decode cX7_begin 30 = .ok (.iinc 1 1, 3) := by decide +kernel
theorem dX7_begin_33 : decode cX7_begin 33 = .ok (.goto (-31), 3) := by decide +kernel
theorem dX7_begin_36 : decode cX7_begin 36 = .ok (.iconst 0, 1) := by decide +kernel
theorem dX7_begin_37 : decode cX7_begin 37 = .ok (.istore_n 1, 1) := by decide +kernel
theorem dX7_begin_38 : decode cX7_begin 38 = .ok (.iload_n 1, 1) := by decide +kernel
theorem dX7_begin_39 : decode cX7_begin 39 = .ok (.bipush 12, 2) := by decide +kernel
theorem dX7_begin_41 : decode cX7_begin 41 = .ok (.if_icmp .ge 23, 3) := by decide +kernel
theorem dX7_begin_44 : decode cX7_begin 44 = .ok (.aload_n 0, 1) := by decide +kernel
theorem dX7_begin_45 : decode cX7_begin 45 = .ok (.getfield 32, 3) := by decide +kernel
theorem dX7_begin_48 : decode cX7_begin 48 = .ok (.iload_n 1, 1) := by decide +kernel
theorem dX7_begin_49 : decode cX7_begin 49 = .ok (.iconst 0, 1) := by decide +kernel
theorem dX7_begin_50 : decode cX7_begin 50 = .ok (.iastore, 1) := by decide +kernel
theorem dX7_begin_51 : decode cX7_begin 51 = .ok (.aload_n 0, 1) := by decide +kernel
theorem dX7_begin_52 : decode cX7_begin 52 = .ok (.getfield 35, 3) := by decide +kernel
theorem dX7_begin_55 : decode cX7_begin 55 = .ok (.iload_n 1, 1) := by decide +kernel
theorem dX7_begin_56 : decode cX7_begin 56 = .ok (.iconst 0, 1) := by decide +kernel
theorem dX7_begin_57 : decode cX7_begin 57 = .ok (.iastore, 1) := by decide +kernel
theorem dX7_begin_58 : decode cX7_begin 58 = .ok (.iinc 1 1, 3) := by decide +kernel
theorem dX7_begin_61 : decode cX7_begin 61 = .ok (.goto (-23), 3) := by decide +kernel
theorem dX7_begin_64 : decode cX7_begin 64 = .ok (.aload_n 0, 1) := by decide +kernel
theorem dX7_begin_65 : decode cX7_begin 65 = .ok (.getfield 53, 3) := by decide +kernel
theorem dX7_begin_68 : decode cX7_begin 68 = .ok (.iconst 0, 1) := by decide +kernel
theorem dX7_begin_69 : decode cX7_begin 69 = .ok (.iconst 0, 1) := by decide +kernel
theorem dX7_begin_70 : decode cX7_begin 70 = .ok (.iastore, 1) := by decide +kernel
theorem dX7_begin_71 : decode cX7_begin 71 = .ok (.aload_n 0, 1) := by decide +kernel
theorem dX7_begin_72 : decode cX7_begin 72 = .ok (.getfield 53, 3) := by decide +kernel
theorem dX7_begin_75 : decode cX7_begin 75 = .ok (.iconst 1, 1) := by decide +kernel
theorem dX7_begin_76 : decode cX7_begin 76 = .ok (.iconst 0, 1) := by decide +kernel
theorem dX7_begin_77 : decode cX7_begin 77 = .ok (.iastore, 1) := by decide +kernel
theorem dX7_begin_78 : decode cX7_begin 78 = .ok (.return_, 1) := by decide +kernel
set_option maxRecDepth 20000 in
theorem ggX7_setting_X7_in : GoodIn wsX7_setting wsX7_in := goodIn_r _ [8] rfl (by decide +kernel)
set_option maxRecDepth 20000 in
theorem gX7_setting_X7_in : GoodIn wsX7_setting (va_wsS RX7 83 yX7_in wsX7_in) := goodIn_app (goodIn_of _ (by decide +kernel)) ggX7_setting_X7_in
theorem dX7_setting_0 : decode cX7_setting 0 = .ok (.iload_n 1, 1) := by decide +kernel
theorem dX7_setting_1 : decode cX7_setting 1 = .ok (.i2l, 1) := by decide +kernel
theorem dX7_setting_2 : decode cX7_setting 2 = .ok (.lconst 0, 1) := by decide +kernel
theorem dX7_setting_3 : decode cX7_setting 3 = .ok (.ldc2_w 81, 3) := by decide +kernel
theorem dX7_setting_6 : decode cX7_setting 6 = .ok (.invokestatic 83, 3) := by decide +kernel
theorem dX7_setting_9 : decode cX7_setting 9 = .ok (.ifCond .eq 59, 3) := by decide +kernel
theorem dX7_setting_12 : decode cX7_setting 12 = .ok (.iload_n 2, 1) := by decide +kernel
theorem dX7_setting_13 : decode cX7_setting 13 = .ok (.i2l, 1) := by decide +kernel
theorem dX7_setting_14 : decode cX7_setting 14 = .ok (.aload_n 0, 1) := by decide +kernel
theorem dX7_setting_15 : decode cX7_setting 15 = .ok (.getfield 13, 3) := by decide +kernel
theorem dX7_setting_18 : decode cX7_setting 18 = .ok (.iload_n 1, 1) := by decide +kernel
theorem dX7_setting_19 : decode cX7_setting 19 = .ok (.iaload, 1) := by decide +kernel
theorem dX7_setting_20 : decode cX7_setting 20 = .ok (.i2l, 1) := by decide +kernel
theorem dX7_setting_21 : decode cX7_setting 21 = .ok (.aload_n 0, 1) := by decide +kernel
theorem dX7_setting_22 : decode cX7_setting 22 = .ok (.getfield 16, 3) := by decide +kernel
theorem dX7_setting_25 : decode cX7_setting 25 = .ok (.iload_n 1, 1) := by decide +kernel
theorem dX7_setting_26 : decode cX7_setting 26 = .ok (.iaload, 1) := by decide +kernel
theorem dX7_setting_27 : decode cX7_setting 27 = .ok (.i2l, 1) := by decide +kernel
theorem dX7_setting_28 : decode cX7_setting 28 = .ok (.invokestatic 83, 3) := by decide +kernel
theorem dX7_setting_31 : decode cX7_setting 31 = .ok (.ifCond .eq 37, 3) := by decide +kernel
theorem dX7_setting_34 : decode cX7_setting 34 = .ok (.iload_n 1, 1) := by decide +kernel
theorem dX7_setting_35 : decode cX7_setting 35 = .ok (.bipush 7, 2) := by decide +kernel
theorem dX7_setting_37 : decode cX7_setting 37 = .ok (.if_icmp .ne 14, 3) := by decide +kernel
theorem dX7_setting_40 : decode cX7_setting 40 = .ok (.iload_n 2, 1) := by decide +kernel
theorem dX7_setting_41 : decode cX7_setting 41 = .ok (.aload_n 0, 1) := by decide +kernel
theorem dX7_setting_42 : decode cX7_setting 42 = .ok (.getfield 7, 3) := by decide +kernel
theorem dX7_setting_45 : decode cX7_setting 45 = .ok (.bipush 8, 2) := by decide +kernel
theorem dX7_setting_47 : decode cX7_setting 47 = .ok (.iaload, 1) := by decide +kernel
theorem dX7_setting_48 : decode cX7_setting 48 = .ok (.if_icmp .gt 20, 3) := by decide +kernel
theorem dX7_setting_51 : decode cX7_setting 51 = .ok (.iload_n 1, 1) := by decide +kernel
theorem dX7_setting_52 : decode cX7_setting 52 = .ok (.bipush 8, 2) := by decide +kernel
theorem dX7_setting_54 : decode cX7_setting 54 = .ok (.if_icmp .ne 18, 3) := by decide +kernel
theorem dX7_setting_57 : decode cX7_setting 57 = .ok (.iload_n 2, 1) := by decide +kernel
theorem dX7_setting_58 : decode cX7_setting 58 = .ok (.aload_n 0, 1) := by decide +kernel
theorem dX7_setting_59 : decode cX7_setting 59 = .ok (.getfield 7, 3) := by decide +kernel
theorem dX7_setting_62 : decode cX7_setting 62 = .ok (.bipush 7, 2) := by decide +kernel
theorem dX7_setting_64 : decode cX7_setting 64 = .ok (.iaload, 1) := by decide +kernel
theorem dX7_setting_65 : decode cX7_setting 65 = .ok (.if_icmp .ge 7, 3) := by decide +kernel
theorem dX7_setting_68 : decode cX7_setting 68 = .ok (.sipush (-1002), 3) := by decide +kernel
theorem dX7_setting_71 : decode cX7_setting 71 = .ok (.ireturn, 1) := by decide +kernel
theorem dX7_setting_72 : decode cX7_setting 72 = .ok (.aload_n 0, 1) := by decide +kernel
theorem dX7_setting_73 : decode cX7_setting 73 = .ok (.getfield 7, 3) := by decide +kernel
theorem dX7_setting_76 : decode cX7_setting 76 = .ok (.iload_n 1, 1) := by decide +kernel
theorem dX7_setting_77 : decode cX7_setting 77 = .ok (.iaload, 1) := by decide +kernel
theorem dX7_setting_78 : decode cX7_setting 78 = .ok (.istore_n 3, 1) := by decide +kernel
theorem dX7_setting_79 : decode cX7_setting 79 = .ok (.aload_n 0, 1) := by decide +kernel
theorem dX7_setting_80 : decode cX7_setting 80 = .ok (.getfield 7, 3) := by decide +kernel
theorem dX7_setting_83 : decode cX7_setting 83 = .ok (.iload_n 1, 1) := by decide +kernel
theorem dX7_setting_84 : decode cX7_setting 84 = .ok (.iload_n 2, 1) := by decide +kernel
theorem dX7_setting_85 : decode cX7_setting 85 = .ok (.iastore, 1) := by decide +kernel
theorem dX7_setting_86 : decode cX7_setting 86 = .ok (.iload_n 3, 1) := by decide +kernel
theorem dX7_setting_87 : decode cX7_setting 87 = .ok (.ireturn, 1) := by decide +kernel
set_option maxRecDepth 20000 in
theorem ggX7_told_X7_in : GoodIn wsX7_told wsX7_in := goodIn_r _ [6] rfl (by decide +kernel)
set_option maxRecDepth 20000 in
theorem gX7_told_X7_in : GoodIn wsX7_told (va_wsS RX7 83 yX7_in wsX7_in) := goodIn_app (goodIn_of _ (by decide +kernel)) ggX7_told_X7_in
theorem dX7_told_0 : decode cX7_told 0 = .ok (.iload_n 1, 1) := by decide +kernel
theorem dX7_told_1 : decode cX7_told 1 = .ok (.i2l, 1) := by decide +kernel
theorem dX7_told_2 : decode cX7_told 2 = .ok (.lconst 0, 1) := by decide +kernel
theorem dX7_told_3 : decode cX7_told 3 = .ok (.ldc2_w 81, 3) := by decide +kernel
theorem dX7_told_6 : decode cX7_told 6 = .ok (.invokestatic 83, 3) := by decide +kernel
theorem dX7_told_9 : decode cX7_told 9 = .ok (.ifCond .eq 12, 3) := by decide +kernel
theorem dX7_told_12 : decode cX7_told 12 = .ok (.aload_n 0, 1) := by decide +kernel
theorem dX7_told_13 : decode cX7_told 13 = .ok (.getfield 7, 3) := by decide +kernel
theorem dX7_told_16 : decode cX7_told 16 = .ok (.iload_n 1, 1) := by decide +kernel
theorem dX7_told_17 : decode cX7_told 17 = .ok (.iaload, 1) := by decide +kernel
theorem dX7_told_18 : decode cX7_told 18 = .ok (.goto 6, 3) := by decide +kernel
theorem dX7_told_21 : decode cX7_told 21 = .ok (.sipush (-1002), 3) := by decide +kernel
theorem dX7_told_24 : decode cX7_told 24 = .ok (.ireturn, 1) := by decide +kernel
set_option maxRecDepth 20000 in
theorem ggX7_isTick_X7_in : GoodIn wsX7_isTick wsX7_in := goodIn_r _ [5] rfl (by decide +kernel)
set_option maxRecDepth 20000 in
theorem gX7_isTick_X7_in : GoodIn wsX7_isTick (va_wsS RX7 83 yX7_in wsX7_in) := goodIn_app (goodIn_of _ (by decide +kernel)) ggX7_isTick_X7_in
theorem dX7_isTick_0 : decode cX7_isTick 0 = .ok (.iload_n 0, 1) := by decide +kernel
theorem dX7_isTick_1 : decode cX7_isTick 1 = .ok (.i2l, 1) := by decide +kernel
theorem dX7_isTick_2 : decode cX7_isTick 2 = .ok (.lconst 0, 1) := by decide +kernel
theorem dX7_isTick_3 : decode cX7_isTick 3 = .ok (.ldc2_w 87, 3) := by decide +kernel
theorem dX7_isTick_6 : decode cX7_isTick 6 = .ok (.invokestatic 83, 3) := by decide +kernel
theorem dX7_isTick_9 : decode cX7_isTick 9 = .ok (.ireturn, 1) := by decide +kernel
set_option maxRecDepth 20000 in
theorem ggX7_load_X7_isTick : GoodIn wsX7_load wsX7_isTick := goodIn_r _ [7, 8, 9, 10, 6, 11] rfl (by decide +kernel)
set_option maxRecDepth 20000 in
theorem gX7_load_X7_isTick : GoodIn wsX7_load (va_wsS RX7 89 yX7_isTick wsX7_isTick) := goodIn_app (goodIn_of _ (by decide +kernel)) ggX7_load_X7_isTick
set_option maxRecDepth 20000 in
theorem ggX7_load_X7_in : GoodIn wsX7_load wsX7_in := goodIn_r _ [11] rfl (by decide +kernel)
set_option maxRecDepth 20000 in
theorem gX7_load_X7_in : GoodIn wsX7_load (va_wsS RX7 83 yX7_in wsX7_in) := goodIn_app (goodIn_of _ (by decide +kernel)) ggX7_load_X7_in
theorem dX7_load_0 : decode cX7_load 0 = .ok (.iload_n 1, 1) := by decide +kernel
theorem dX7_load_1 : decode cX7_load 1 = .ok (.invokestatic 89, 3) := by decide +kernel
theorem dX7_load_4 : decode cX7_load 4 = .ok (.ifCond .eq 15, 3) := by decide +kernel
theorem dX7_load_7 : decode cX7_load 7 = .ok (.iload_n 2, 1) := by decide +kernel
theorem dX7_load_8 : decode cX7_load 8 = .ok (.i2l, 1) := by decide +kernel
theorem dX7_load_9 : decode cX7_load 9 = .ok (.lconst 0, 1) := by decide +kernel
theorem dX7_load_10 : decode cX7_load 10 = .ok (.ldc2_w 93, 3) := by decide +kernel
theorem dX7_load_13 : decode cX7_load 13 = .ok (.invokestatic 83, 3) := by decide +kernel
theorem dX7_load_16 : decode cX7_load 16 = .ok (.ifCond .ne 7, 3) := by decide +kernel
theorem dX7_load_19 : decode cX7_load 19 = .ok (.sipush (-1002), 3) := by decide +kernel
theorem dX7_load_22 : decode cX7_load 22 = .ok (.ireturn, 1) := by decide +kernel
theorem dX7_load_23 : decode cX7_load 23 = .ok (.iload_n 1, 1) := by decide +kernel
theorem dX7_load_24 : decode cX7_load 24 = .ok (.aload_n 0, 1) := by decide +kernel
theorem dX7_load_25 : decode cX7_load 25 = .ok (.getfield 29, 3) := by decide +kernel
theorem dX7_load_28 : decode cX7_load 28 = .ok (.iconst 0, 1) := by decide +kernel
theorem dX7_load_29 : decode cX7_load 29 = .ok (.iaload, 1) := by decide +kernel
theorem dX7_load_30 : decode cX7_load 30 = .ok (.if_icmp .ge 7, 3) := by decide +kernel
theorem dX7_load_33 : decode cX7_load 33 = .ok (.sipush (-1003), 3) := by decide +kernel
theorem dX7_load_36 : decode cX7_load 36 = .ok (.ireturn, 1) := by decide +kernel
theorem dX7_load_37 : decode cX7_load 37 = .ok (.aload_n 0, 1) := by decide +kernel
theorem dX7_load_38 : decode cX7_load 38 = .ok (.getfield 19, 3) := by decide +kernel
theorem dX7_load_41 : decode cX7_load 41 = .ok (.iload_n 1, 1) := by decide +kernel
theorem dX7_load_42 : decode cX7_load 42 = .ok (.iaload, 1) := by decide +kernel
theorem dX7_load_43 : decode cX7_load 43 = .ok (.istore_n 3, 1) := by decide +kernel
theorem dX7_load_44 : decode cX7_load 44 = .ok (.aload_n 0, 1) := by decide +kernel
theorem dX7_load_45 : decode cX7_load 45 = .ok (.getfield 19, 3) := by decide +kernel
theorem dX7_load_48 : decode cX7_load 48 = .ok (.iload_n 1, 1) := by decide +kernel
theorem dX7_load_49 : decode cX7_load 49 = .ok (.iload_n 2, 1) := by decide +kernel
theorem dX7_load_50 : decode cX7_load 50 = .ok (.iastore, 1) := by decide +kernel
theorem dX7_load_51 : decode cX7_load 51 = .ok (.iload_n 3, 1) := by decide +kernel
theorem dX7_load_52 : decode cX7_load 52 = .ok (.ireturn, 1) := by decide +kernel
set_option maxRecDepth 20000 in
theorem ggX7_plan_X7_in : GoodIn wsX7_plan wsX7_in := goodIn_r _ [7] rfl (by decide +kernel)
set_option maxRecDepth 20000 in
theorem gX7_plan_X7_in : GoodIn wsX7_plan (va_wsS RX7 83 yX7_in wsX7_in) := goodIn_app (goodIn_of _ (by decide +kernel)) ggX7_plan_X7_in
theorem dX7_plan_0 : decode cX7_plan 0 = .ok (.iload_n 1, 1) := by decide +kernel
theorem dX7_plan_1 : decode cX7_plan 1 = .ok (.i2l, 1) := by decide +kernel
theorem dX7_plan_2 : decode cX7_plan 2 = .ok (.lconst 0, 1) := by decide +kernel
theorem dX7_plan_3 : decode cX7_plan 3 = .ok (.ldc2_w 95, 3) := by decide +kernel
theorem dX7_plan_6 : decode cX7_plan 6 = .ok (.invokestatic 83, 3) := by decide +kernel
theorem dX7_plan_9 : decode cX7_plan 9 = .ok (.ifCond .eq 15, 3) := by decide +kernel
theorem dX7_plan_12 : decode cX7_plan 12 = .ok (.iload_n 2, 1) := by decide +kernel
theorem dX7_plan_13 : decode cX7_plan 13 = .ok (.i2l, 1) := by decide +kernel
theorem dX7_plan_14 : decode cX7_plan 14 = .ok (.lconst 0, 1) := by decide +kernel
theorem dX7_plan_15 : decode cX7_plan 15 = .ok (.ldc2_w 97, 3) := by decide +kernel
theorem dX7_plan_18 : decode cX7_plan 18 = .ok (.invokestatic 83, 3) := by decide +kernel
theorem dX7_plan_21 : decode cX7_plan 21 = .ok (.ifCond .ne 7, 3) := by decide +kernel
theorem dX7_plan_24 : decode cX7_plan 24 = .ok (.sipush (-1002), 3) := by decide +kernel
theorem dX7_plan_27 : decode cX7_plan 27 = .ok (.ireturn, 1) := by decide +kernel
theorem dX7_plan_28 : decode cX7_plan 28 = .ok (.aload_n 0, 1) := by decide +kernel
theorem dX7_plan_29 : decode cX7_plan 29 = .ok (.getfield 26, 3) := by decide +kernel
theorem dX7_plan_32 : decode cX7_plan 32 = .ok (.iload_n 1, 1) := by decide +kernel
theorem dX7_plan_33 : decode cX7_plan 33 = .ok (.iaload, 1) := by decide +kernel
theorem dX7_plan_34 : decode cX7_plan 34 = .ok (.istore_n 3, 1) := by decide +kernel
theorem dX7_plan_35 : decode cX7_plan 35 = .ok (.aload_n 0, 1) := by decide +kernel
theorem dX7_plan_36 : decode cX7_plan 36 = .ok (.getfield 26, 3) := by decide +kernel
theorem dX7_plan_39 : decode cX7_plan 39 = .ok (.iload_n 1, 1) := by decide +kernel
theorem dX7_plan_40 : decode cX7_plan 40 = .ok (.iload_n 2, 1) := by decide +kernel
theorem dX7_plan_41 : decode cX7_plan 41 = .ok (.iastore, 1) := by decide +kernel
theorem dX7_plan_42 : decode cX7_plan 42 = .ok (.iload_n 3, 1) := by decide +kernel
theorem dX7_plan_43 : decode cX7_plan 43 = .ok (.ireturn, 1) := by decide +kernel
set_option maxRecDepth 20000 in
theorem ggX7_lose_X7_isTick : GoodIn wsX7_lose wsX7_isTick := goodIn_r _ [6, 7, 8, 9, 5, 10] rfl (by decide +kernel)
set_option maxRecDepth 20000 in
theorem gX7_lose_X7_isTick : GoodIn wsX7_lose (va_wsS RX7 89 yX7_isTick wsX7_isTick) := goodIn_app (goodIn_of _ (by decide +kernel)) ggX7_lose_X7_isTick
theorem dX7_lose_0 : decode cX7_lose 0 = .ok (.iload_n 1, 1) := by decide +kernel
theorem dX7_lose_1 : decode cX7_lose 1 = .ok (.invokestatic 89, 3) := by decide +kernel
theorem dX7_lose_4 : decode cX7_lose 4 = .ok (.ifCond .ne 7, 3) := by decide +kernel
theorem dX7_lose_7 : decode cX7_lose 7 = .ok (.sipush (-1002), 3) := by decide +kernel
theorem dX7_lose_10 : decode cX7_lose 10 = .ok (.ireturn, 1) := by decide +kernel
theorem dX7_lose_11 : decode cX7_lose 11 = .ok (.iload_n 1, 1) := by decide +kernel
theorem dX7_lose_12 : decode cX7_lose 12 = .ok (.aload_n 0, 1) := by decide +kernel
theorem dX7_lose_13 : decode cX7_lose 13 = .ok (.getfield 29, 3) := by decide +kernel
theorem dX7_lose_16 : decode cX7_lose 16 = .ok (.iconst 0, 1) := by decide +kernel
theorem dX7_lose_17 : decode cX7_lose 17 = .ok (.iaload, 1) := by decide +kernel
theorem dX7_lose_18 : decode cX7_lose 18 = .ok (.if_icmp .ge 7, 3) := by decide +kernel
theorem dX7_lose_21 : decode cX7_lose 21 = .ok (.sipush (-1003), 3) := by decide +kernel
theorem dX7_lose_24 : decode cX7_lose 24 = .ok (.ireturn, 1) := by decide +kernel
theorem dX7_lose_25 : decode cX7_lose 25 = .ok (.aload_n 0, 1) := by decide +kernel
theorem dX7_lose_26 : decode cX7_lose 26 = .ok (.getfield 22, 3) := by decide +kernel
theorem dX7_lose_29 : decode cX7_lose 29 = .ok (.iload_n 1, 1) := by decide +kernel
theorem dX7_lose_30 : decode cX7_lose 30 = .ok (.baload, 1) := by decide +kernel
theorem dX7_lose_31 : decode cX7_lose 31 = .ok (.ifCond .eq 7, 3) := by decide +kernel
theorem dX7_lose_34 : decode cX7_lose 34 = .ok (.iconst 1, 1) := by decide +kernel
theorem dX7_lose_35 : decode cX7_lose 35 = .ok (.goto 4, 3) := by decide +kernel
theorem dX7_lose_38 : decode cX7_lose 38 = .ok (.iconst 0, 1) := by decide +kernel
theorem dX7_lose_39 : decode cX7_lose 39 = .ok (.istore_n 3, 1) := by decide +kernel
theorem dX7_lose_40 : decode cX7_lose 40 = .ok (.aload_n 0, 1) := by decide +kernel
theorem dX7_lose_41 : decode cX7_lose 41 = .ok (.getfield 22, 3) := by decide +kernel
theorem dX7_lose_44 : decode cX7_lose 44 = .ok (.iload_n 1, 1) := by decide +kernel
theorem dX7_lose_45 : decode cX7_lose 45 = .ok (.iload_n 2, 1) := by decide +kernel
theorem dX7_lose_46 : decode cX7_lose 46 = .ok (.bastore, 1) := by decide +kernel
theorem dX7_lose_47 : decode cX7_lose 47 = .ok (.iload_n 3, 1) := by decide +kernel
theorem dX7_lose_48 : decode cX7_lose 48 = .ok (.ireturn, 1) := by decide +kernel
theorem dX7_many_0 : decode cX7_many 0 = .ok (.iconst 0, 1) := by decide +kernel
theorem dX7_many_1 : decode cX7_many 1 = .ok (.istore_n 2, 1) := by decide +kernel
theorem dX7_many_2 : decode cX7_many 2 = .ok (.iconst 0, 1) := by decide +kernel
theorem dX7_many_3 : decode cX7_many 3 = .ok (.istore_n 3, 1) := by decide +kernel
theorem dX7_many_4 : decode cX7_many 4 = .ok (.iload_n 3, 1) := by decide +kernel
theorem dX7_many_5 : decode cX7_many 5 = .ok (.bipush 12, 2) := by decide +kernel
theorem dX7_many_7 : decode cX7_many 7 = .ok (.if_icmp .ge 27, 3) := by decide +kernel
theorem dX7_many_10 : decode cX7_many 10 = .ok (.iload_n 2, 1) := by decide +kernel
theorem dX7_many_11 : decode cX7_many 11 = .ok (.aload_n 0, 1) := by decide +kernel
theorem dX7_many_12 : decode cX7_many 12 = .ok (.getfield 32, 3) := by decide +kernel
theorem dX7_many_15 : decode cX7_many 15 = .ok (.iload_n 3, 1) := by decide +kernel
theorem dX7_many_16 : decode cX7_many 16 = .ok (.iaload, 1) := by decide +kernel
theorem dX7_many_17 : decode cX7_many 17 = .ok (.iload_n 1, 1) := by decide +kernel
theorem dX7_many_18 : decode cX7_many 18 = .ok (.if_icmp .ne 7, 3) := by decide +kernel
theorem dX7_many_21 : decode cX7_many 21 = .ok (.iconst 1, 1) := by decide +kernel
theorem dX7_many_22 : decode cX7_many 22 = .ok (.goto 4, 3) := by decide +kernel
theorem dX7_many_25 : decode cX7_many 25 = .ok (.iconst 0, 1) := by decide +kernel
theorem dX7_many_26 : decode cX7_many 26 = .ok (.iadd, 1) := by decide +kernel
theorem dX7_many_27 : decode cX7_many 27 = .ok (.istore_n 2, 1) := by decide +kernel
theorem dX7_many_28 : decode cX7_many 28 = .ok (.iinc 3 1, 3) := by decide +kernel
theorem dX7_many_31 : decode cX7_many 31 = .ok (.goto (-27), 3) := by decide +kernel
theorem dX7_many_34 : decode cX7_many 34 = .ok (.iload_n 2, 1) := by decide +kernel
theorem dX7_many_35 : decode cX7_many 35 = .ok (.ireturn, 1) := by decide +kernel
set_option maxRecDepth 20000 in
theorem ggX7_up_X7_many : GoodIn wsX7_up wsX7_many := goodIn_r _ [5, 6, 7, 8, 9, 10, 11, 12, 13, 14, 15, 16, 17, 18, 19, 20, 21, 22, 23, 24, 25, 26, 27, 28] rfl (by decide +kernel)
set_option maxRecDepth 20000 in
theorem gX7_up_X7_many : GoodIn wsX7_up (wsV RX7 99 RX7 yX7_many wsX7_many) := goodIn_app (goodIn_of _ (by decide +kernel)) ggX7_up_X7_many
theorem dX7_up_0 : decode cX7_up 0 = .ok (.aload_n 0, 1) := by decide +kernel
theorem dX7_up_1 : decode cX7_up 1 = .ok (.iconst 1, 1) := by decide +kernel
theorem dX7_up_2 : decode cX7_up 2 = .ok (.invokevirtual 99, 3) := by decide +kernel
theorem dX7_up_5 : decode cX7_up 5 = .ok (.aload_n 0, 1) := by decide +kernel
theorem dX7_up_6 : decode cX7_up 6 = .ok (.iconst 2, 1) := by decide +kernel
theorem dX7_up_7 : decode cX7_up 7 = .ok (.invokevirtual 99, 3) := by decide +kernel
theorem dX7_up_10 : decode cX7_up 10 = .ok (.iadd, 1) := by decide +kernel
theorem dX7_up_11 : decode cX7_up 11 = .ok (.ireturn, 1) := by decide +kernel
theorem dX7_waiting_0 : decode cX7_waiting 0 = .ok (.iconst 0, 1) := by decide +kernel
theorem dX7_waiting_1 : decode cX7_waiting 1 = .ok (.istore_n 1, 1) := by decide +kernel
theorem dX7_waiting_2 : decode cX7_waiting 2 = .ok (.iconst 0, 1) := by decide +kernel
theorem dX7_waiting_3 : decode cX7_waiting 3 = .ok (.istore_n 2, 1) := by decide +kernel
theorem dX7_waiting_4 : decode cX7_waiting 4 = .ok (.iload_n 2, 1) := by decide +kernel
theorem dX7_waiting_5 : decode cX7_waiting 5 = .ok (.aload_n 0, 1) := by decide +kernel
theorem dX7_waiting_6 : decode cX7_waiting 6 = .ok (.getfield 53, 3) := by decide +kernel
theorem dX7_waiting_9 : decode cX7_waiting 9 = .ok (.iconst 0, 1) := by decide +kernel
theorem dX7_waiting_10 : decode cX7_waiting 10 = .ok (.iaload, 1) := by decide +kernel
theorem dX7_waiting_11 : decode cX7_waiting 11 = .ok (.if_icmp .ge 18, 3) := by decide +kernel
theorem dX7_waiting_14 : decode cX7_waiting 14 = .ok (.iload_n 1, 1) := by decide +kernel
theorem dX7_waiting_15 : decode cX7_waiting 15 = .ok (.aload_n 0, 1) := by decide +kernel
theorem dX7_waiting_16 : decode cX7_waiting 16 = .ok (.getfield 44, 3) := by decide +kernel
theorem dX7_waiting_19 : decode cX7_waiting 19 = .ok (.iload_n 2, 1) := by decide +kernel
theorem dX7_waiting_20 : decode cX7_waiting 20 = .ok (.iaload, 1) := by decide +kernel
theorem dX7_waiting_21 : decode cX7_waiting 21 = .ok (.iadd, 1) := by decide +kernel
theorem dX7_waiting_22 : decode cX7_waiting 22 = .ok (.istore_n 1, 1) := by decide +kernel
theorem dX7_waiting_23 : decode cX7_waiting 23 = .ok (.iinc 2 1, 3) := by decide +kernel
theorem dX7_waiting_26 : decode cX7_waiting 26 = .ok (.goto (-22), 3) := by decide +kernel
theorem dX7_waiting_29 : decode cX7_waiting 29 = .ok (.iload_n 1, 1) := by decide +kernel
theorem dX7_waiting_30 : decode cX7_waiting 30 = .ok (.ireturn, 1) := by decide +kernel
theorem dX7_triers_0 : decode cX7_triers 0 = .ok (.iconst 0, 1) := by decide +kernel
theorem dX7_triers_1 : decode cX7_triers 1 = .ok (.istore_n 1, 1) := by decide +kernel
theorem dX7_triers_2 : decode cX7_triers 2 = .ok (.iconst 0, 1) := by decide +kernel
theorem dX7_triers_3 : decode cX7_triers 3 = .ok (.istore_n 2, 1) := by decide +kernel
theorem dX7_triers_4 : decode cX7_triers 4 = .ok (.iload_n 2, 1) := by decide +kernel
theorem dX7_triers_5 : decode cX7_triers 5 = .ok (.aload_n 0, 1) := by decide +kernel
theorem dX7_triers_6 : decode cX7_triers 6 = .ok (.getfield 53, 3) := by decide +kernel
theorem dX7_triers_9 : decode cX7_triers 9 = .ok (.iconst 1, 1) := by decide +kernel
theorem dX7_triers_10 : decode cX7_triers 10 = .ok (.iaload, 1) := by decide +kernel
theorem dX7_triers_11 : decode cX7_triers 11 = .ok (.if_icmp .ge 18, 3) := by decide +kernel
theorem dX7_triers_14 : decode cX7_triers 14 = .ok (.iload_n 1, 1) := by decide +kernel
theorem dX7_triers_15 : decode cX7_triers 15 = .ok (.aload_n 0, 1) := by decide +kernel
theorem dX7_triers_16 : decode cX7_triers 16 = .ok (.getfield 50, 3) := by decide +kernel
theorem dX7_triers_19 : decode cX7_triers 19 = .ok (.iload_n 2, 1) := by decide +kernel
theorem dX7_triers_20 : decode cX7_triers 20 = .ok (.iaload, 1) := by decide +kernel
theorem dX7_triers_21 : decode cX7_triers 21 = .ok (.iadd, 1) := by decide +kernel
theorem dX7_triers_22 : decode cX7_triers 22 = .ok (.istore_n 1, 1) := by decide +kernel
theorem dX7_triers_23 : decode cX7_triers 23 = .ok (.iinc 2 1, 3) := by decide +kernel
theorem dX7_triers_26 : decode cX7_triers 26 = .ok (.goto (-22), 3) := by decide +kernel
theorem dX7_triers_29 : decode cX7_triers 29 = .ok (.iload_n 1, 1) := by decide +kernel
theorem dX7_triers_30 : decode cX7_triers 30 = .ok (.ireturn, 1) := by decide +kernel
theorem dX7_read_0 : decode cX7_read 0 = .ok (.iconst 0, 1) := by decide +kernel
theorem dX7_read_1 : decode cX7_read 1 = .ok (.istore_n 2, 1) := by decide +kernel
theorem dX7_read_2 : decode cX7_read 2 = .ok (.iconst 0, 1) := by decide +kernel
theorem dX7_read_3 : decode cX7_read 3 = .ok (.istore_n 3, 1) := by decide +kernel
theorem dX7_read_4 : decode cX7_read 4 = .ok (.iload_n 1, 1) := by decide +kernel
theorem dX7_read_5 : decode cX7_read 5 = .ok (.aload_n 0, 1) := by decide +kernel
theorem dX7_read_6 : decode cX7_read 6 = .ok (.getfield 7, 3) := by decide +kernel
theorem dX7_read_9 : decode cX7_read 9 = .ok (.iconst 5, 1) := by decide +kernel
theorem dX7_read_10 : decode cX7_read 10 = .ok (.iaload, 1) := by decide +kernel
theorem dX7_read_11 : decode cX7_read 11 = .ok (.isub, 1) := by decide +kernel
theorem dX7_read_12 : decode cX7_read 12 = .ok (.istore 4, 2) := by decide +kernel
theorem dX7_read_14 : decode cX7_read 14 = .ok (.iload 4, 2) := by decide +kernel
theorem dX7_read_16 : decode cX7_read 16 = .ok (.iload_n 1, 1) := by decide +kernel
theorem dX7_read_17 : decode cX7_read 17 = .ok (.aload_n 0, 1) := by decide +kernel
theorem dX7_read_18 : decode cX7_read 18 = .ok (.getfield 7, 3) := by decide +kernel
theorem dX7_read_21 : decode cX7_read 21 = .ok (.iconst 5, 1) := by decide +kernel
theorem dX7_read_22 : decode cX7_read 22 = .ok (.iaload, 1) := by decide +kernel
theorem dX7_read_23 : decode cX7_read 23 = .ok (.isub, 1) := by decide +kernel
theorem dX7_read_24 : decode cX7_read 24 = .ok (.aload_n 0, 1) := by decide +kernel
theorem dX7_read_25 : decode cX7_read 25 = .ok (.getfield 7, 3) := by decide +kernel
theorem dX7_read_28 : decode cX7_read 28 = .ok (.bipush 6, 2) := by decide +kernel
theorem dX7_read_30 : decode cX7_read 30 = .ok (.iaload, 1) := by decide +kernel
theorem dX7_read_31 : decode cX7_read 31 = .ok (.isub, 1) := by decide +kernel
theorem dX7_read_32 : decode cX7_read 32 = .ok (.if_icmp .le 37, 3) := by decide +kernel
theorem dX7_read_35 : decode cX7_read 35 = .ok (.iload 4, 2) := by decide +kernel
theorem dX7_read_37 : decode cX7_read 37 = .ok (.ifCond .lt 26, 3) := by decide +kernel
theorem dX7_read_40 : decode cX7_read 40 = .ok (.aload_n 0, 1) := by decide +kernel
theorem dX7_read_41 : decode cX7_read 41 = .ok (.getfield 56, 3) := by decide +kernel
theorem dX7_read_44 : decode cX7_read 44 = .ok (.iload 4, 2) := by decide +kernel
theorem dX7_read_46 : decode cX7_read 46 = .ok (.iaload, 1) := by decide +kernel
theorem dX7_read_47 : decode cX7_read 47 = .ok (.ifCond .lt 16, 3) := by decide +kernel
theorem dX7_read_50 : decode cX7_read 50 = .ok (.iload_n 2, 1) := by decide +kernel
theorem dX7_read_51 : decode cX7_read 51 = .ok (.aload_n 0, 1) := by decide +kernel
theorem dX7_read_52 : decode cX7_read 52 = .ok (.getfield 56, 3) := by decide +kernel
theorem dX7_read_55 : decode cX7_read 55 = .ok (.iload 4, 2) := by decide +kernel
theorem dX7_read_57 : decode cX7_read 57 = .ok (.iaload, 1) := by decide +kernel
theorem dX7_read_58 : decode cX7_read 58 = .ok (.iadd, 1) := by decide +kernel
theorem dX7_read_59 : decode cX7_read 59 = .ok (.istore_n 2, 1) := by decide +kernel
theorem dX7_read_60 : decode cX7_read 60 = .ok (.iinc 3 1, 3) := by decide +kernel
theorem dX7_read_63 : decode cX7_read 63 = .ok (.iinc 4 (-1), 3) := by decide +kernel
theorem dX7_read_66 : decode cX7_read 66 = .ok (.goto (-52), 3) := by decide +kernel
theorem dX7_read_69 : decode cX7_read 69 = .ok (.aload_n 0, 1) := by decide +kernel
theorem dX7_read_70 : decode cX7_read 70 = .ok (.getfield 29, 3) := by decide +kernel
theorem dX7_read_73 : decode cX7_read 73 = .ok (.iconst 4, 1) := by decide +kernel
theorem dX7_read_74 : decode cX7_read 74 = .ok (.iload_n 3, 1) := by decide +kernel
theorem dX7_read_75 : decode cX7_read 75 = .ok (.ifCond .le 9, 3) := by decide +kernel
theorem dX7_read_78 : decode cX7_read 78 = .ok (.iload_n 2, 1) := by decide +kernel
theorem dX7_read_79 : decode cX7_read 79 = .ok (.iload_n 3, 1) := by decide +kernel
theorem dX7_read_80 : decode cX7_read 80 = .ok (.idiv, 1) := by decide +kernel
theorem dX7_read_81 : decode cX7_read 81 = .ok (.goto 9, 3) := by decide +kernel
theorem dX7_read_84 : decode cX7_read 84 = .ok (.aload_n 0, 1) := by decide +kernel
theorem dX7_read_85 : decode cX7_read 85 = .ok (.getfield 29, 3) := by decide +kernel
theorem dX7_read_88 : decode cX7_read 88 = .ok (.iconst 4, 1) := by decide +kernel
theorem dX7_read_89 : decode cX7_read 89 = .ok (.iaload, 1) := by decide +kernel
theorem dX7_read_90 : decode cX7_read 90 = .ok (.iastore, 1) := by decide +kernel
theorem dX7_read_91 : decode cX7_read 91 = .ok (.return_, 1) := by decide +kernel
set_option maxRecDepth 20000 in
theorem ggX7_wantedBy_X7_up : GoodIn wsX7_wantedBy wsX7_up := goodIn_r _ [7, 8, 9, 10, 6, 11, 12, 13, 14, 15, 16, 17, 18, 19, 20, 21, 22, 23, 24, 25, 26, 27, 28, 29, 30, 31, 32, 33, 34] rfl (by decide +kernel)
set_option maxRecDepth 20000 in
theorem gX7_wantedBy_X7_up : GoodIn wsX7_wantedBy (wsV RX7 103 RX7 yX7_up wsX7_up) := goodIn_app (goodIn_of _ (by decide +kernel)) ggX7_wantedBy_X7_up
theorem dX7_wantedBy_0 : decode cX7_wantedBy 0 = .ok (.aload_n 0, 1) := by decide +kernel
theorem dX7_wantedBy_1 : decode cX7_wantedBy 1 = .ok (.getfield 29, 3) := by decide +kernel
theorem dX7_wantedBy_4 : decode cX7_wantedBy 4 = .ok (.iconst 4, 1) := by decide +kernel
theorem dX7_wantedBy_5 : decode cX7_wantedBy 5 = .ok (.iaload, 1) := by decide +kernel
theorem dX7_wantedBy_6 : decode cX7_wantedBy 6 = .ok (.istore_n 1, 1) := by decide +kernel
theorem dX7_wantedBy_7 : decode cX7_wantedBy 7 = .ok (.aload_n 0, 1) := by decide +kernel
theorem dX7_wantedBy_8 : decode cX7_wantedBy 8 = .ok (.getfield 7, 3) := by decide +kernel
theorem dX7_wantedBy_11 : decode cX7_wantedBy 11 = .ok (.bipush 10, 2) := by decide +kernel
theorem dX7_wantedBy_13 : decode cX7_wantedBy 13 = .ok (.iaload, 1) := by decide +kernel
theorem dX7_wantedBy_14 : decode cX7_wantedBy 14 = .ok (.iconst 1, 1) := by decide +kernel
theorem dX7_wantedBy_15 : decode cX7_wantedBy 15 = .ok (.if_icmp .ne 23, 3) := by decide +kernel
theorem dX7_wantedBy_18 : decode cX7_wantedBy 18 = .ok (.iload_n 1, 1) := by decide +kernel
theorem dX7_wantedBy_19 : decode cX7_wantedBy 19 = .ok (.aload_n 0, 1) := by decide +kernel
theorem dX7_wantedBy_20 : decode cX7_wantedBy 20 = .ok (.getfield 7, 3) := by decide +kernel
theorem dX7_wantedBy_23 : decode cX7_wantedBy 23 = .ok (.bipush 11, 2) := by decide +kernel
theorem dX7_wantedBy_25 : decode cX7_wantedBy 25 = .ok (.iaload, 1) := by decide +kernel
theorem dX7_wantedBy_26 : decode cX7_wantedBy 26 = .ok (.iadd, 1) := by decide +kernel
theorem dX7_wantedBy_27 : decode cX7_wantedBy 27 = .ok (.iconst 1, 1) := by decide +kernel
theorem dX7_wantedBy_28 : decode cX7_wantedBy 28 = .ok (.isub, 1) := by decide +kernel
theorem dX7_wantedBy_29 : decode cX7_wantedBy 29 = .ok (.aload_n 0, 1) := by decide +kernel
theorem dX7_wantedBy_30 : decode cX7_wantedBy 30 = .ok (.getfield 7, 3) := by decide +kernel
theorem dX7_wantedBy_33 : decode cX7_wantedBy 33 = .ok (.bipush 11, 2) := by decide +kernel
theorem dX7_wantedBy_35 : decode cX7_wantedBy 35 = .ok (.iaload, 1) := by decide +kernel
theorem dX7_wantedBy_36 : decode cX7_wantedBy 36 = .ok (.idiv, 1) := by decide +kernel
theorem dX7_wantedBy_37 : decode cX7_wantedBy 37 = .ok (.ireturn, 1) := by decide +kernel
theorem dX7_wantedBy_38 : decode cX7_wantedBy 38 = .ok (.aload_n 0, 1) := by decide +kernel
theorem dX7_wantedBy_39 : decode cX7_wantedBy 39 = .ok (.getfield 7, 3) := by decide +kernel
theorem dX7_wantedBy_42 : decode cX7_wantedBy 42 = .ok (.bipush 10, 2) := by decide +kernel
theorem dX7_wantedBy_44 : decode cX7_wantedBy 44 = .ok (.iaload, 1) := by decide +kernel
theorem dX7_wantedBy_45 : decode cX7_wantedBy 45 = .ok (.iconst 2, 1) := by decide +kernel
theorem dX7_wantedBy_46 : decode cX7_wantedBy 46 = .ok (.if_icmp .ne 7, 3) := by decide +kernel
theorem dX7_wantedBy_49 : decode cX7_wantedBy 49 = .ok (.iconst 1, 1) := by decide +kernel
theorem dX7_wantedBy_50 : decode cX7_wantedBy 50 = .ok (.goto 4, 3) := by decide +kernel
theorem dX7_wantedBy_53 : decode cX7_wantedBy 53 = .ok (.iconst 0, 1) := by decide +kernel
theorem dX7_wantedBy_54 : decode cX7_wantedBy 54 = .ok (.istore_n 2, 1) := by decide +kernel
theorem dX7_wantedBy_55 : decode cX7_wantedBy 55 = .ok (.iload_n 2, 1) := by decide +kernel
theorem dX7_wantedBy_56 : decode cX7_wantedBy 56 = .ok (.ifCond .eq 29, 3) := by decide +kernel
theorem dX7_wantedBy_59 : decode cX7_wantedBy 59 = .ok (.iload_n 1, 1) := by decide +kernel
theorem dX7_wantedBy_60 : decode cX7_wantedBy 60 = .ok (.aload_n 0, 1) := by decide +kernel
theorem dX7_wantedBy_61 : decode cX7_wantedBy 61 = .ok (.getfield 7, 3) := by decide +kernel
theorem dX7_wantedBy_64 : decode cX7_wantedBy 64 = .ok (.bipush 12, 2) := by decide +kernel
theorem dX7_wantedBy_66 : decode cX7_wantedBy 66 = .ok (.iaload, 1) := by decide +kernel
theorem dX7_wantedBy_67 : decode cX7_wantedBy 67 = .ok (.if_icmp .le 18, 3) := by decide +kernel
theorem dX7_wantedBy_70 : decode cX7_wantedBy 70 = .ok (.aload_n 0, 1) := by decide +kernel
theorem dX7_wantedBy_71 : decode cX7_wantedBy 71 = .ok (.invokevirtual 103, 3) := by decide +kernel
theorem dX7_wantedBy_74 : decode cX7_wantedBy 74 = .ok (.aload_n 0, 1) := by decide +kernel
theorem dX7_wantedBy_75 : decode cX7_wantedBy 75 = .ok (.getfield 7, 3) := by decide +kernel
theorem dX7_wantedBy_78 : decode cX7_wantedBy 78 = .ok (.bipush 14, 2) := by decide +kernel
theorem dX7_wantedBy_80 : decode cX7_wantedBy 80 = .ok (.iaload, 1) := by decide +kernel
theorem dX7_wantedBy_81 : decode cX7_wantedBy 81 = .ok (.iadd, 1) := by decide +kernel
theorem dX7_wantedBy_82 : decode cX7_wantedBy 82 = .ok (.goto 37, 3) := by decide +kernel
theorem dX7_wantedBy_85 : decode cX7_wantedBy 85 = .ok (.iload_n 2, 1) := by decide +kernel
theorem dX7_wantedBy_86 : decode cX7_wantedBy 86 = .ok (.ifCond .eq 29, 3) := by decide +kernel
theorem dX7_wantedBy_89 : decode cX7_wantedBy 89 = .ok (.iload_n 1, 1) := by decide +kernel
theorem dX7_wantedBy_90 : decode cX7_wantedBy 90 = .ok (.aload_n 0, 1) := by decide +kernel
theorem dX7_wantedBy_91 : decode cX7_wantedBy 91 = .ok (.getfield 7, 3) := by decide +kernel
theorem dX7_wantedBy_94 : decode cX7_wantedBy 94 = .ok (.bipush 13, 2) := by decide +kernel
theorem dX7_wantedBy_96 : decode cX7_wantedBy 96 = .ok (.iaload, 1) := by decide +kernel
theorem dX7_wantedBy_97 : decode cX7_wantedBy 97 = .ok (.if_icmp .ge 18, 3) := by decide +kernel
theorem dX7_wantedBy_100 : decode cX7_wantedBy 100 = .ok (.aload_n 0, 1) := by decide +kernel
theorem dX7_wantedBy_101 : decode cX7_wantedBy 101 = .ok (.invokevirtual 103, 3) := by decide +kernel
theorem dX7_wantedBy_104 : decode cX7_wantedBy 104 = .ok (.aload_n 0, 1) := by decide +kernel
theorem dX7_wantedBy_105 : decode cX7_wantedBy 105 = .ok (.getfield 7, 3) := by decide +kernel
theorem dX7_wantedBy_108 : decode cX7_wantedBy 108 = .ok (.bipush 15, 2) := by decide +kernel
theorem dX7_wantedBy_110 : decode cX7_wantedBy 110 = .ok (.iaload, 1) := by decide +kernel
theorem dX7_wantedBy_111 : decode cX7_wantedBy 111 = .ok (.isub, 1) := by decide +kernel
theorem dX7_wantedBy_112 : decode cX7_wantedBy 112 = .ok (.goto 7, 3) := by decide +kernel
theorem dX7_wantedBy_115 : decode cX7_wantedBy 115 = .ok (.aload_n 0, 1) := by decide +kernel
theorem dX7_wantedBy_116 : decode cX7_wantedBy 116 = .ok (.invokevirtual 103, 3) := by decide +kernel
theorem dX7_wantedBy_119 : decode cX7_wantedBy 119 = .ok (.ireturn, 1) := by decide +kernel
theorem dX7_most_0 : decode cX7_most 0 = .ok (.iload_n 0, 1) := by decide +kernel
theorem dX7_most_1 : decode cX7_most 1 = .ok (.iload_n 1, 1) := by decide +kernel
theorem dX7_most_2 : decode cX7_most 2 = .ok (.if_icmp .le 7, 3) := by decide +kernel
theorem dX7_most_5 : decode cX7_most 5 = .ok (.iload_n 0, 1) := by decide +kernel
