theorem dX7_fail_0 : decode cX7_fail 0 = .ok (.iload_n 1, 1) := by decide +kernel
theorem dX7_fail_1 : decode cX7_fail 1 = .ok (.i2l, 1) := by decide +kernel
theorem dX7_fail_2 : decode cX7_fail 2 = .ok (.lconst 0, 1) := by decide +kernel
theorem dX7_fail_3 : decode cX7_fail 3 = .ok (.ldc2_w 151, 3) := by decide +kernel
theorem dX7_fail_6 : decode cX7_fail 6 = .ok (.invokestatic 83, 3) := by decide +kernel
theorem dX7_fail_9 : decode cX7_fail 9 = .ok (.ifCond .ne 7, 3) := by decide +kernel
theorem dX7_fail_12 : decode cX7_fail 12 = .ok (.sipush (-1001), 3) := by decide +kernel
theorem dX7_fail_15 : decode cX7_fail 15 = .ok (.ireturn, 1) := by decide +kernel
theorem dX7_fail_16 : decode cX7_fail 16 = .ok (.iload_n 2, 1) := by decide +kernel
theorem dX7_fail_17 : decode cX7_fail 17 = .ok (.ifCond .eq 13, 3) := by decide +kernel
theorem dX7_fail_20 : decode cX7_fail 20 = .ok (.iload_n 1, 1) := by decide +kernel
theorem dX7_fail_21 : decode cX7_fail 21 = .ok (.bipush 8, 2) := by decide +kernel
theorem dX7_fail_23 : decode cX7_fail 23 = .ok (.if_icmp .ge 7, 3) := by decide +kernel
theorem dX7_fail_26 : decode cX7_fail 26 = .ok (.sipush (-1003), 3) := by decide +kernel
theorem dX7_fail_29 : decode cX7_fail 29 = .ok (.ireturn, 1) := by decide +kernel
theorem dX7_fail_30 : decode cX7_fail 30 = .ok (.aload_n 0, 1) := by decide +kernel
theorem dX7_fail_31 : decode cX7_fail 31 = .ok (.getfield 32, 3) := by decide +kernel
theorem dX7_fail_34 : decode cX7_fail 34 = .ok (.iload_n 1, 1) := by decide +kernel
theorem dX7_fail_35 : decode cX7_fail 35 = .ok (.iaload, 1) := by decide +kernel
theorem dX7_fail_36 : decode cX7_fail 36 = .ok (.istore_n 3, 1) := by decide +kernel
theorem dX7_fail_37 : decode cX7_fail 37 = .ok (.aload_n 0, 1) := by decide +kernel
theorem dX7_fail_38 : decode cX7_fail 38 = .ok (.getfield 32, 3) := by decide +kernel
theorem dX7_fail_41 : decode cX7_fail 41 = .ok (.iload_n 1, 1) := by decide +kernel
theorem dX7_fail_42 : decode cX7_fail 42 = .ok (.iconst 0, 1) := by decide +kernel
theorem dX7_fail_43 : decode cX7_fail 43 = .ok (.iastore, 1) := by decide +kernel
theorem dX7_fail_44 : decode cX7_fail 44 = .ok (.iload_n 3, 1) := by decide +kernel
theorem dX7_fail_45 : decode cX7_fail 45 = .ok (.ireturn, 1) := by decide +kernel
set_option maxRecDepth 20000 in
theorem ggX7_again_X7_begin : GoodIn wsX7_again wsX7_begin := goodIn_r _ [6, 1, 7, 8, 9, 10, 11, 12, 13, 14, 15, 16, 17, 18, 19, 20, 21, 22, 23, 24, 25, 26, 27, 28, 29, 30, 31] rfl (by decide +kernel)
set_option maxRecDepth 20000 in
theorem gX7_again_X7_begin : GoodIn wsX7_again (wsV RX7 78 RX7 yX7_begin wsX7_begin) := goodIn_app (goodIn_of _ (by decide +kernel)) ggX7_again_X7_begin
theorem dX7_again_0 : decode cX7_again 0 = .ok (.aload_n 0, 1) := by decide +kernel
theorem dX7_again_1 : decode cX7_again 1 = .ok (.getfield 29, 3) := by decide +kernel
theorem dX7_again_4 : decode cX7_again 4 = .ok (.iconst 0, 1) := by decide +kernel
theorem dX7_again_5 : decode cX7_again 5 = .ok (.iaload, 1) := by decide +kernel
theorem dX7_again_6 : decode cX7_again 6 = .ok (.istore_n 1, 1) := by decide +kernel
theorem dX7_again_7 : decode cX7_again 7 = .ok (.aload_n 0, 1) := by decide +kernel
theorem dX7_again_8 : decode cX7_again 8 = .ok (.invokevirtual 78, 3) := by decide +kernel
theorem dX7_again_11 : decode cX7_again 11 = .ok (.iload_n 1, 1) := by decide +kernel
theorem dX7_again_12 : decode cX7_again 12 = .ok (.ireturn, 1) := by decide +kernel
set_option maxRecDepth 20000 in
theorem ggX7_server_X7_in : GoodIn wsX7_server wsX7_in := goodIn_r _ [8] rfl (by decide +kernel)
set_option maxRecDepth 20000 in
theorem gX7_server_X7_in : GoodIn wsX7_server (va_wsS RX7 83 yX7_in wsX7_in) := goodIn_app (goodIn_of _ (by decide +kernel)) ggX7_server_X7_in
theorem dX7_server_0 : decode cX7_server 0 = .ok (.iload_n 1, 1) := by decide +kernel
theorem dX7_server_1 : decode cX7_server 1 = .ok (.i2l, 1) := by decide +kernel
theorem dX7_server_2 : decode cX7_server 2 = .ok (.lconst 0, 1) := by decide +kernel
theorem dX7_server_3 : decode cX7_server 3 = .ok (.ldc2_w 151, 3) := by decide +kernel
theorem dX7_server_6 : decode cX7_server 6 = .ok (.invokestatic 83, 3) := by decide +kernel
theorem dX7_server_9 : decode cX7_server 9 = .ok (.ifCond .ne 7, 3) := by decide +kernel
theorem dX7_server_12 : decode cX7_server 12 = .ok (.sipush (-1001), 3) := by decide +kernel
theorem dX7_server_15 : decode cX7_server 15 = .ok (.ireturn, 1) := by decide +kernel
theorem dX7_server_16 : decode cX7_server 16 = .ok (.iload_n 2, 1) := by decide +kernel
theorem dX7_server_17 : decode cX7_server 17 = .ok (.i2l, 1) := by decide +kernel
theorem dX7_server_18 : decode cX7_server 18 = .ok (.lconst 0, 1) := by decide +kernel
theorem dX7_server_19 : decode cX7_server 19 = .ok (.lconst 1, 1) := by decide +kernel
theorem dX7_server_20 : decode cX7_server 20 = .ok (.invokestatic 83, 3) := by decide +kernel
theorem dX7_server_23 : decode cX7_server 23 = .ok (.ifCond .ne 7, 3) := by decide +kernel
theorem dX7_server_26 : decode cX7_server 26 = .ok (.sipush (-1002), 3) := by decide +kernel
theorem dX7_server_29 : decode cX7_server 29 = .ok (.ireturn, 1) := by decide +kernel
theorem dX7_server_30 : decode cX7_server 30 = .ok (.aload_n 0, 1) := by decide +kernel
theorem dX7_server_31 : decode cX7_server 31 = .ok (.getfield 32, 3) := by decide +kernel
theorem dX7_server_34 : decode cX7_server 34 = .ok (.iload_n 1, 1) := by decide +kernel
theorem dX7_server_35 : decode cX7_server 35 = .ok (.iaload, 1) := by decide +kernel
theorem dX7_server_36 : decode cX7_server 36 = .ok (.iconst 1, 1) := by decide +kernel
theorem dX7_server_37 : decode cX7_server 37 = .ok (.if_icmp .eq 13, 3) := by decide +kernel
theorem dX7_server_40 : decode cX7_server 40 = .ok (.aload_n 0, 1) := by decide +kernel
theorem dX7_server_41 : decode cX7_server 41 = .ok (.getfield 32, 3) := by decide +kernel
theorem dX7_server_44 : decode cX7_server 44 = .ok (.iload_n 1, 1) := by decide +kernel
theorem dX7_server_45 : decode cX7_server 45 = .ok (.iaload, 1) := by decide +kernel
theorem dX7_server_46 : decode cX7_server 46 = .ok (.iconst 3, 1) := by decide +kernel
theorem dX7_server_47 : decode cX7_server 47 = .ok (.if_icmp .ne 7, 3) := by decide +kernel
theorem dX7_server_50 : decode cX7_server 50 = .ok (.iconst 1, 1) := by decide +kernel
theorem dX7_server_51 : decode cX7_server 51 = .ok (.goto 4, 3) := by decide +kernel
theorem dX7_server_54 : decode cX7_server 54 = .ok (.iconst 0, 1) := by decide +kernel
theorem dX7_server_55 : decode cX7_server 55 = .ok (.istore_n 3, 1) := by decide +kernel
theorem dX7_server_56 : decode cX7_server 56 = .ok (.iload_n 2, 1) := by decide +kernel
theorem dX7_server_57 : decode cX7_server 57 = .ok (.ifCond .ne 12, 3) := by decide +kernel
theorem dX7_server_60 : decode cX7_server 60 = .ok (.aload_n 0, 1) := by decide +kernel
theorem dX7_server_61 : decode cX7_server 61 = .ok (.getfield 32, 3) := by decide +kernel
theorem dX7_server_64 : decode cX7_server 64 = .ok (.iload_n 1, 1) := by decide +kernel
theorem dX7_server_65 : decode cX7_server 65 = .ok (.iaload, 1) := by decide +kernel
theorem dX7_server_66 : decode cX7_server 66 = .ok (.goto 26, 3) := by decide +kernel
theorem dX7_server_69 : decode cX7_server 69 = .ok (.iload_n 3, 1) := by decide +kernel
theorem dX7_server_70 : decode cX7_server 70 = .ok (.ifCond .eq 21, 3) := by decide +kernel
theorem dX7_server_73 : decode cX7_server 73 = .ok (.aload_n 0, 1) := by decide +kernel
theorem dX7_server_74 : decode cX7_server 74 = .ok (.getfield 29, 3) := by decide +kernel
theorem dX7_server_77 : decode cX7_server 77 = .ok (.iconst 0, 1) := by decide +kernel
theorem dX7_server_78 : decode cX7_server 78 = .ok (.iaload, 1) := by decide +kernel
theorem dX7_server_79 : decode cX7_server 79 = .ok (.iconst 1, 1) := by decide +kernel
theorem dX7_server_80 : decode cX7_server 80 = .ok (.isub, 1) := by decide +kernel
theorem dX7_server_81 : decode cX7_server 81 = .ok (.aload_n 0, 1) := by decide +kernel
theorem dX7_server_82 : decode cX7_server 82 = .ok (.getfield 35, 3) := by decide +kernel
theorem dX7_server_85 : decode cX7_server 85 = .ok (.iload_n 1, 1) := by decide +kernel
theorem dX7_server_86 : decode cX7_server 86 = .ok (.iaload, 1) := by decide +kernel
theorem dX7_server_87 : decode cX7_server 87 = .ok (.isub, 1) := by decide +kernel
theorem dX7_server_88 : decode cX7_server 88 = .ok (.goto 4, 3) := by decide +kernel
theorem dX7_server_91 : decode cX7_server 91 = .ok (.iconst 0, 1) := by decide +kernel
theorem dX7_server_92 : decode cX7_server 92 = .ok (.ireturn, 1) := by decide +kernel
set_option maxRecDepth 20000 in
theorem ggX7_now_X7_waiting : GoodIn wsX7_now wsX7_waiting := goodIn_r _ [6, 7, 8, 23, 24, 25, 26, 27, 28, 29, 30, 31, 32, 33, 34, 35, 36, 37, 38, 39, 40, 41, 42, 43, 44] rfl (by decide +kernel)
set_option maxRecDepth 20000 in
theorem gX7_now_X7_waiting : GoodIn wsX7_now (wsV RX7 129 RX7 yX7_waiting wsX7_waiting) := goodIn_app (goodIn_of _ (by decide +kernel)) ggX7_now_X7_waiting
set_option maxRecDepth 20000 in
theorem ggX7_now_X7_triers : GoodIn wsX7_now wsX7_triers := goodIn_r _ [12, 7, 13, 23, 24, 25, 26, 27, 28, 29, 30, 31, 32, 33, 34, 35, 36, 37, 38, 39, 40, 41, 42, 43, 44] rfl (by decide +kernel)
set_option maxRecDepth 20000 in
theorem gX7_now_X7_triers : GoodIn wsX7_now (wsV RX7 153 RX7 yX7_triers wsX7_triers) := goodIn_app (goodIn_of _ (by decide +kernel)) ggX7_now_X7_triers
set_option maxRecDepth 20000 in
theorem ggX7_now_X7_up : GoodIn wsX7_now wsX7_up := goodIn_r _ [17, 18, 19, 20, 5, 21, 22, 23, 24, 25, 26, 27, 28, 29, 30, 31, 32, 33, 34, 35, 36, 37, 38, 39, 40, 41, 42, 43, 44] rfl (by decide +kernel)
set_option maxRecDepth 20000 in
theorem gX7_now_X7_up : GoodIn wsX7_now (wsV RX7 103 RX7 yX7_up wsX7_up) := goodIn_app (goodIn_of _ (by decide +kernel)) ggX7_now_X7_up
set_option maxRecDepth 20000 in
theorem ggX7_now_X7_many : GoodIn wsX7_now wsX7_many := goodIn_r _ [21, 22, 23, 24, 25, 26, 27, 28, 29, 30, 31, 32, 33, 34, 35, 36, 37, 38, 39, 40, 41, 42, 43, 44] rfl (by decide +kernel)
set_option maxRecDepth 20000 in
theorem gX7_now_X7_many : GoodIn wsX7_now (wsV RX7 99 RX7 yX7_many wsX7_many) := goodIn_app (goodIn_of _ (by decide +kernel)) ggX7_now_X7_many
theorem dX7_now_0 : decode cX7_now 0 = .ok (.iload_n 1, 1) := by decide +kernel
theorem dX7_now_1 : decode cX7_now 1 = .ok (.tableswitch 173 0 12 #[67, 74, 79, 84, 91, 98, 105, 112, 119, 124, 130, 136, 165], 67) := by decide +kernel
theorem dX7_now_68 : decode cX7_now 68 = .ok (.aload_n 0, 1) := by decide +kernel
theorem dX7_now_69 : decode cX7_now 69 = .ok (.getfield 29, 3) := by decide +kernel
theorem dX7_now_72 : decode cX7_now 72 = .ok (.iconst 0, 1) := by decide +kernel
theorem dX7_now_73 : decode cX7_now 73 = .ok (.iaload, 1) := by decide +kernel
theorem dX7_now_74 : decode cX7_now 74 = .ok (.ireturn, 1) := by decide +kernel
theorem dX7_now_75 : decode cX7_now 75 = .ok (.aload_n 0, 1) := by decide +kernel
theorem dX7_now_76 : decode cX7_now 76 = .ok (.invokevirtual 129, 3) := by decide +kernel
theorem dX7_now_79 : decode cX7_now 79 = .ok (.ireturn, 1) := by decide +kernel
theorem dX7_now_80 : decode cX7_now 80 = .ok (.aload_n 0, 1) := by decide +kernel
theorem dX7_now_81 : decode cX7_now 81 = .ok (.invokevirtual 153, 3) := by decide +kernel
theorem dX7_now_84 : decode cX7_now 84 = .ok (.ireturn, 1) := by decide +kernel
theorem dX7_now_85 : decode cX7_now 85 = .ok (.aload_n 0, 1) := by decide +kernel
theorem dX7_now_86 : decode cX7_now 86 = .ok (.getfield 29, 3) := by decide +kernel
theorem dX7_now_89 : decode cX7_now 89 = .ok (.iconst 1, 1) := by decide +kernel
theorem dX7_now_90 : decode cX7_now 90 = .ok (.iaload, 1) := by decide +kernel
theorem dX7_now_91 : decode cX7_now 91 = .ok (.ireturn, 1) := by decide +kernel
theorem dX7_now_92 : decode cX7_now 92 = .ok (.aload_n 0, 1) := by decide +kernel
theorem dX7_now_93 : decode cX7_now 93 = .ok (.getfield 29, 3) := by decide +kernel
theorem dX7_now_96 : decode cX7_now 96 = .ok (.iconst 2, 1) := by decide +kernel
theorem dX7_now_97 : decode cX7_now 97 = .ok (.iaload, 1) := by decide +kernel
theorem dX7_now_98 : decode cX7_now 98 = .ok (.ireturn, 1) := by decide +kernel
theorem dX7_now_99 : decode cX7_now 99 = .ok (.aload_n 0, 1) := by decide +kernel
theorem dX7_now_100 : decode cX7_now 100 = .ok (.getfield 29, 3) := by decide +kernel
theorem dX7_now_103 : decode cX7_now 103 = .ok (.iconst 3, 1) := by decide +kernel
theorem dX7_now_104 : decode cX7_now 104 = .ok (.iaload, 1) := by decide +kernel
theorem dX7_now_105 : decode cX7_now 105 = .ok (.ireturn, 1) := by decide +kernel
theorem dX7_now_106 : decode cX7_now 106 = .ok (.aload_n 0, 1) := by decide +kernel
theorem dX7_now_107 : decode cX7_now 107 = .ok (.getfield 29, 3) := by decide +kernel
theorem dX7_now_110 : decode cX7_now 110 = .ok (.iconst 4, 1) := by decide +kernel
theorem dX7_now_111 : decode cX7_now 111 = .ok (.iaload, 1) := by decide +kernel
theorem dX7_now_112 : decode cX7_now 112 = .ok (.ireturn, 1) := by decide +kernel
theorem dX7_now_113 : decode cX7_now 113 = .ok (.aload_n 0, 1) := by decide +kernel
theorem dX7_now_114 : decode cX7_now 114 = .ok (.getfield 29, 3) := by decide +kernel
theorem dX7_now_117 : decode cX7_now 117 = .ok (.iconst 5, 1) := by decide +kernel
theorem dX7_now_118 : decode cX7_now 118 = .ok (.iaload, 1) := by decide +kernel
theorem dX7_now_119 : decode cX7_now 119 = .ok (.ireturn, 1) := by decide +kernel
theorem dX7_now_120 : decode cX7_now 120 = .ok (.aload_n 0, 1) := by decide +kernel
theorem dX7_now_121 : decode cX7_now 121 = .ok (.invokevirtual 103, 3) := by decide +kernel
theorem dX7_now_124 : decode cX7_now 124 = .ok (.ireturn, 1) := by decide +kernel
theorem dX7_now_125 : decode cX7_now 125 = .ok (.aload_n 0, 1) := by decide +kernel
theorem dX7_now_126 : decode cX7_now 126 = .ok (.iconst 2, 1) := by decide +kernel
theorem dX7_now_127 : decode cX7_now 127 = .ok (.invokevirtual 99, 3) := by decide +kernel
theorem dX7_now_130 : decode cX7_now 130 = .ok (.ireturn, 1) := by decide +kernel
theorem dX7_now_131 : decode cX7_now 131 = .ok (.aload_n 0, 1) := by decide +kernel
theorem dX7_now_132 : decode cX7_now 132 = .ok (.iconst 3, 1) := by decide +kernel
theorem dX7_now_133 : decode cX7_now 133 = .ok (.invokevirtual 99, 3) := by decide +kernel
theorem dX7_now_136 : decode cX7_now 136 = .ok (.ireturn, 1) := by decide +kernel
theorem dX7_now_137 : decode cX7_now 137 = .ok (.aload_n 0, 1) := by decide +kernel
theorem dX7_now_138 : decode cX7_now 138 = .ok (.getfield 29, 3) := by decide +kernel
theorem dX7_now_141 : decode cX7_now 141 = .ok (.bipush 6, 2) := by decide +kernel
theorem dX7_now_143 : decode cX7_now 143 = .ok (.iaload, 1) := by decide +kernel
theorem dX7_now_144 : decode cX7_now 144 = .ok (.ifCond .ge 7, 3) := by decide +kernel
theorem dX7_now_147 : decode cX7_now 147 = .ok (.iconst (-1), 1) := by decide +kernel
theorem dX7_now_148 : decode cX7_now 148 = .ok (.goto 17, 3) := by decide +kernel
theorem dX7_now_151 : decode cX7_now 151 = .ok (.aload_n 0, 1) := by decide +kernel
theorem dX7_now_152 : decode cX7_now 152 = .ok (.getfield 29, 3) := by decide +kernel
theorem dX7_now_155 : decode cX7_now 155 = .ok (.iconst 0, 1) := by decide +kernel
theorem dX7_now_156 : decode cX7_now 156 = .ok (.iaload, 1) := by decide +kernel
theorem dX7_now_157 : decode cX7_now 157 = .ok (.aload_n 0, 1) := by decide +kernel
theorem dX7_now_158 : decode cX7_now 158 = .ok (.getfield 29, 3) := by decide +kernel
theorem dX7_now_161 : decode cX7_now 161 = .ok (.bipush 6, 2) := by decide +kernel
theorem dX7_now_163 : decode cX7_now 163 = .ok (.iaload, 1) := by decide +kernel
theorem dX7_now_164 : decode cX7_now 164 = .ok (.isub, 1) := by decide +kernel
theorem dX7_now_165 : decode cX7_now 165 = .ok (.ireturn, 1) := by decide +kernel
theorem dX7_now_166 : decode cX7_now 166 = .ok (.aload_n 0, 1) := by decide +kernel
theorem dX7_now_167 : decode cX7_now 167 = .ok (.getfield 29, 3) := by decide +kernel
theorem dX7_now_170 : decode cX7_now 170 = .ok (.bipush 7, 2) := by decide +kernel
theorem dX7_now_172 : decode cX7_now 172 = .ok (.iaload, 1) := by decide +kernel
theorem dX7_now_173 : decode cX7_now 173 = .ok (.ireturn, 1) := by decide +kernel
theorem dX7_now_174 : decode cX7_now 174 = .ok (.sipush (-1002), 3) := by decide +kernel
theorem dX7_now_177 : decode cX7_now 177 = .ok (.ireturn, 1) := by decide +kernel
set_option maxRecDepth 20000 in
theorem ggX7_was_X7_isTick : GoodIn wsX7_was wsX7_isTick := goodIn_r _ [7, 8, 9, 10, 6, 11] rfl (by decide +kernel)
set_option maxRecDepth 20000 in
theorem gX7_was_X7_isTick : GoodIn wsX7_was (va_wsS RX7 89 yX7_isTick wsX7_isTick) := goodIn_app (goodIn_of _ (by decide +kernel)) ggX7_was_X7_isTick
set_option maxRecDepth 20000 in
theorem ggX7_was_X7_in : GoodIn wsX7_was wsX7_in := goodIn_r _ [11] rfl (by decide +kernel)
set_option maxRecDepth 20000 in
theorem gX7_was_X7_in : GoodIn wsX7_was (va_wsS RX7 83 yX7_in wsX7_in) := goodIn_app (goodIn_of _ (by decide +kernel)) ggX7_was_X7_in
theorem dX7_was_0 : decode cX7_was 0 = .ok (.iload_n 1, 1) := by decide +kernel
theorem dX7_was_1 : decode cX7_was 1 = .ok (.invokestatic 89, 3) := by decide +kernel
theorem dX7_was_4 : decode cX7_was 4 = .ok (.ifCond .eq 15, 3) := by decide +kernel
theorem dX7_was_7 : decode cX7_was 7 = .ok (.iload_n 2, 1) := by decide +kernel
theorem dX7_was_8 : decode cX7_was 8 = .ok (.i2l, 1) := by decide +kernel
theorem dX7_was_9 : decode cX7_was 9 = .ok (.lconst 0, 1) := by decide +kernel
theorem dX7_was_10 : decode cX7_was 10 = .ok (.ldc2_w 156, 3) := by decide +kernel
theorem dX7_was_13 : decode cX7_was 13 = .ok (.invokestatic 83, 3) := by decide +kernel
theorem dX7_was_16 : decode cX7_was 16 = .ok (.ifCond .ne 7, 3) := by decide +kernel
theorem dX7_was_19 : decode cX7_was 19 = .ok (.sipush (-1002), 3) := by decide +kernel
theorem dX7_was_22 : decode cX7_was 22 = .ok (.ireturn, 1) := by decide +kernel
theorem dX7_was_23 : decode cX7_was 23 = .ok (.iload_n 1, 1) := by decide +kernel
theorem dX7_was_24 : decode cX7_was 24 = .ok (.aload_n 0, 1) := by decide +kernel
theorem dX7_was_25 : decode cX7_was 25 = .ok (.getfield 29, 3) := by decide +kernel
theorem dX7_was_28 : decode cX7_was 28 = .ok (.iconst 0, 1) := by decide +kernel
theorem dX7_was_29 : decode cX7_was 29 = .ok (.iaload, 1) := by decide +kernel
theorem dX7_was_30 : decode cX7_was 30 = .ok (.if_icmp .ge 17, 3) := by decide +kernel
theorem dX7_was_33 : decode cX7_was 33 = .ok (.aload_n 0, 1) := by decide +kernel
theorem dX7_was_34 : decode cX7_was 34 = .ok (.getfield 59, 3) := by decide +kernel
theorem dX7_was_37 : decode cX7_was 37 = .ok (.bipush 6, 2) := by decide +kernel
theorem dX7_was_39 : decode cX7_was 39 = .ok (.iload_n 1, 1) := by decide +kernel
theorem dX7_was_40 : decode cX7_was 40 = .ok (.imul, 1) := by decide +kernel
theorem dX7_was_41 : decode cX7_was 41 = .ok (.iload_n 2, 1) := by decide +kernel
theorem dX7_was_42 : decode cX7_was 42 = .ok (.iadd, 1) := by decide +kernel
theorem dX7_was_43 : decode cX7_was 43 = .ok (.iaload, 1) := by decide +kernel
theorem dX7_was_44 : decode cX7_was 44 = .ok (.goto 6, 3) := by decide +kernel
theorem dX7_was_47 : decode cX7_was 47 = .ok (.sipush (-1003), 3) := by decide +kernel
theorem dX7_was_50 : decode cX7_was 50 = .ok (.ireturn, 1) := by decide +kernel
theorem dX7_latest_0 : decode cX7_latest 0 = .ok (.iconst 0, 1) := by decide +kernel
theorem dX7_latest_1 : decode cX7_latest 1 = .ok (.istore_n 3, 1) := by decide +kernel
theorem dX7_latest_2 : decode cX7_latest 2 = .ok (.iload_n 1, 1) := by decide +kernel
theorem dX7_latest_3 : decode cX7_latest 3 = .ok (.istore 4, 2) := by decide +kernel
theorem dX7_latest_5 : decode cX7_latest 5 = .ok (.iload 4, 2) := by decide +kernel
theorem dX7_latest_7 : decode cX7_latest 7 = .ok (.iload_n 1, 1) := by decide +kernel
theorem dX7_latest_8 : decode cX7_latest 8 = .ok (.iload_n 2, 1) := by decide +kernel
theorem dX7_latest_9 : decode cX7_latest 9 = .ok (.isub, 1) := by decide +kernel
theorem dX7_latest_10 : decode cX7_latest 10 = .ok (.if_icmp .le 24, 3) := by decide +kernel
theorem dX7_latest_13 : decode cX7_latest 13 = .ok (.iload 4, 2) := by decide +kernel
theorem dX7_latest_15 : decode cX7_latest 15 = .ok (.ifCond .lt 19, 3) := by decide +kernel
theorem dX7_latest_18 : decode cX7_latest 18 = .ok (.iload_n 3, 1) := by decide +kernel
theorem dX7_latest_19 : decode cX7_latest 19 = .ok (.aload_n 0, 1) := by decide +kernel
theorem dX7_latest_20 : decode cX7_latest 20 = .ok (.getfield 19, 3) := by decide +kernel
theorem dX7_latest_23 : decode cX7_latest 23 = .ok (.iload 4, 2) := by decide +kernel
theorem dX7_latest_25 : decode cX7_latest 25 = .ok (.iaload, 1) := by decide +kernel
theorem dX7_latest_26 : decode cX7_latest 26 = .ok (.iadd, 1) := by decide +kernel
theorem dX7_latest_27 : decode cX7_latest 27 = .ok (.istore_n 3, 1) := by decide +kernel
theorem dX7_latest_28 : decode cX7_latest 28 = .ok (.iinc 4 (-1), 3) := by decide +kernel
theorem dX7_latest_31 : decode cX7_latest 31 = .ok (.goto (-26), 3) := by decide +kernel
theorem dX7_latest_34 : decode cX7_latest 34 = .ok (.iload_n 3, 1) := by decide +kernel
theorem dX7_latest_35 : decode cX7_latest 35 = .ok (.ireturn, 1) := by decide +kernel
set_option maxRecDepth 20000 in
theorem ggX7_hindsight_X7_in : GoodIn wsX7_hindsight wsX7_in := goodIn_r _ [10] rfl (by decide +kernel)
set_option maxRecDepth 20000 in
theorem gX7_hindsight_X7_in : GoodIn wsX7_hindsight (va_wsS RX7 83 yX7_in wsX7_in) := goodIn_app (goodIn_of _ (by decide +kernel)) ggX7_hindsight_X7_in
set_option maxRecDepth 20000 in
theorem ggX7_hindsight_X7_latest : GoodIn wsX7_hindsight wsX7_latest := goodIn_r _ [14, 6, 21, 22, 23, 24, 25, 26, 27, 28, 29, 30, 31, 32, 33, 34, 35, 36, 37, 38, 39, 40, 41, 42] rfl (by decide +kernel)
set_option maxRecDepth 20000 in
theorem gX7_hindsight_X7_latest : GoodIn wsX7_hindsight (wsV RX7 161 RX7 yX7_latest wsX7_latest) := goodIn_app (goodIn_of _ (by decide +kernel)) ggX7_hindsight_X7_latest
set_option maxRecDepth 20000 in
theorem ggX7_hindsight_X7_most : GoodIn wsX7_hindsight wsX7_most := goodIn_r _ [17] rfl (by decide +kernel)
set_option maxRecDepth 20000 in
theorem gX7_hindsight_X7_most : GoodIn wsX7_hindsight (va_wsS RX7 107 yX7_most wsX7_most) := goodIn_app (goodIn_of _ (by decide +kernel)) ggX7_hindsight_X7_most
set_option maxRecDepth 20000 in
theorem ggX7_hindsight_X7_least : GoodIn wsX7_hindsight wsX7_least := goodIn_r _ [20] rfl (by decide +kernel)
set_option maxRecDepth 20000 in
theorem gX7_hindsight_X7_least : GoodIn wsX7_hindsight (va_wsS RX7 111 yX7_least wsX7_least) := goodIn_app (goodIn_of _ (by decide +kernel)) ggX7_hindsight_X7_least
theorem dX7_hindsight_0 : decode cX7_hindsight 0 = .ok (.iload_n 1, 1) := by decide +kernel
theorem dX7_hindsight_1 : decode cX7_hindsight 1 = .ok (.i2l, 1) := by decide +kernel
theorem dX7_hindsight_2 : decode cX7_hindsight 2 = .ok (.lconst 1, 1) := by decide +kernel
theorem dX7_hindsight_3 : decode cX7_hindsight 3 = .ok (.ldc2_w 158, 3) := by decide +kernel
theorem dX7_hindsight_6 : decode cX7_hindsight 6 = .ok (.invokestatic 83, 3) := by decide +kernel
theorem dX7_hindsight_9 : decode cX7_hindsight 9 = .ok (.ifCond .ne 7, 3) := by decide +kernel
theorem dX7_hindsight_12 : decode cX7_hindsight 12 = .ok (.sipush (-1002), 3) := by decide +kernel
theorem dX7_hindsight_15 : decode cX7_hindsight 15 = .ok (.ireturn, 1) := by decide +kernel
theorem dX7_hindsight_16 : decode cX7_hindsight 16 = .ok (.iconst 0, 1) := by decide +kernel
theorem dX7_hindsight_17 : decode cX7_hindsight 17 = .ok (.istore_n 2, 1) := by decide +kernel
theorem dX7_hindsight_18 : decode cX7_hindsight 18 = .ok (.iload_n 2, 1) := by decide +kernel
theorem dX7_hindsight_19 : decode cX7_hindsight 19 = .ok (.sipush 8645, 3) := by decide +kernel
theorem dX7_hindsight_22 : decode cX7_hindsight 22 = .ok (.if_icmp .ge 25, 3) := by decide +kernel
theorem dX7_hindsight_25 : decode cX7_hindsight 25 = .ok (.aload_n 0, 1) := by decide +kernel
theorem dX7_hindsight_26 : decode cX7_hindsight 26 = .ok (.getfield 65, 3) := by decide +kernel
theorem dX7_hindsight_29 : decode cX7_hindsight 29 = .ok (.iload_n 2, 1) := by decide +kernel
theorem dX7_hindsight_30 : decode cX7_hindsight 30 = .ok (.iload_n 2, 1) := by decide +kernel
theorem dX7_hindsight_31 : decode cX7_hindsight 31 = .ok (.ifCond .ne 7, 3) := by decide +kernel
theorem dX7_hindsight_34 : decode cX7_hindsight 34 = .ok (.iconst 0, 1) := by decide +kernel
theorem dX7_hindsight_35 : decode cX7_hindsight 35 = .ok (.goto 5, 3) := by decide +kernel
theorem dX7_hindsight_38 : decode cX7_hindsight 38 = .ok (.ldc 160, 2) := by decide +kernel
theorem dX7_hindsight_40 : decode cX7_hindsight 40 = .ok (.iastore, 1) := by decide +kernel
theorem dX7_hindsight_41 : decode cX7_hindsight 41 = .ok (.iinc 2 1, 3) := by decide +kernel
theorem dX7_hindsight_44 : decode cX7_hindsight 44 = .ok (.goto (-26), 3) := by decide +kernel
theorem dX7_hindsight_47 : decode cX7_hindsight 47 = .ok (.iconst 0, 1) := by decide +kernel
theorem dX7_hindsight_48 : decode cX7_hindsight 48 = .ok (.istore_n 2, 1) := by decide +kernel
theorem dX7_hindsight_49 : decode cX7_hindsight 49 = .ok (.iload_n 2, 1) := by decide +kernel
theorem dX7_hindsight_50 : decode cX7_hindsight 50 = .ok (.iload_n 1, 1) := by decide +kernel
theorem dX7_hindsight_51 : decode cX7_hindsight 51 = .ok (.if_icmp .ge 236, 3) := by decide +kernel
theorem dX7_hindsight_54 : decode cX7_hindsight 54 = .ok (.aload_n 0, 1) := by decide +kernel
theorem dX7_hindsight_55 : decode cX7_hindsight 55 = .ok (.iload_n 2, 1) := by decide +kernel
theorem dX7_hindsight_56 : decode cX7_hindsight 56 = .ok (.aload_n 0, 1) := by decide +kernel
theorem dX7_hindsight_57 : decode cX7_hindsight 57 = .ok (.getfield 7, 3) := by decide +kernel
theorem dX7_hindsight_60 : decode cX7_hindsight 60 = .ok (.iconst 3, 1) := by decide +kernel
theorem dX7_hindsight_61 : decode cX7_hindsight 61 = .ok (.iaload, 1) := by decide +kernel
theorem dX7_hindsight_62 : decode cX7_hindsight 62 = .ok (.iconst 1, 1) := by decide +kernel
theorem dX7_hindsight_63 : decode cX7_hindsight 63 = .ok (.isub, 1) := by decide +kernel
theorem dX7_hindsight_64 : decode cX7_hindsight 64 = .ok (.invokevirtual 161, 3) := by decide +kernel
theorem dX7_hindsight_67 : decode cX7_hindsight 67 = .ok (.istore_n 3, 1) := by decide +kernel
theorem dX7_hindsight_68 : decode cX7_hindsight 68 = .ok (.iconst 0, 1) := by decide +kernel
theorem dX7_hindsight_69 : decode cX7_hindsight 69 = .ok (.istore 4, 2) := by decide +kernel
theorem dX7_hindsight_71 : decode cX7_hindsight 71 = .ok (.iload 4, 2) := by decide +kernel
theorem dX7_hindsight_73 : decode cX7_hindsight 73 = .ok (.sipush 8645, 3) := by decide +kernel
theorem dX7_hindsight_76 : decode cX7_hindsight 76 = .ok (.if_icmp .ge 18, 3) := by decide +kernel
theorem dX7_hindsight_79 : decode cX7_hindsight 79 = .ok (.aload_n 0, 1) := by decide +kernel
theorem dX7_hindsight_80 : decode cX7_hindsight 80 = .ok (.getfield 68, 3) := by decide +kernel
theorem dX7_hindsight_83 : decode cX7_hindsight 83 = .ok (.iload 4, 2) := by decide +kernel
theorem dX7_hindsight_85 : decode cX7_hindsight 85 = .ok (.ldc 160, 2) := by decide +kernel
theorem dX7_hindsight_87 : decode cX7_hindsight 87 = .ok (.iastore, 1) := by decide +kernel
theorem dX7_hindsight_88 : decode cX7_hindsight 88 = .ok (.iinc 4 1, 3) := by decide +kernel
theorem dX7_hindsight_91 : decode cX7_hindsight 91 = .ok (.goto (-20), 3) := by decide +kernel
theorem dX7_hindsight_94 : decode cX7_hindsight 94 = .ok (.iconst 0, 1) := by decide +kernel
theorem dX7_hindsight_95 : decode cX7_hindsight 95 = .ok (.istore 4, 2) := by decide +kernel
theorem dX7_hindsight_97 : decode cX7_hindsight 97 = .ok (.iload 4, 2) := by decide +kernel
theorem dX7_hindsight_99 : decode cX7_hindsight 99 = .ok (.sipush 8645, 3) := by decide +kernel
theorem dX7_hindsight_102 : decode cX7_hindsight 102 = .ok (.if_icmp .ge 148, 3) := by decide +kernel
theorem dX7_hindsight_105 : decode cX7_hindsight 105 = .ok (.aload_n 0, 1) := by decide +kernel
theorem dX7_hindsight_106 : decode cX7_hindsight 106 = .ok (.getfield 7, 3) := by decide +kernel
theorem dX7_hindsight_109 : decode cX7_hindsight 109 = .ok (.bipush 7, 2) := by decide +kernel
theorem dX7_hindsight_111 : decode cX7_hindsight 111 = .ok (.iaload, 1) := by decide +kernel
theorem dX7_hindsight_112 : decode cX7_hindsight 112 = .ok (.istore 5, 2) := by decide +kernel
theorem dX7_hindsight_114 : decode cX7_hindsight 114 = .ok (.iload 5, 2) := by decide +kernel
theorem dX7_hindsight_116 : decode cX7_hindsight 116 = .ok (.aload_n 0, 1) := by decide +kernel
theorem dX7_hindsight_117 : decode cX7_hindsight 117 = .ok (.getfield 7, 3) := by decide +kernel
theorem dX7_hindsight_120 : decode cX7_hindsight 120 = .ok (.bipush 8, 2) := by decide +kernel
theorem dX7_hindsight_122 : decode cX7_hindsight 122 = .ok (.iaload, 1) := by decide +kernel
theorem dX7_hindsight_123 : decode cX7_hindsight 123 = .ok (.if_icmp .gt 121, 3) := by decide +kernel
theorem dX7_hindsight_126 : decode cX7_hindsight 126 = .ok (.aload_n 0, 1) := by decide +kernel
theorem dX7_hindsight_127 : decode cX7_hindsight 127 = .ok (.getfield 65, 3) := by decide +kernel
theorem dX7_hindsight_130 : decode cX7_hindsight 130 = .ok (.iload 4, 2) := by decide +kernel
theorem dX7_hindsight_132 : decode cX7_hindsight 132 = .ok (.iaload, 1) := by decide +kernel
theorem dX7_hindsight_133 : decode cX7_hindsight 133 = .ok (.ldc 160, 2) := by decide +kernel
theorem dX7_hindsight_135 : decode cX7_hindsight 135 = .ok (.if_icmp .ge 109, 3) := by decide +kernel
theorem dX7_hindsight_138 : decode cX7_hindsight 138 = .ok (.iconst 0, 1) := by decide +kernel
theorem dX7_hindsight_139 : decode cX7_hindsight 139 = .ok (.iload 4, 2) := by decide +kernel
theorem dX7_hindsight_141 : decode cX7_hindsight 141 = .ok (.bipush 13, 2) := by decide +kernel
theorem dX7_hindsight_143 : decode cX7_hindsight 143 = .ok (.idiv, 1) := by decide +kernel
theorem dX7_hindsight_144 : decode cX7_hindsight 144 = .ok (.aload_n 0, 1) := by decide +kernel
theorem dX7_hindsight_145 : decode cX7_hindsight 145 = .ok (.getfield 19, 3) := by decide +kernel
theorem dX7_hindsight_148 : decode cX7_hindsight 148 = .ok (.iload_n 2, 1) := by decide +kernel
theorem dX7_hindsight_149 : decode cX7_hindsight 149 = .ok (.iaload, 1) := by decide +kernel
theorem dX7_hindsight_150 : decode cX7_hindsight 150 = .ok (.iadd, 1) := by decide +kernel
theorem dX7_hindsight_151 : decode cX7_hindsight 151 = .ok (.iload 5, 2) := by decide +kernel
theorem dX7_hindsight_153 : decode cX7_hindsight 153 = .ok (.aload_n 0, 1) := by decide +kernel
theorem dX7_hindsight_154 : decode cX7_hindsight 154 = .ok (.getfield 7, 3) := by decide +kernel
theorem dX7_hindsight_157 : decode cX7_hindsight 157 = .ok (.iconst 2, 1) := by decide +kernel
theorem dX7_hindsight_158 : decode cX7_hindsight 158 = .ok (.iaload, 1) := by decide +kernel
theorem dX7_hindsight_159 : decode cX7_hindsight 159 = .ok (.imul, 1) := by decide +kernel
theorem dX7_hindsight_160 : decode cX7_hindsight 160 = .ok (.isub, 1) := by decide +kernel
theorem dX7_hindsight_161 : decode cX7_hindsight 161 = .ok (.invokestatic 107, 3) := by decide +kernel
theorem dX7_hindsight_164 : decode cX7_hindsight 164 = .ok (.istore 6, 2) := by decide +kernel
theorem dX7_hindsight_166 : decode cX7_hindsight 166 = .ok (.aload_n 0, 1) := by decide +kernel
theorem dX7_hindsight_167 : decode cX7_hindsight 167 = .ok (.getfield 65, 3) := by decide +kernel
theorem dX7_hindsight_170 : decode cX7_hindsight 170 = .ok (.iload 4, 2) := by decide +kernel
theorem dX7_hindsight_172 : decode cX7_hindsight 172 = .ok (.iaload, 1) := by decide +kernel
theorem dX7_hindsight_173 : decode cX7_hindsight 173 = .ok (.aload_n 0, 1) := by decide +kernel
theorem dX7_hindsight_174 : decode cX7_hindsight 174 = .ok (.getfield 7, 3) := by decide +kernel
theorem dX7_hindsight_177 : decode cX7_hindsight 177 = .ok (.bipush 16, 2) := by decide +kernel
theorem dX7_hindsight_179 : decode cX7_hindsight 179 = .ok (.iaload, 1) := by decide +kernel
theorem dX7_hindsight_180 : decode cX7_hindsight 180 = .ok (.iload 5, 2) := by decide +kernel
theorem dX7_hindsight_182 : decode cX7_hindsight 182 = .ok (.iconst 0, 1) := by decide +kernel
theorem dX7_hindsight_183 : decode cX7_hindsight 183 = .ok (.iload 5, 2) := by decide +kernel
theorem dX7_hindsight_185 : decode cX7_hindsight 185 = .ok (.iload 4, 2) := by decide +kernel
theorem dX7_hindsight_187 : decode cX7_hindsight 187 = .ok (.bipush 13, 2) := by decide +kernel
theorem dX7_hindsight_189 : decode cX7_hindsight 189 = .ok (.irem, 1) := by decide +kernel
theorem dX7_hindsight_190 : decode cX7_hindsight 190 = .ok (.isub, 1) := by decide +kernel
theorem dX7_hindsight_191 : decode cX7_hindsight 191 = .ok (.invokestatic 107, 3) := by decide +kernel
theorem dX7_hindsight_194 : decode cX7_hindsight 194 = .ok (.iadd, 1) := by decide +kernel
theorem dX7_hindsight_195 : decode cX7_hindsight 195 = .ok (.imul, 1) := by decide +kernel
theorem dX7_hindsight_196 : decode cX7_hindsight 196 = .ok (.iadd, 1) := by decide +kernel
theorem dX7_hindsight_197 : decode cX7_hindsight 197 = .ok (.istore 7, 2) := by decide +kernel
theorem dX7_hindsight_199 : decode cX7_hindsight 199 = .ok (.iload 6, 2) := by decide +kernel
theorem dX7_hindsight_201 : decode cX7_hindsight 201 = .ok (.iload_n 3, 1) := by decide +kernel
theorem dX7_hindsight_202 : decode cX7_hindsight 202 = .ok (.if_icmp .gt 36, 3) := by decide +kernel
theorem dX7_hindsight_205 : decode cX7_hindsight 205 = .ok (.iload 7, 2) := by decide +kernel
theorem dX7_hindsight_207 : decode cX7_hindsight 207 = .ok (.aload_n 0, 1) := by decide +kernel
theorem dX7_hindsight_208 : decode cX7_hindsight 208 = .ok (.getfield 68, 3) := by decide +kernel
theorem dX7_hindsight_211 : decode cX7_hindsight 211 = .ok (.bipush 13, 2) := by decide +kernel
theorem dX7_hindsight_213 : decode cX7_hindsight 213 = .ok (.iload 6, 2) := by decide +kernel
theorem dX7_hindsight_215 : decode cX7_hindsight 215 = .ok (.imul, 1) := by decide +kernel
theorem dX7_hindsight_216 : decode cX7_hindsight 216 = .ok (.iload 5, 2) := by decide +kernel
theorem dX7_hindsight_218 : decode cX7_hindsight 218 = .ok (.iadd, 1) := by decide +kernel
theorem dX7_hindsight_219 : decode cX7_hindsight 219 = .ok (.iaload, 1) := by decide +kernel
theorem dX7_hindsight_220 : decode cX7_hindsight 220 = .ok (.if_icmp .ge 18, 3) := by decide +kernel
theorem dX7_hindsight_223 : decode cX7_hindsight 223 = .ok (.aload_n 0, 1) := by decide +kernel
theorem dX7_hindsight_224 : decode cX7_hindsight 224 = .ok (.getfield 68, 3) := by decide +kernel
theorem dX7_hindsight_227 : decode cX7_hindsight 227 = .ok (.bipush 13, 2) := by decide +kernel
theorem dX7_hindsight_229 : decode cX7_hindsight 229 = .ok (.iload 6, 2) := by decide +kernel
theorem dX7_hindsight_231 : decode cX7_hindsight 231 = .ok (.imul, 1) := by decide +kernel
theorem dX7_hindsight_232 : decode cX7_hindsight 232 = .ok (.iload 5, 2) := by decide +kernel
theorem dX7_hindsight_234 : decode cX7_hindsight 234 = .ok (.iadd, 1) := by decide +kernel
theorem dX7_hindsight_235 : decode cX7_hindsight 235 = .ok (.iload 7, 2) := by decide +kernel
theorem dX7_hindsight_237 : decode cX7_hindsight 237 = .ok (.iastore, 1) := by decide +kernel
theorem dX7_hindsight_238 : decode cX7_hindsight 238 = .ok (.iinc 5 1, 3) := by decide +kernel
theorem dX7_hindsight_241 : decode cX7_hindsight 241 = .ok (.goto (-127), 3) := by decide +kernel
theorem dX7_hindsight_244 : decode cX7_hindsight 244 = .ok (.iinc 4 1, 3) := by decide +kernel
theorem dX7_hindsight_247 : decode cX7_hindsight 247 = .ok (.goto (-150), 3) := by decide +kernel
theorem dX7_hindsight_250 : decode cX7_hindsight 250 = .ok (.iconst 0, 1) := by decide +kernel
theorem dX7_hindsight_251 : decode cX7_hindsight 251 = .ok (.istore 4, 2) := by decide +kernel
theorem dX7_hindsight_253 : decode cX7_hindsight 253 = .ok (.iload 4, 2) := by decide +kernel
theorem dX7_hindsight_255 : decode cX7_hindsight 255 = .ok (.sipush 8645, 3) := by decide +kernel
theorem dX7_hindsight_258 : decode cX7_hindsight 258 = .ok (.if_icmp .ge 23, 3) := by decide +kernel
theorem dX7_hindsight_261 : decode cX7_hindsight 261 = .ok (.aload_n 0, 1) := by decide +kernel
theorem dX7_hindsight_262 : decode cX7_hindsight 262 = .ok (.getfield 65, 3) := by decide +kernel
theorem dX7_hindsight_265 : decode cX7_hindsight 265 = .ok (.iload 4, 2) := by decide +kernel
theorem dX7_hindsight_267 : decode cX7_hindsight 267 = .ok (.aload_n 0, 1) := by decide +kernel
theorem dX7_hindsight_268 : decode cX7_hindsight 268 = .ok (.getfield 68, 3) := by decide +kernel
theorem dX7_hindsight_271 : decode cX7_hindsight 271 = .ok (.iload 4, 2) := by decide +kernel
theorem dX7_hindsight_273 : decode cX7_hindsight 273 = .ok (.iaload, 1) := by decide +kernel
theorem dX7_hindsight_274 : decode cX7_hindsight 274 = .ok (.iastore, 1) := by decide +kernel
theorem dX7_hindsight_275 : decode cX7_hindsight 275 = .ok (.iinc 4 1, 3) := by decide +kernel
theorem dX7_hindsight_278 : decode cX7_hindsight 278 = .ok (.goto (-25), 3) := by decide +kernel
theorem dX7_hindsight_281 : decode cX7_hindsight 281 = .ok (.iinc 2 1, 3) := by decide +kernel
theorem dX7_hindsight_284 : decode cX7_hindsight 284 = .ok (.goto (-235), 3) := by decide +kernel
theorem dX7_hindsight_287 : decode cX7_hindsight 287 = .ok (.ldc 160, 2) := by decide +kernel
theorem dX7_hindsight_289 : decode cX7_hindsight 289 = .ok (.istore_n 2, 1) := by decide +kernel
theorem dX7_hindsight_290 : decode cX7_hindsight 290 = .ok (.iconst 0, 1) := by decide +kernel
theorem dX7_hindsight_291 : decode cX7_hindsight 291 = .ok (.istore_n 3, 1) := by decide +kernel
theorem dX7_hindsight_292 : decode cX7_hindsight 292 = .ok (.iload_n 3, 1) := by decide +kernel
theorem dX7_hindsight_293 : decode cX7_hindsight 293 = .ok (.sipush 8645, 3) := by decide +kernel
theorem dX7_hindsight_296 : decode cX7_hindsight 296 = .ok (.if_icmp .ge 20, 3) := by decide +kernel
theorem dX7_hindsight_299 : decode cX7_hindsight 299 = .ok (.iload_n 2, 1) := by decide +kernel
theorem dX7_hindsight_300 : decode cX7_hindsight 300 = .ok (.aload_n 0, 1) := by decide +kernel
theorem dX7_hindsight_301 : decode cX7_hindsight 301 = .ok (.getfield 65, 3) := by decide +kernel
theorem dX7_hindsight_304 : decode cX7_hindsight 304 = .ok (.iload_n 3, 1) := by decide +kernel
theorem dX7_hindsight_305 : decode cX7_hindsight 305 = .ok (.iaload, 1) := by decide +kernel
theorem dX7_hindsight_306 : decode cX7_hindsight 306 = .ok (.invokestatic 111, 3) := by decide +kernel
theorem dX7_hindsight_309 : decode cX7_hindsight 309 = .ok (.istore_n 2, 1) := by decide +kernel
theorem dX7_hindsight_310 : decode cX7_hindsight 310 = .ok (.iinc 3 1, 3) := by decide +kernel
theorem dX7_hindsight_313 : decode cX7_hindsight 313 = .ok (.goto (-21), 3) := by decide +kernel
theorem dX7_hindsight_316 : decode cX7_hindsight 316 = .ok (.iload_n 2, 1) := by decide +kernel
theorem dX7_hindsight_317 : decode cX7_hindsight 317 = .ok (.ldc 160, 2) := by decide +kernel
theorem dX7_hindsight_319 : decode cX7_hindsight 319 = .ok (.if_icmp .ne 7, 3) := by decide +kernel
theorem dX7_hindsight_322 : decode cX7_hindsight 322 = .ok (.iconst (-1), 1) := by decide +kernel
theorem dX7_hindsight_323 : decode cX7_hindsight 323 = .ok (.goto 4, 3) := by decide +kernel
theorem dX7_hindsight_326 : decode cX7_hindsight 326 = .ok (.iload_n 2, 1) := by decide +kernel
theorem dX7_hindsight_327 : decode cX7_hindsight 327 = .ok (.ireturn, 1) := by decide +kernel
theorem dX7_swap_0 : decode cX7_swap 0 = .ok (.iconst 0, 1) := by decide +kernel
theorem dX7_swap_1 : decode cX7_swap 1 = .ok (.istore_n 3, 1) := by decide +kernel
theorem dX7_swap_2 : decode cX7_swap 2 = .ok (.iload_n 3, 1) := by decide +kernel
theorem dX7_swap_3 : decode cX7_swap 3 = .ok (.aload_n 1, 1) := by decide +kernel
theorem dX7_swap_4 : decode cX7_swap 4 = .ok (.arraylength, 1) := by decide +kernel
theorem dX7_swap_5 : decode cX7_swap 5 = .ok (.if_icmp .ge 50, 3) := by decide +kernel
theorem dX7_swap_8 : decode cX7_swap 8 = .ok (.iload_n 2, 1) := by decide +kernel
theorem dX7_swap_9 : decode cX7_swap 9 = .ok (.ifCond .eq 18, 3) := by decide +kernel
theorem dX7_swap_12 : decode cX7_swap 12 = .ok (.aload_n 1, 1) := by decide +kernel
theorem dX7_swap_13 : decode cX7_swap 13 = .ok (.iload_n 3, 1) := by decide +kernel
theorem dX7_swap_14 : decode cX7_swap 14 = .ok (.aload_n 0, 1) := by decide +kernel
theorem dX7_swap_15 : decode cX7_swap 15 = .ok (.getfield 62, 3) := by decide +kernel
theorem dX7_swap_18 : decode cX7_swap 18 = .ok (.aload_n 0, 1) := by decide +kernel
theorem dX7_swap_19 : decode cX7_swap 19 = .ok (.getfield 164, 3) := by decide +kernel
theorem dX7_swap_22 : decode cX7_swap 22 = .ok (.iaload, 1) := by decide +kernel
theorem dX7_swap_23 : decode cX7_swap 23 = .ok (.iastore, 1) := by decide +kernel
theorem dX7_swap_24 : decode cX7_swap 24 = .ok (.goto 15, 3) := by decide +kernel
theorem dX7_swap_27 : decode cX7_swap 27 = .ok (.aload_n 0, 1) := by decide +kernel
theorem dX7_swap_28 : decode cX7_swap 28 = .ok (.getfield 62, 3) := by decide +kernel
theorem dX7_swap_31 : decode cX7_swap 31 = .ok (.aload_n 0, 1) := by decide +kernel
theorem dX7_swap_32 : decode cX7_swap 32 = .ok (.getfield 164, 3) := by decide +kernel
theorem dX7_swap_35 : decode cX7_swap 35 = .ok (.aload_n 1, 1) := by decide +kernel
theorem dX7_swap_36 : decode cX7_swap 36 = .ok (.iload_n 3, 1) := by decide +kernel
theorem dX7_swap_37 : decode cX7_swap 37 = .ok (.iaload, 1) := by decide +kernel
theorem dX7_swap_38 : decode cX7_swap 38 = .ok (.iastore, 1) := by decide +kernel
theorem dX7_swap_39 : decode cX7_swap 39 = .ok (.aload_n 0, 1) := by decide +kernel
theorem dX7_swap_40 : decode cX7_swap 40 = .ok (.dup, 1) := by decide +kernel
theorem dX7_swap_41 : decode cX7_swap 41 = .ok (.getfield 164, 3) := by decide +kernel
theorem dX7_swap_44 : decode cX7_swap 44 = .ok (.iconst 1, 1) := by decide +kernel
theorem dX7_swap_45 : decode cX7_swap 45 = .ok (.iadd, 1) := by decide +kernel
theorem dX7_swap_46 : decode cX7_swap 46 = .ok (.putfield 164, 3) := by decide +kernel
theorem dX7_swap_49 : decode cX7_swap 49 = .ok (.iinc 3 1, 3) := by decide +kernel
theorem dX7_swap_52 : decode cX7_swap 52 = .ok (.goto (-50), 3) := by decide +kernel
theorem dX7_swap_55 : decode cX7_swap 55 = .ok (.return_, 1) := by decide +kernel
set_option maxRecDepth 20000 in
theorem ggX7_keepAll_X7_swap : GoodIn wsX7_keepAll wsX7_swap := goodIn_r _ [19, 20, 1, 21, 22, 23, 24, 25, 26, 27, 28, 29, 30, 31, 32, 33, 34, 35, 36, 37, 38, 39, 40, 41, 42] rfl (by decide +kernel)
set_option maxRecDepth 20000 in
theorem gX7_keepAll_X7_swap : GoodIn wsX7_keepAll (wsV RX7 168 RX7 yX7_swap wsX7_swap) := goodIn_app (goodIn_of _ (by decide +kernel)) ggX7_keepAll_X7_swap
theorem dX7_keepAll_0 : decode cX7_keepAll 0 = .ok (.aload_n 0, 1) := by decide +kernel
theorem dX7_keepAll_1 : decode cX7_keepAll 1 = .ok (.iconst 0, 1) := by decide +kernel
theorem dX7_keepAll_2 : decode cX7_keepAll 2 = .ok (.putfield 164, 3) := by decide +kernel
theorem dX7_keepAll_5 : decode cX7_keepAll 5 = .ok (.aload_n 0, 1) := by decide +kernel
theorem dX7_keepAll_6 : decode cX7_keepAll 6 = .ok (.aload_n 0, 1) := by decide +kernel
theorem dX7_keepAll_7 : decode cX7_keepAll 7 = .ok (.getfield 29, 3) := by decide +kernel
theorem dX7_keepAll_10 : decode cX7_keepAll 10 = .ok (.iload_n 1, 1) := by decide +kernel
theorem dX7_keepAll_11 : decode cX7_keepAll 11 = .ok (.invokevirtual 168, 3) := by decide +kernel
theorem dX7_keepAll_14 : decode cX7_keepAll 14 = .ok (.aload_n 0, 1) := by decide +kernel
theorem dX7_keepAll_15 : decode cX7_keepAll 15 = .ok (.aload_n 0, 1) := by decide +kernel
theorem dX7_keepAll_16 : decode cX7_keepAll 16 = .ok (.getfield 32, 3) := by decide +kernel
theorem dX7_keepAll_19 : decode cX7_keepAll 19 = .ok (.iload_n 1, 1) := by decide +kernel
theorem dX7_keepAll_20 : decode cX7_keepAll 20 = .ok (.invokevirtual 168, 3) := by decide +kernel
theorem dX7_keepAll_23 : decode cX7_keepAll 23 = .ok (.aload_n 0, 1) := by decide +kernel
theorem dX7_keepAll_24 : decode cX7_keepAll 24 = .ok (.aload_n 0, 1) := by decide +kernel
theorem dX7_keepAll_25 : decode cX7_keepAll 25 = .ok (.getfield 35, 3) := by decide +kernel
theorem dX7_keepAll_28 : decode cX7_keepAll 28 = .ok (.iload_n 1, 1) := by decide +kernel
theorem dX7_keepAll_29 : decode cX7_keepAll 29 = .ok (.invokevirtual 168, 3) := by decide +kernel
theorem dX7_keepAll_32 : decode cX7_keepAll 32 = .ok (.aload_n 0, 1) := by decide +kernel
theorem dX7_keepAll_33 : decode cX7_keepAll 33 = .ok (.aload_n 0, 1) := by decide +kernel
theorem dX7_keepAll_34 : decode cX7_keepAll 34 = .ok (.getfield 38, 3) := by decide +kernel
theorem dX7_keepAll_37 : decode cX7_keepAll 37 = .ok (.iload_n 1, 1) := by decide +kernel
theorem dX7_keepAll_38 : decode cX7_keepAll 38 = .ok (.invokevirtual 168, 3) := by decide +kernel
theorem dX7_keepAll_41 : decode cX7_keepAll 41 = .ok (.aload_n 0, 1) := by decide +kernel
theorem dX7_keepAll_42 : decode cX7_keepAll 42 = .ok (.aload_n 0, 1) := by decide +kernel
theorem dX7_keepAll_43 : decode cX7_keepAll 43 = .ok (.getfield 41, 3) := by decide +kernel
theorem dX7_keepAll_46 : decode cX7_keepAll 46 = .ok (.iload_n 1, 1) := by decide +kernel
theorem dX7_keepAll_47 : decode cX7_keepAll 47 = .ok (.invokevirtual 168, 3) := by decide +kernel
theorem dX7_keepAll_50 : decode cX7_keepAll 50 = .ok (.aload_n 0, 1) := by decide +kernel
theorem dX7_keepAll_51 : decode cX7_keepAll 51 = .ok (.aload_n 0, 1) := by decide +kernel
theorem dX7_keepAll_52 : decode cX7_keepAll 52 = .ok (.getfield 44, 3) := by decide +kernel
theorem dX7_keepAll_55 : decode cX7_keepAll 55 = .ok (.iload_n 1, 1) := by decide +kernel
theorem dX7_keepAll_56 : decode cX7_keepAll 56 = .ok (.invokevirtual 168, 3) := by decide +kernel
theorem dX7_keepAll_59 : decode cX7_keepAll 59 = .ok (.aload_n 0, 1) := by decide +kernel
theorem dX7_keepAll_60 : decode cX7_keepAll 60 = .ok (.aload_n 0, 1) := by decide +kernel
theorem dX7_keepAll_61 : decode cX7_keepAll 61 = .ok (.getfield 47, 3) := by decide +kernel
theorem dX7_keepAll_64 : decode cX7_keepAll 64 = .ok (.iload_n 1, 1) := by decide +kernel
theorem dX7_keepAll_65 : decode cX7_keepAll 65 = .ok (.invokevirtual 168, 3) := by decide +kernel
theorem dX7_keepAll_68 : decode cX7_keepAll 68 = .ok (.aload_n 0, 1) := by decide +kernel
theorem dX7_keepAll_69 : decode cX7_keepAll 69 = .ok (.aload_n 0, 1) := by decide +kernel
theorem dX7_keepAll_70 : decode cX7_keepAll 70 = .ok (.getfield 50, 3) := by decide +kernel
theorem dX7_keepAll_73 : decode cX7_keepAll 73 = .ok (.iload_n 1, 1) := by decide +kernel
theorem dX7_keepAll_74 : decode cX7_keepAll 74 = .ok (.invokevirtual 168, 3) := by decide +kernel
theorem dX7_keepAll_77 : decode cX7_keepAll 77 = .ok (.aload_n 0, 1) := by decide +kernel
theorem dX7_keepAll_78 : decode cX7_keepAll 78 = .ok (.aload_n 0, 1) := by decide +kernel
theorem dX7_keepAll_79 : decode cX7_keepAll 79 = .ok (.getfield 53, 3) := by decide +kernel
theorem dX7_keepAll_82 : decode cX7_keepAll 82 = .ok (.iload_n 1, 1) := by decide +kernel
theorem dX7_keepAll_83 : decode cX7_keepAll 83 = .ok (.invokevirtual 168, 3) := by decide +kernel
theorem dX7_keepAll_86 : decode cX7_keepAll 86 = .ok (.aload_n 0, 1) := by decide +kernel
theorem dX7_keepAll_87 : decode cX7_keepAll 87 = .ok (.aload_n 0, 1) := by decide +kernel
theorem dX7_keepAll_88 : decode cX7_keepAll 88 = .ok (.getfield 56, 3) := by decide +kernel
theorem dX7_keepAll_91 : decode cX7_keepAll 91 = .ok (.iload_n 1, 1) := by decide +kernel
theorem dX7_keepAll_92 : decode cX7_keepAll 92 = .ok (.invokevirtual 168, 3) := by decide +kernel
theorem dX7_keepAll_95 : decode cX7_keepAll 95 = .ok (.aload_n 0, 1) := by decide +kernel
theorem dX7_keepAll_96 : decode cX7_keepAll 96 = .ok (.aload_n 0, 1) := by decide +kernel
theorem dX7_keepAll_97 : decode cX7_keepAll 97 = .ok (.getfield 59, 3) := by decide +kernel
theorem dX7_keepAll_100 : decode cX7_keepAll 100 = .ok (.iload_n 1, 1) := by decide +kernel
theorem dX7_keepAll_101 : decode cX7_keepAll 101 = .ok (.invokevirtual 168, 3) := by decide +kernel
theorem dX7_keepAll_104 : decode cX7_keepAll 104 = .ok (.iconst 0, 1) := by decide +kernel
theorem dX7_keepAll_105 : decode cX7_keepAll 105 = .ok (.istore_n 2, 1) := by decide +kernel
theorem dX7_keepAll_106 : decode cX7_keepAll 106 = .ok (.iload_n 2, 1) := by decide +kernel
theorem dX7_keepAll_107 : decode cX7_keepAll 107 = .ok (.sipush 200, 3) := by decide +kernel
theorem dX7_keepAll_110 : decode cX7_keepAll 110 = .ok (.if_icmp .ge 47, 3) := by decide +kernel
theorem dX7_keepAll_113 : decode cX7_keepAll 113 = .ok (.iload_n 1, 1) := by decide +kernel
theorem dX7_keepAll_114 : decode cX7_keepAll 114 = .ok (.ifCond .eq 18, 3) := by decide +kernel
theorem dX7_keepAll_117 : decode cX7_keepAll 117 = .ok (.aload_n 0, 1) := by decide +kernel
theorem dX7_keepAll_118 : decode cX7_keepAll 118 = .ok (.getfield 19, 3) := by decide +kernel
theorem dX7_keepAll_121 : decode cX7_keepAll 121 = .ok (.iload_n 2, 1) := by decide +kernel
theorem dX7_keepAll_122 : decode cX7_keepAll 122 = .ok (.aload_n 0, 1) := by decide +kernel
theorem dX7_keepAll_123 : decode cX7_keepAll 123 = .ok (.getfield 71, 3) := by decide +kernel
theorem dX7_keepAll_126 : decode cX7_keepAll 126 = .ok (.iload_n 2, 1) := by decide +kernel
theorem dX7_keepAll_127 : decode cX7_keepAll 127 = .ok (.iaload, 1) := by decide +kernel
theorem dX7_keepAll_128 : decode cX7_keepAll 128 = .ok (.iastore, 1) := by decide +kernel
theorem dX7_keepAll_129 : decode cX7_keepAll 129 = .ok (.goto 22, 3) := by decide +kernel
theorem dX7_keepAll_132 : decode cX7_keepAll 132 = .ok (.aload_n 0, 1) := by decide +kernel
theorem dX7_keepAll_133 : decode cX7_keepAll 133 = .ok (.getfield 71, 3) := by decide +kernel
theorem dX7_keepAll_136 : decode cX7_keepAll 136 = .ok (.iload_n 2, 1) := by decide +kernel
theorem dX7_keepAll_137 : decode cX7_keepAll 137 = .ok (.aload_n 0, 1) := by decide +kernel
theorem dX7_keepAll_138 : decode cX7_keepAll 138 = .ok (.getfield 19, 3) := by decide +kernel
theorem dX7_keepAll_141 : decode cX7_keepAll 141 = .ok (.iload_n 2, 1) := by decide +kernel
theorem dX7_keepAll_142 : decode cX7_keepAll 142 = .ok (.iaload, 1) := by decide +kernel
theorem dX7_keepAll_143 : decode cX7_keepAll 143 = .ok (.iastore, 1) := by decide +kernel
theorem dX7_keepAll_144 : decode cX7_keepAll 144 = .ok (.aload_n 0, 1) := by decide +kernel
theorem dX7_keepAll_145 : decode cX7_keepAll 145 = .ok (.getfield 19, 3) := by decide +kernel
theorem dX7_keepAll_148 : decode cX7_keepAll 148 = .ok (.iload_n 2, 1) := by decide +kernel
theorem dX7_keepAll_149 : decode cX7_keepAll 149 = .ok (.iconst 0, 1) := by decide +kernel
theorem dX7_keepAll_150 : decode cX7_keepAll 150 = .ok (.iastore, 1) := by decide +kernel
theorem dX7_keepAll_151 : decode cX7_keepAll 151 = .ok (.iinc 2 1, 3) := by decide +kernel
theorem dX7_keepAll_154 : decode cX7_keepAll 154 = .ok (.goto (-48), 3) := by decide +kernel
theorem dX7_keepAll_157 : decode cX7_keepAll 157 = .ok (.return_, 1) := by decide +kernel
set_option maxRecDepth 20000 in
theorem ggX7_lostBy_X7_begin : GoodIn wsX7_lostBy wsX7_begin := goodIn_r _ [7, 2, 8, 9, 10, 74, 75, 76, 77, 78, 79, 80, 81, 82, 83, 84, 85, 86, 87, 88, 89, 90, 91, 92, 93, 94, 95] rfl (by decide +kernel)
set_option maxRecDepth 20000 in
theorem gX7_lostBy_X7_begin : GoodIn wsX7_lostBy (wsV RX7 78 RX7 yX7_begin wsX7_begin) := goodIn_app (goodIn_of _ (by decide +kernel)) ggX7_lostBy_X7_begin
set_option maxRecDepth 20000 in
theorem ggX7_lostBy_X7_oneTick : GoodIn wsX7_lostBy wsX7_oneTick := goodIn_r _ [14, 2, 10, 15, 16, 1, 17, 8, 9, 18, 19, 20, 21, 22, 6, 23, 24, 25, 26, 27, 28, 29, 30, 31, 32, 33, 34, 35, 36, 37, 38, 39, 40, 41, 42, 43, 44, 45, 46, 47, 48, 49, 50, 51, 52, 53, 54, 55, 56, 57, 58, 59, 60, 61, 62, 63, 64, 65, 66, 67, 68, 69, 70, 71, 72, 73, 74, 75, 76, 77, 78, 79, 80, 81, 82, 83, 84, 85, 86, 87, 88, 89, 90, 91, 92, 93, 94, 95] rfl (by decide +kernel)
set_option maxRecDepth 20000 in
theorem gX7_lostBy_X7_oneTick : GoodIn wsX7_lostBy (wsV RX7 147 RX7 yX7_oneTick wsX7_oneTick) := goodIn_app (goodIn_of _ (by decide +kernel)) ggX7_lostBy_X7_oneTick
theorem dX7_lostBy_0 : decode cX7_lostBy 0 = .ok (.aload_n 0, 1) := by decide +kernel
theorem dX7_lostBy_1 : decode cX7_lostBy 1 = .ok (.invokevirtual 78, 3) := by decide +kernel
theorem dX7_lostBy_4 : decode cX7_lostBy 4 = .ok (.iconst 0, 1) := by decide +kernel
theorem dX7_lostBy_5 : decode cX7_lostBy 5 = .ok (.istore 4, 2) := by decide +kernel
theorem dX7_lostBy_7 : decode cX7_lostBy 7 = .ok (.iload 4, 2) := by decide +kernel
theorem dX7_lostBy_9 : decode cX7_lostBy 9 = .ok (.iload_n 1, 1) := by decide +kernel
theorem dX7_lostBy_10 : decode cX7_lostBy 10 = .ok (.if_icmp .ge 24, 3) := by decide +kernel
theorem dX7_lostBy_13 : decode cX7_lostBy 13 = .ok (.aload_n 0, 1) := by decide +kernel
theorem dX7_lostBy_14 : decode cX7_lostBy 14 = .ok (.getfield 19, 3) := by decide +kernel
theorem dX7_lostBy_17 : decode cX7_lostBy 17 = .ok (.iload 4, 2) := by decide +kernel
theorem dX7_lostBy_19 : decode cX7_lostBy 19 = .ok (.iload_n 3, 1) := by decide +kernel
theorem dX7_lostBy_20 : decode cX7_lostBy 20 = .ok (.iload 4, 2) := by decide +kernel
theorem dX7_lostBy_22 : decode cX7_lostBy 22 = .ok (.ishr, 1) := by decide +kernel
theorem dX7_lostBy_23 : decode cX7_lostBy 23 = .ok (.iconst 1, 1) := by decide +kernel
theorem dX7_lostBy_24 : decode cX7_lostBy 24 = .ok (.iand, 1) := by decide +kernel
theorem dX7_lostBy_25 : decode cX7_lostBy 25 = .ok (.iload_n 2, 1) := by decide +kernel
theorem dX7_lostBy_26 : decode cX7_lostBy 26 = .ok (.imul, 1) := by decide +kernel
theorem dX7_lostBy_27 : decode cX7_lostBy 27 = .ok (.iastore, 1) := by decide +kernel
theorem dX7_lostBy_28 : decode cX7_lostBy 28 = .ok (.iinc 4 1, 3) := by decide +kernel
theorem dX7_lostBy_31 : decode cX7_lostBy 31 = .ok (.goto (-24), 3) := by decide +kernel
theorem dX7_lostBy_34 : decode cX7_lostBy 34 = .ok (.iconst 0, 1) := by decide +kernel
theorem dX7_lostBy_35 : decode cX7_lostBy 35 = .ok (.istore 4, 2) := by decide +kernel
theorem dX7_lostBy_37 : decode cX7_lostBy 37 = .ok (.iload 4, 2) := by decide +kernel
theorem dX7_lostBy_39 : decode cX7_lostBy 39 = .ok (.iload_n 1, 1) := by decide +kernel
theorem dX7_lostBy_40 : decode cX7_lostBy 40 = .ok (.bipush 10, 2) := by decide +kernel
theorem dX7_lostBy_42 : decode cX7_lostBy 42 = .ok (.iadd, 1) := by decide +kernel
theorem dX7_lostBy_43 : decode cX7_lostBy 43 = .ok (.if_icmp .ge 14, 3) := by decide +kernel
theorem dX7_lostBy_46 : decode cX7_lostBy 46 = .ok (.aload_n 0, 1) := by decide +kernel
theorem dX7_lostBy_47 : decode cX7_lostBy 47 = .ok (.iconst 0, 1) := by decide +kernel
theorem dX7_lostBy_48 : decode cX7_lostBy 48 = .ok (.invokevirtual 147, 3) := by decide +kernel
theorem dX7_lostBy_51 : decode cX7_lostBy 51 = .ok (.iinc 4 1, 3) := by decide +kernel
theorem dX7_lostBy_54 : decode cX7_lostBy 54 = .ok (.goto (-17), 3) := by decide +kernel
theorem dX7_lostBy_57 : decode cX7_lostBy 57 = .ok (.aload_n 0, 1) := by decide +kernel
theorem dX7_lostBy_58 : decode cX7_lostBy 58 = .ok (.getfield 29, 3) := by decide +kernel
theorem dX7_lostBy_61 : decode cX7_lostBy 61 = .ok (.iconst 2, 1) := by decide +kernel
theorem dX7_lostBy_62 : decode cX7_lostBy 62 = .ok (.iaload, 1) := by decide +kernel
theorem dX7_lostBy_63 : decode cX7_lostBy 63 = .ok (.ireturn, 1) := by decide +kernel
set_option maxRecDepth 20000 in
theorem ggX7_worst_X7_in : GoodIn wsX7_worst wsX7_in := goodIn_r _ [6] rfl (by decide +kernel)
set_option maxRecDepth 20000 in
theorem gX7_worst_X7_in : GoodIn wsX7_worst (va_wsS RX7 83 yX7_in wsX7_in) := goodIn_app (goodIn_of _ (by decide +kernel)) ggX7_worst_X7_in
set_option maxRecDepth 20000 in
theorem ggX7_worst_X7_keepAll : GoodIn wsX7_worst wsX7_keepAll := goodIn_r _ [10, 11, 12, 13, 14, 15, 16, 17, 18, 19, 20, 21, 22, 23, 24, 25, 26, 27, 5, 28, 29, 94, 95, 96, 97, 98, 99, 100, 101, 102, 103, 104, 105, 106, 107, 108, 109, 110, 111, 112, 113, 114, 115] rfl (by decide +kernel)
set_option maxRecDepth 20000 in
theorem gX7_worst_X7_keepAll : GoodIn wsX7_worst (wsV RX7 174 RX7 yX7_keepAll wsX7_keepAll) := goodIn_app (goodIn_of _ (by decide +kernel)) ggX7_worst_X7_keepAll
set_option maxRecDepth 20000 in
theorem ggX7_worst_X7_lostBy : GoodIn wsX7_worst wsX7_lostBy := goodIn_r _ [33, 23, 12, 34, 35, 36, 5, 37, 13, 14, 20, 38, 39, 40, 41, 18, 19, 21, 42, 22, 43, 44, 45, 46, 15, 16, 17, 47, 48, 49, 50, 51, 52, 53, 54, 55, 56, 57, 58, 59, 60, 61, 62, 63, 64, 65, 66, 67, 68, 69, 70, 71, 72, 73, 74, 75, 76, 77, 78, 79, 80, 81, 82, 83, 84, 85, 86, 87, 88, 89, 90, 91, 92, 93, 94, 95, 96, 97, 98, 99, 100, 101, 102, 103, 104, 105, 106, 107, 108, 109, 110, 111, 112, 113, 114, 115] rfl (by decide +kernel)
set_option maxRecDepth 20000 in
theorem gX7_worst_X7_lostBy : GoodIn wsX7_worst (wsV RX7 177 RX7 yX7_lostBy wsX7_lostBy) := goodIn_app (goodIn_of _ (by decide +kernel)) ggX7_worst_X7_lostBy
theorem dX7_worst_0 : decode cX7_worst 0 = .ok (.iload_n 1, 1) := by decide +kernel
theorem dX7_worst_1 : decode cX7_worst 1 = .ok (.i2l, 1) := by decide +kernel
theorem dX7_worst_2 : decode cX7_worst 2 = .ok (.lconst 1, 1) := by decide +kernel
theorem dX7_worst_3 : decode cX7_worst 3 = .ok (.ldc2_w 172, 3) := by decide +kernel
theorem dX7_worst_6 : decode cX7_worst 6 = .ok (.invokestatic 83, 3) := by decide +kernel
theorem dX7_worst_9 : decode cX7_worst 9 = .ok (.ifCond .eq 25, 3) := by decide +kernel
theorem dX7_worst_12 : decode cX7_worst 12 = .ok (.iload_n 2, 1) := by decide +kernel
theorem dX7_worst_13 : decode cX7_worst 13 = .ok (.i2l, 1) := by decide +kernel
theorem dX7_worst_14 : decode cX7_worst 14 = .ok (.lconst 1, 1) := by decide +kernel
theorem dX7_worst_15 : decode cX7_worst 15 = .ok (.ldc2_w 93, 3) := by decide +kernel
theorem dX7_worst_18 : decode cX7_worst 18 = .ok (.invokestatic 83, 3) := by decide +kernel
theorem dX7_worst_21 : decode cX7_worst 21 = .ok (.ifCond .eq 13, 3) := by decide +kernel
theorem dX7_worst_24 : decode cX7_worst 24 = .ok (.iload_n 3, 1) := by decide +kernel
theorem dX7_worst_25 : decode cX7_worst 25 = .ok (.i2l, 1) := by decide +kernel
theorem dX7_worst_26 : decode cX7_worst 26 = .ok (.lconst 0, 1) := by decide +kernel
theorem dX7_worst_27 : decode cX7_worst 27 = .ok (.lconst 1, 1) := by decide +kernel
theorem dX7_worst_28 : decode cX7_worst 28 = .ok (.invokestatic 83, 3) := by decide +kernel
theorem dX7_worst_31 : decode cX7_worst 31 = .ok (.ifCond .ne 7, 3) := by decide +kernel
theorem dX7_worst_34 : decode cX7_worst 34 = .ok (.sipush (-1002), 3) := by decide +kernel
theorem dX7_worst_37 : decode cX7_worst 37 = .ok (.ireturn, 1) := by decide +kernel
theorem dX7_worst_38 : decode cX7_worst 38 = .ok (.aload_n 0, 1) := by decide +kernel
theorem dX7_worst_39 : decode cX7_worst 39 = .ok (.iconst 0, 1) := by decide +kernel
theorem dX7_worst_40 : decode cX7_worst 40 = .ok (.invokevirtual 174, 3) := by decide +kernel
theorem dX7_worst_43 : decode cX7_worst 43 = .ok (.iconst (-1), 1) := by decide +kernel
theorem dX7_worst_44 : decode cX7_worst 44 = .ok (.istore 4, 2) := by decide +kernel
theorem dX7_worst_46 : decode cX7_worst 46 = .ok (.iconst 0, 1) := by decide +kernel
theorem dX7_worst_47 : decode cX7_worst 47 = .ok (.istore 5, 2) := by decide +kernel
theorem dX7_worst_49 : decode cX7_worst 49 = .ok (.iconst 0, 1) := by decide +kernel
theorem dX7_worst_50 : decode cX7_worst 50 = .ok (.istore 6, 2) := by decide +kernel
theorem dX7_worst_52 : decode cX7_worst 52 = .ok (.iload 6, 2) := by decide +kernel
theorem dX7_worst_54 : decode cX7_worst 54 = .ok (.iconst 1, 1) := by decide +kernel
theorem dX7_worst_55 : decode cX7_worst 55 = .ok (.iload_n 1, 1) := by decide +kernel
theorem dX7_worst_56 : decode cX7_worst 56 = .ok (.ishl, 1) := by decide +kernel
theorem dX7_worst_57 : decode cX7_worst 57 = .ok (.if_icmp .ge 88, 3) := by decide +kernel
theorem dX7_worst_60 : decode cX7_worst 60 = .ok (.iconst 0, 1) := by decide +kernel
theorem dX7_worst_61 : decode cX7_worst 61 = .ok (.istore 7, 2) := by decide +kernel
theorem dX7_worst_63 : decode cX7_worst 63 = .ok (.iconst 0, 1) := by decide +kernel
theorem dX7_worst_64 : decode cX7_worst 64 = .ok (.istore 8, 2) := by decide +kernel
theorem dX7_worst_66 : decode cX7_worst 66 = .ok (.iload 8, 2) := by decide +kernel
theorem dX7_worst_68 : decode cX7_worst 68 = .ok (.iload_n 1, 1) := by decide +kernel
theorem dX7_worst_69 : decode cX7_worst 69 = .ok (.if_icmp .ge 28, 3) := by decide +kernel
theorem dX7_worst_72 : decode cX7_worst 72 = .ok (.iload 7, 2) := by decide +kernel
theorem dX7_worst_74 : decode cX7_worst 74 = .ok (.iload 6, 2) := by decide +kernel
theorem dX7_worst_76 : decode cX7_worst 76 = .ok (.iload_n 1, 1) := by decide +kernel
theorem dX7_worst_77 : decode cX7_worst 77 = .ok (.iconst 1, 1) := by decide +kernel
theorem dX7_worst_78 : decode cX7_worst 78 = .ok (.isub, 1) := by decide +kernel
theorem dX7_worst_79 : decode cX7_worst 79 = .ok (.iload 8, 2) := by decide +kernel
theorem dX7_worst_81 : decode cX7_worst 81 = .ok (.isub, 1) := by decide +kernel
theorem dX7_worst_82 : decode cX7_worst 82 = .ok (.ishr, 1) := by decide +kernel
theorem dX7_worst_83 : decode cX7_worst 83 = .ok (.iconst 1, 1) := by decide +kernel
theorem dX7_worst_84 : decode cX7_worst 84 = .ok (.iand, 1) := by decide +kernel
theorem dX7_worst_85 : decode cX7_worst 85 = .ok (.iload 8, 2) := by decide +kernel
theorem dX7_worst_87 : decode cX7_worst 87 = .ok (.ishl, 1) := by decide +kernel
theorem dX7_worst_88 : decode cX7_worst 88 = .ok (.ior, 1) := by decide +kernel
theorem dX7_worst_89 : decode cX7_worst 89 = .ok (.istore 7, 2) := by decide +kernel
theorem dX7_worst_91 : decode cX7_worst 91 = .ok (.iinc 8 1, 3) := by decide +kernel
theorem dX7_worst_94 : decode cX7_worst 94 = .ok (.goto (-28), 3) := by decide +kernel
theorem dX7_worst_97 : decode cX7_worst 97 = .ok (.aload_n 0, 1) := by decide +kernel
theorem dX7_worst_98 : decode cX7_worst 98 = .ok (.iload_n 1, 1) := by decide +kernel
theorem dX7_worst_99 : decode cX7_worst 99 = .ok (.iload_n 2, 1) := by decide +kernel
theorem dX7_worst_100 : decode cX7_worst 100 = .ok (.iload 7, 2) := by decide +kernel
theorem dX7_worst_102 : decode cX7_worst 102 = .ok (.invokevirtual 177, 3) := by decide +kernel
theorem dX7_worst_105 : decode cX7_worst 105 = .ok (.istore 8, 2) := by decide +kernel
theorem dX7_worst_107 : decode cX7_worst 107 = .ok (.iload 8, 2) := by decide +kernel
theorem dX7_worst_109 : decode cX7_worst 109 = .ok (.iload 4, 2) := by decide +kernel
theorem dX7_worst_111 : decode cX7_worst 111 = .ok (.if_icmp .le 8, 3) := by decide +kernel
theorem dX7_worst_114 : decode cX7_worst 114 = .ok (.iload 7, 2) := by decide +kernel
theorem dX7_worst_116 : decode cX7_worst 116 = .ok (.goto 5, 3) := by decide +kernel
theorem dX7_worst_119 : decode cX7_worst 119 = .ok (.iload 5, 2) := by decide +kernel
theorem dX7_worst_121 : decode cX7_worst 121 = .ok (.istore 5, 2) := by decide +kernel
theorem dX7_worst_123 : decode cX7_worst 123 = .ok (.iload 8, 2) := by decide +kernel
theorem dX7_worst_125 : decode cX7_worst 125 = .ok (.iload 4, 2) := by decide +kernel
theorem dX7_worst_127 : decode cX7_worst 127 = .ok (.if_icmp .le 8, 3) := by decide +kernel
theorem dX7_worst_130 : decode cX7_worst 130 = .ok (.iload 8, 2) := by decide +kernel
theorem dX7_worst_132 : decode cX7_worst 132 = .ok (.goto 5, 3) := by decide +kernel
theorem dX7_worst_135 : decode cX7_worst 135 = .ok (.iload 4, 2) := by decide +kernel
theorem dX7_worst_137 : decode cX7_worst 137 = .ok (.istore 4, 2) := by decide +kernel
theorem dX7_worst_139 : decode cX7_worst 139 = .ok (.iinc 6 1, 3) := by decide +kernel
theorem dX7_worst_142 : decode cX7_worst 142 = .ok (.goto (-90), 3) := by decide +kernel
theorem dX7_worst_145 : decode cX7_worst 145 = .ok (.aload_n 0, 1) := by decide +kernel
theorem dX7_worst_146 : decode cX7_worst 146 = .ok (.iconst 1, 1) := by decide +kernel
theorem dX7_worst_147 : decode cX7_worst 147 = .ok (.invokevirtual 174, 3) := by decide +kernel
theorem dX7_worst_150 : decode cX7_worst 150 = .ok (.iload_n 3, 1) := by decide +kernel
theorem dX7_worst_151 : decode cX7_worst 151 = .ok (.ifCond .ne 8, 3) := by decide +kernel
theorem dX7_worst_154 : decode cX7_worst 154 = .ok (.iload 4, 2) := by decide +kernel
theorem dX7_worst_156 : decode cX7_worst 156 = .ok (.goto 5, 3) := by decide +kernel
theorem dX7_worst_159 : decode cX7_worst 159 = .ok (.iload 5, 2) := by decide +kernel
theorem dX7_worst_161 : decode cX7_worst 161 = .ok (.ireturn, 1) := by decide +kernel
set_option maxRecDepth 20000 in
theorem ggX7_swing_X7_in : GoodIn wsX7_swing wsX7_in := goodIn_r _ [7] rfl (by decide +kernel)
set_option maxRecDepth 20000 in
theorem gX7_swing_X7_in : GoodIn wsX7_swing (va_wsS RX7 83 yX7_in wsX7_in) := goodIn_app (goodIn_of _ (by decide +kernel)) ggX7_swing_X7_in
set_option maxRecDepth 20000 in
theorem ggX7_swing_X7_keepAll : GoodIn wsX7_swing wsX7_keepAll := goodIn_r _ [11, 12, 13, 14, 15, 16, 17, 18, 19, 20, 21, 22, 23, 3, 24, 25, 26, 27, 6, 28, 29, 90, 91, 92, 93, 94, 95, 96, 97, 98, 99, 100, 101, 102, 103, 104, 105, 106, 107, 108, 109, 110, 111] rfl (by decide +kernel)
set_option maxRecDepth 20000 in
theorem gX7_swing_X7_keepAll : GoodIn wsX7_swing (wsV RX7 174 RX7 yX7_keepAll wsX7_keepAll) := goodIn_app (goodIn_of _ (by decide +kernel)) ggX7_swing_X7_keepAll
set_option maxRecDepth 20000 in
theorem ggX7_swing_X7_begin : GoodIn wsX7_swing wsX7_begin := goodIn_r _ [33, 13, 14, 15, 21, 90, 91, 92, 93, 94, 95, 96, 97, 98, 99, 100, 101, 102, 103, 104, 105, 106, 107, 108, 109, 110, 111] rfl (by decide +kernel)
set_option maxRecDepth 20000 in
theorem gX7_swing_X7_begin : GoodIn wsX7_swing (wsV RX7 78 RX7 yX7_begin wsX7_begin) := goodIn_app (goodIn_of _ (by decide +kernel)) ggX7_swing_X7_begin
set_option maxRecDepth 20000 in
theorem ggX7_swing_X7_oneTick : GoodIn wsX7_swing wsX7_oneTick := goodIn_r _ [37, 13, 21, 19, 20, 3, 22, 14, 15, 38, 23, 39, 40, 41, 6, 42, 16, 17, 18, 43, 44, 45, 46, 47, 48, 49, 50, 51, 52, 53, 54, 55, 56, 57, 58, 59, 60, 61, 62, 63, 64, 65, 66, 67, 68, 69, 70, 71, 72, 73, 74, 75, 76, 77, 78, 79, 80, 81, 82, 83, 84, 85, 86, 87, 88, 89, 90, 91, 92, 93, 94, 95, 96, 97, 98, 99, 100, 101, 102, 103, 104, 105, 106, 107, 108, 109, 110, 111] rfl (by decide +kernel)
set_option maxRecDepth 20000 in
theorem gX7_swing_X7_oneTick : GoodIn wsX7_swing (wsV RX7 147 RX7 yX7_oneTick wsX7_oneTick) := goodIn_app (goodIn_of _ (by decide +kernel)) ggX7_swing_X7_oneTick
set_option maxRecDepth 20000 in
theorem ggX7_swing_X7_up : GoodIn wsX7_swing wsX7_up := goodIn_r _ [69, 70, 71, 72, 6, 73, 14, 90, 91, 92, 93, 94, 95, 96, 97, 98, 99, 100, 101, 102, 103, 104, 105, 106, 107, 108, 109, 110, 111] rfl (by decide +kernel)
set_option maxRecDepth 20000 in
theorem gX7_swing_X7_up : GoodIn wsX7_swing (wsV RX7 103 RX7 yX7_up wsX7_up) := goodIn_app (goodIn_of _ (by decide +kernel)) ggX7_swing_X7_up
set_option maxRecDepth 20000 in
theorem ggX7_swing_X7_least : GoodIn wsX7_swing wsX7_least := goodIn_r _ [61] rfl (by decide +kernel)
set_option maxRecDepth 20000 in
theorem gX7_swing_X7_least : GoodIn wsX7_swing (va_wsS RX7 111 yX7_least wsX7_least) := goodIn_app (goodIn_of _ (by decide +kernel)) ggX7_swing_X7_least
set_option maxRecDepth 20000 in
theorem ggX7_swing_X7_most : GoodIn wsX7_swing wsX7_most := goodIn_r _ [58] rfl (by decide +kernel)
set_option maxRecDepth 20000 in
theorem gX7_swing_X7_most : GoodIn wsX7_swing (va_wsS RX7 107 yX7_most wsX7_most) := goodIn_app (goodIn_of _ (by decide +kernel)) ggX7_swing_X7_most
theorem dX7_swing_0 : decode cX7_swing 0 = .ok (.iload_n 1, 1) := by decide +kernel
theorem dX7_swing_1 : decode cX7_swing 1 = .ok (.i2l, 1) := by decide +kernel
theorem dX7_swing_2 : decode cX7_swing 2 = .ok (.lconst 0, 1) := by decide +kernel
theorem dX7_swing_3 : decode cX7_swing 3 = .ok (.ldc2_w 93, 3) := by decide +kernel
theorem dX7_swing_6 : decode cX7_swing 6 = .ok (.invokestatic 83, 3) := by decide +kernel
theorem dX7_swing_9 : decode cX7_swing 9 = .ok (.ifCond .eq 15, 3) := by decide +kernel
theorem dX7_swing_12 : decode cX7_swing 12 = .ok (.iload_n 2, 1) := by decide +kernel
theorem dX7_swing_13 : decode cX7_swing 13 = .ok (.i2l, 1) := by decide +kernel
theorem dX7_swing_14 : decode cX7_swing 14 = .ok (.lconst 0, 1) := by decide +kernel
theorem dX7_swing_15 : decode cX7_swing 15 = .ok (.ldc2_w 181, 3) := by decide +kernel
theorem dX7_swing_18 : decode cX7_swing 18 = .ok (.invokestatic 83, 3) := by decide +kernel
theorem dX7_swing_21 : decode cX7_swing 21 = .ok (.ifCond .ne 7, 3) := by decide +kernel
theorem dX7_swing_24 : decode cX7_swing 24 = .ok (.sipush (-1002), 3) := by decide +kernel
theorem dX7_swing_27 : decode cX7_swing 27 = .ok (.ireturn, 1) := by decide +kernel
theorem dX7_swing_28 : decode cX7_swing 28 = .ok (.aload_n 0, 1) := by decide +kernel
theorem dX7_swing_29 : decode cX7_swing 29 = .ok (.iconst 0, 1) := by decide +kernel
theorem dX7_swing_30 : decode cX7_swing 30 = .ok (.invokevirtual 174, 3) := by decide +kernel
theorem dX7_swing_33 : decode cX7_swing 33 = .ok (.aload_n 0, 1) := by decide +kernel
theorem dX7_swing_34 : decode cX7_swing 34 = .ok (.invokevirtual 78, 3) := by decide +kernel
theorem dX7_swing_37 : decode cX7_swing 37 = .ok (.iconst 0, 1) := by decide +kernel
theorem dX7_swing_38 : decode cX7_swing 38 = .ok (.istore_n 3, 1) := by decide +kernel
theorem dX7_swing_39 : decode cX7_swing 39 = .ok (.iload_n 3, 1) := by decide +kernel
theorem dX7_swing_40 : decode cX7_swing 40 = .ok (.sipush 148, 3) := by decide +kernel
theorem dX7_swing_43 : decode cX7_swing 43 = .ok (.if_icmp .ge 16, 3) := by decide +kernel
theorem dX7_swing_46 : decode cX7_swing 46 = .ok (.aload_n 0, 1) := by decide +kernel
theorem dX7_swing_47 : decode cX7_swing 47 = .ok (.getfield 19, 3) := by decide +kernel
theorem dX7_swing_50 : decode cX7_swing 50 = .ok (.iload_n 3, 1) := by decide +kernel
theorem dX7_swing_51 : decode cX7_swing 51 = .ok (.iload_n 1, 1) := by decide +kernel
theorem dX7_swing_52 : decode cX7_swing 52 = .ok (.iastore, 1) := by decide +kernel
theorem dX7_swing_53 : decode cX7_swing 53 = .ok (.iinc 3 1, 3) := by decide +kernel
theorem dX7_swing_56 : decode cX7_swing 56 = .ok (.goto (-17), 3) := by decide +kernel
theorem dX7_swing_59 : decode cX7_swing 59 = .ok (.bipush 99, 2) := by decide +kernel
theorem dX7_swing_61 : decode cX7_swing 61 = .ok (.istore_n 3, 1) := by decide +kernel
theorem dX7_swing_62 : decode cX7_swing 62 = .ok (.iconst 0, 1) := by decide +kernel
theorem dX7_swing_63 : decode cX7_swing 63 = .ok (.istore 4, 2) := by decide +kernel
theorem dX7_swing_65 : decode cX7_swing 65 = .ok (.iconst 0, 1) := by decide +kernel
theorem dX7_swing_66 : decode cX7_swing 66 = .ok (.istore 5, 2) := by decide +kernel
theorem dX7_swing_68 : decode cX7_swing 68 = .ok (.iload 5, 2) := by decide +kernel
theorem dX7_swing_70 : decode cX7_swing 70 = .ok (.sipush 148, 3) := by decide +kernel
theorem dX7_swing_73 : decode cX7_swing 73 = .ok (.if_icmp .ge 57, 3) := by decide +kernel
theorem dX7_swing_76 : decode cX7_swing 76 = .ok (.aload_n 0, 1) := by decide +kernel
theorem dX7_swing_77 : decode cX7_swing 77 = .ok (.iconst 0, 1) := by decide +kernel
theorem dX7_swing_78 : decode cX7_swing 78 = .ok (.invokevirtual 147, 3) := by decide +kernel
theorem dX7_swing_81 : decode cX7_swing 81 = .ok (.iload 5, 2) := by decide +kernel
theorem dX7_swing_83 : decode cX7_swing 83 = .ok (.bipush 100, 2) := by decide +kernel
theorem dX7_swing_85 : decode cX7_swing 85 = .ok (.if_icmp .lt 14, 3) := by decide +kernel
theorem dX7_swing_88 : decode cX7_swing 88 = .ok (.iload_n 3, 1) := by decide +kernel
theorem dX7_swing_89 : decode cX7_swing 89 = .ok (.aload_n 0, 1) := by decide +kernel
theorem dX7_swing_90 : decode cX7_swing 90 = .ok (.invokevirtual 103, 3) := by decide +kernel
theorem dX7_swing_93 : decode cX7_swing 93 = .ok (.invokestatic 111, 3) := by decide +kernel
theorem dX7_swing_96 : decode cX7_swing 96 = .ok (.goto 4, 3) := by decide +kernel
theorem dX7_swing_99 : decode cX7_swing 99 = .ok (.iload_n 3, 1) := by decide +kernel
theorem dX7_swing_100 : decode cX7_swing 100 = .ok (.istore_n 3, 1) := by decide +kernel
theorem dX7_swing_101 : decode cX7_swing 101 = .ok (.iload 5, 2) := by decide +kernel
theorem dX7_swing_103 : decode cX7_swing 103 = .ok (.bipush 100, 2) := by decide +kernel
theorem dX7_swing_105 : decode cX7_swing 105 = .ok (.if_icmp .lt 15, 3) := by decide +kernel
theorem dX7_swing_108 : decode cX7_swing 108 = .ok (.iload 4, 2) := by decide +kernel
theorem dX7_swing_110 : decode cX7_swing 110 = .ok (.aload_n 0, 1) := by decide +kernel
theorem dX7_swing_111 : decode cX7_swing 111 = .ok (.invokevirtual 103, 3) := by decide +kernel
theorem dX7_swing_114 : decode cX7_swing 114 = .ok (.invokestatic 107, 3) := by decide +kernel
