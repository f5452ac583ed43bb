set_option maxRecDepth 20000 in
theorem gX4_figure_X3_count : GoodIn wsX4_figure (wsV RX4 158 RX3 yX3_count wsX3_count) := goodIn_app (goodIn_of _ (by decide +kernel)) ggX4_figure_X3_count
theorem dX4_figure_0 : decode cX4_figure 0 = .ok (.iload_n 1, 1) := by decide +kernel
theorem dX4_figure_1 : decode cX4_figure 1 = .ok (.tableswitch 169 0 12 #[67, 72, 80, 88, 93, 98, 103, 111, 116, 124, 133, 142, 164], 67) := by decide +kernel
theorem dX4_figure_68 : decode cX4_figure 68 = .ok (.aload_n 0, 1) := by decide +kernel
theorem dX4_figure_69 : decode cX4_figure 69 = .ok (.getfield 55, 3) := by decide +kernel
theorem dX4_figure_72 : decode cX4_figure 72 = .ok (.ireturn, 1) := by decide +kernel
theorem dX4_figure_73 : decode cX4_figure 73 = .ok (.aload_n 0, 1) := by decide +kernel
theorem dX4_figure_74 : decode cX4_figure 74 = .ok (.getfield 33, 3) := by decide +kernel
theorem dX4_figure_77 : decode cX4_figure 77 = .ok (.getfield 88, 3) := by decide +kernel
theorem dX4_figure_80 : decode cX4_figure 80 = .ok (.ireturn, 1) := by decide +kernel
theorem dX4_figure_81 : decode cX4_figure 81 = .ok (.aload_n 0, 1) := by decide +kernel
theorem dX4_figure_82 : decode cX4_figure 82 = .ok (.getfield 33, 3) := by decide +kernel
theorem dX4_figure_85 : decode cX4_figure 85 = .ok (.getfield 155, 3) := by decide +kernel
theorem dX4_figure_88 : decode cX4_figure 88 = .ok (.ireturn, 1) := by decide +kernel
theorem dX4_figure_89 : decode cX4_figure 89 = .ok (.aload_n 0, 1) := by decide +kernel
theorem dX4_figure_90 : decode cX4_figure 90 = .ok (.getfield 68, 3) := by decide +kernel
theorem dX4_figure_93 : decode cX4_figure 93 = .ok (.ireturn, 1) := by decide +kernel
theorem dX4_figure_94 : decode cX4_figure 94 = .ok (.aload_n 0, 1) := by decide +kernel
theorem dX4_figure_95 : decode cX4_figure 95 = .ok (.getfield 71, 3) := by decide +kernel
theorem dX4_figure_98 : decode cX4_figure 98 = .ok (.ireturn, 1) := by decide +kernel
theorem dX4_figure_99 : decode cX4_figure 99 = .ok (.aload_n 0, 1) := by decide +kernel
theorem dX4_figure_100 : decode cX4_figure 100 = .ok (.getfield 74, 3) := by decide +kernel
theorem dX4_figure_103 : decode cX4_figure 103 = .ok (.ireturn, 1) := by decide +kernel
theorem dX4_figure_104 : decode cX4_figure 104 = .ok (.aload_n 0, 1) := by decide +kernel
theorem dX4_figure_105 : decode cX4_figure 105 = .ok (.getfield 40, 3) := by decide +kernel
theorem dX4_figure_108 : decode cX4_figure 108 = .ok (.getfield 142, 3) := by decide +kernel
theorem dX4_figure_111 : decode cX4_figure 111 = .ok (.ireturn, 1) := by decide +kernel
theorem dX4_figure_112 : decode cX4_figure 112 = .ok (.aload_n 0, 1) := by decide +kernel
theorem dX4_figure_113 : decode cX4_figure 113 = .ok (.getfield 59, 3) := by decide +kernel
theorem dX4_figure_116 : decode cX4_figure 116 = .ok (.ireturn, 1) := by decide +kernel
theorem dX4_figure_117 : decode cX4_figure 117 = .ok (.aload_n 0, 1) := by decide +kernel
theorem dX4_figure_118 : decode cX4_figure 118 = .ok (.getfield 26, 3) := by decide +kernel
theorem dX4_figure_121 : decode cX4_figure 121 = .ok (.invokevirtual 134, 3) := by decide +kernel
theorem dX4_figure_124 : decode cX4_figure 124 = .ok (.ireturn, 1) := by decide +kernel
theorem dX4_figure_125 : decode cX4_figure 125 = .ok (.aload_n 0, 1) := by decide +kernel
theorem dX4_figure_126 : decode cX4_figure 126 = .ok (.getfield 26, 3) := by decide +kernel
theorem dX4_figure_129 : decode cX4_figure 129 = .ok (.iconst 2, 1) := by decide +kernel
theorem dX4_figure_130 : decode cX4_figure 130 = .ok (.invokevirtual 158, 3) := by decide +kernel
theorem dX4_figure_133 : decode cX4_figure 133 = .ok (.ireturn, 1) := by decide +kernel
theorem dX4_figure_134 : decode cX4_figure 134 = .ok (.aload_n 0, 1) := by decide +kernel
theorem dX4_figure_135 : decode cX4_figure 135 = .ok (.getfield 26, 3) := by decide +kernel
theorem dX4_figure_138 : decode cX4_figure 138 = .ok (.iconst 3, 1) := by decide +kernel
theorem dX4_figure_139 : decode cX4_figure 139 = .ok (.invokevirtual 158, 3) := by decide +kernel
theorem dX4_figure_142 : decode cX4_figure 142 = .ok (.ireturn, 1) := by decide +kernel
theorem dX4_figure_143 : decode cX4_figure 143 = .ok (.aload_n 0, 1) := by decide +kernel
theorem dX4_figure_144 : decode cX4_figure 144 = .ok (.getfield 62, 3) := by decide +kernel
theorem dX4_figure_147 : decode cX4_figure 147 = .ok (.iconst (-1), 1) := by decide +kernel
theorem dX4_figure_148 : decode cX4_figure 148 = .ok (.if_icmp .ne 7, 3) := by decide +kernel
theorem dX4_figure_151 : decode cX4_figure 151 = .ok (.iconst (-1), 1) := by decide +kernel
theorem dX4_figure_152 : decode cX4_figure 152 = .ok (.goto 12, 3) := by decide +kernel
theorem dX4_figure_155 : decode cX4_figure 155 = .ok (.aload_n 0, 1) := by decide +kernel
theorem dX4_figure_156 : decode cX4_figure 156 = .ok (.getfield 55, 3) := by decide +kernel
theorem dX4_figure_159 : decode cX4_figure 159 = .ok (.aload_n 0, 1) := by decide +kernel
theorem dX4_figure_160 : decode cX4_figure 160 = .ok (.getfield 62, 3) := by decide +kernel
theorem dX4_figure_163 : decode cX4_figure 163 = .ok (.isub, 1) := by decide +kernel
theorem dX4_figure_164 : decode cX4_figure 164 = .ok (.ireturn, 1) := by decide +kernel
theorem dX4_figure_165 : decode cX4_figure 165 = .ok (.aload_n 0, 1) := by decide +kernel
theorem dX4_figure_166 : decode cX4_figure 166 = .ok (.getfield 65, 3) := by decide +kernel
theorem dX4_figure_169 : decode cX4_figure 169 = .ok (.ireturn, 1) := by decide +kernel
theorem dX4_figure_170 : decode cX4_figure 170 = .ok (.sipush (-1002), 3) := by decide +kernel
theorem dX4_figure_173 : decode cX4_figure 173 = .ok (.ireturn, 1) := by decide +kernel
set_option maxRecDepth 20000 in
theorem ggX4_kept_X6_within : GoodIn wsX4_kept wsX6_within := goodIn_r _ [4] rfl (by decide +kernel)
set_option maxRecDepth 20000 in
theorem gX4_kept_X6_within_n77 : GoodIn wsX4_kept (wsX6_within) := ggX4_kept_X6_within
theorem dX4_kept_0 : decode cX4_kept 0 = .ok (.iload_n 1, 1) := by decide +kernel
theorem dX4_kept_1 : decode cX4_kept 1 = .ok (.iconst 0, 1) := by decide +kernel
theorem dX4_kept_2 : decode cX4_kept 2 = .ok (.sipush 199, 3) := by decide +kernel
theorem dX4_kept_5 : decode cX4_kept 5 = .ok (.invokestatic 77, 3) := by decide +kernel
theorem dX4_kept_8 : decode cX4_kept 8 = .ok (.ifCond .eq 16, 3) := by decide +kernel
theorem dX4_kept_11 : decode cX4_kept 11 = .ok (.iload_n 2, 1) := by decide +kernel
theorem dX4_kept_12 : decode cX4_kept 12 = .ok (.iconst 0, 1) := by decide +kernel
theorem dX4_kept_13 : decode cX4_kept 13 = .ok (.iconst 5, 1) := by decide +kernel
theorem dX4_kept_14 : decode cX4_kept 14 = .ok (.invokestatic 77, 3) := by decide +kernel
theorem dX4_kept_17 : decode cX4_kept 17 = .ok (.ifCond .eq 7, 3) := by decide +kernel
theorem dX4_kept_20 : decode cX4_kept 20 = .ok (.iconst 1, 1) := by decide +kernel
theorem dX4_kept_21 : decode cX4_kept 21 = .ok (.goto 4, 3) := by decide +kernel
theorem dX4_kept_24 : decode cX4_kept 24 = .ok (.iconst 0, 1) := by decide +kernel
theorem dX4_kept_25 : decode cX4_kept 25 = .ok (.istore_n 3, 1) := by decide +kernel
theorem dX4_kept_26 : decode cX4_kept 26 = .ok (.iload_n 3, 1) := by decide +kernel
theorem dX4_kept_27 : decode cX4_kept 27 = .ok (.ifCond .eq 14, 3) := by decide +kernel
theorem dX4_kept_30 : decode cX4_kept 30 = .ok (.aload_n 0, 1) := by decide +kernel
theorem dX4_kept_31 : decode cX4_kept 31 = .ok (.getfield 46, 3) := by decide +kernel
theorem dX4_kept_34 : decode cX4_kept 34 = .ok (.iload_n 2, 1) := by decide +kernel
theorem dX4_kept_35 : decode cX4_kept 35 = .ok (.aaload, 1) := by decide +kernel
theorem dX4_kept_36 : decode cX4_kept 36 = .ok (.iload_n 1, 1) := by decide +kernel
theorem dX4_kept_37 : decode cX4_kept 37 = .ok (.iaload, 1) := by decide +kernel
theorem dX4_kept_38 : decode cX4_kept 38 = .ok (.goto 6, 3) := by decide +kernel
theorem dX4_kept_41 : decode cX4_kept 41 = .ok (.sipush (-1002), 3) := by decide +kernel
theorem dX4_kept_44 : decode cX4_kept 44 = .ok (.ireturn, 1) := by decide +kernel
set_option maxRecDepth 20000 in
theorem ggX4_lostUnder_X4_begin : GoodIn wsX4_lostUnder wsX4_begin := goodIn_r _ [6, 7, 8, 9, 10, 11, 12, 13, 14, 1, 15, 16, 17, 18, 19, 20, 21, 22, 23, 24, 25, 26, 27, 28, 29, 30, 31, 32, 33, 34, 35, 36, 172, 173, 174, 175, 176, 177, 178, 179, 180, 181, 182, 183, 184, 185, 186, 187, 188, 189, 190, 191, 192, 193, 194, 195, 196, 197] rfl (by decide +kernel)
set_option maxRecDepth 20000 in
theorem gX4_lostUnder_X4_begin : GoodIn wsX4_lostUnder (wsV RX4 49 RX4 yX4_begin wsX4_begin) := goodIn_app (goodIn_of _ (by decide +kernel)) ggX4_lostUnder_X4_begin
set_option maxRecDepth 20000 in
theorem ggX4_lostUnder_X4_changeLoad : GoodIn wsX4_lostUnder wsX4_changeLoad := goodIn_r _ [40, 41, 42, 43, 44, 172, 173, 174, 175, 176, 177, 178, 179, 180, 181, 182, 183, 184, 185] rfl (by decide +kernel)
set_option maxRecDepth 20000 in
theorem gX4_lostUnder_X4_changeLoad : GoodIn wsX4_lostUnder (wsV RX4 161 RX4 yX4_changeLoad wsX4_changeLoad) := goodIn_app (goodIn_of _ (by decide +kernel)) ggX4_lostUnder_X4_changeLoad
set_option maxRecDepth 20000 in
theorem ggX4_lostUnder_X4_run : GoodIn wsX4_lostUnder wsX4_run := goodIn_r _ [48, 49, 50, 51, 5, 52, 10, 8, 41, 9, 53, 54, 11, 7, 13, 14, 1, 15, 55, 42, 43, 44, 56, 57, 58, 25, 59, 29, 30, 60, 61, 62, 63, 64, 65, 66, 27, 28, 67, 68, 69, 70, 71, 72, 73, 74, 34, 75, 76, 77, 78, 79, 80, 81, 82, 83, 84, 85, 86, 87, 88, 89, 90, 36, 91, 92, 93, 94, 95, 96, 97, 98, 19, 99, 100, 101, 102, 103, 21, 104, 105, 106, 107, 108, 109, 110, 111, 112, 113, 114, 115, 116, 117, 12, 118, 119, 120, 121, 122, 123, 124, 125, 126, 127, 128, 129, 130, 131, 132, 133, 134, 135, 136, 137, 138, 139, 140, 141, 142, 143, 144, 145, 146, 147, 148, 149, 150, 151, 152, 153, 154, 155, 156, 157, 158, 159, 160, 161, 162, 163, 164, 165, 166, 167, 168, 169, 170, 171, 172, 173, 174, 175, 176, 177, 178, 179, 180, 181, 182, 183, 184, 185, 188, 189, 190, 191, 192, 193, 194, 195, 196, 197, 198, 199, 186, 187] rfl (by decide +kernel)
set_option maxRecDepth 20000 in
theorem gX4_lostUnder_X4_run : GoodIn wsX4_lostUnder (wsV RX4 164 RX4 yX4_run wsX4_run) := goodIn_app (goodIn_of _ (by decide +kernel)) ggX4_lostUnder_X4_run
theorem dX4_lostUnder_0 : decode cX4_lostUnder 0 = .ok (.aload_n 0, 1) := by decide +kernel
theorem dX4_lostUnder_1 : decode cX4_lostUnder 1 = .ok (.invokevirtual 49, 3) := by decide +kernel
theorem dX4_lostUnder_4 : decode cX4_lostUnder 4 = .ok (.iconst 0, 1) := by decide +kernel
theorem dX4_lostUnder_5 : decode cX4_lostUnder 5 = .ok (.istore 4, 2) := by decide +kernel
theorem dX4_lostUnder_7 : decode cX4_lostUnder 7 = .ok (.iload 4, 2) := by decide +kernel
theorem dX4_lostUnder_9 : decode cX4_lostUnder 9 = .ok (.iload_n 2, 1) := by decide +kernel
theorem dX4_lostUnder_10 : decode cX4_lostUnder 10 = .ok (.bipush 10, 2) := by decide +kernel
theorem dX4_lostUnder_12 : decode cX4_lostUnder 12 = .ok (.iadd, 1) := by decide +kernel
theorem dX4_lostUnder_13 : decode cX4_lostUnder 13 = .ok (.if_icmp .ge 37, 3) := by decide +kernel
theorem dX4_lostUnder_16 : decode cX4_lostUnder 16 = .ok (.aload_n 0, 1) := by decide +kernel
theorem dX4_lostUnder_17 : decode cX4_lostUnder 17 = .ok (.iload 4, 2) := by decide +kernel
theorem dX4_lostUnder_19 : decode cX4_lostUnder 19 = .ok (.iload 4, 2) := by decide +kernel
theorem dX4_lostUnder_21 : decode cX4_lostUnder 21 = .ok (.iload_n 2, 1) := by decide +kernel
theorem dX4_lostUnder_22 : decode cX4_lostUnder 22 = .ok (.if_icmp .ge 17, 3) := by decide +kernel
theorem dX4_lostUnder_25 : decode cX4_lostUnder 25 = .ok (.iload_n 1, 1) := by decide +kernel
theorem dX4_lostUnder_26 : decode cX4_lostUnder 26 = .ok (.iload 4, 2) := by decide +kernel
theorem dX4_lostUnder_28 : decode cX4_lostUnder 28 = .ok (.ishr, 1) := by decide +kernel
theorem dX4_lostUnder_29 : decode cX4_lostUnder 29 = .ok (.iconst 1, 1) := by decide +kernel
theorem dX4_lostUnder_30 : decode cX4_lostUnder 30 = .ok (.iand, 1) := by decide +kernel
theorem dX4_lostUnder_31 : decode cX4_lostUnder 31 = .ok (.iconst 1, 1) := by decide +kernel
theorem dX4_lostUnder_32 : decode cX4_lostUnder 32 = .ok (.if_icmp .ne 7, 3) := by decide +kernel
theorem dX4_lostUnder_35 : decode cX4_lostUnder 35 = .ok (.iload_n 3, 1) := by decide +kernel
theorem dX4_lostUnder_36 : decode cX4_lostUnder 36 = .ok (.goto 4, 3) := by decide +kernel
theorem dX4_lostUnder_39 : decode cX4_lostUnder 39 = .ok (.iconst 0, 1) := by decide +kernel
theorem dX4_lostUnder_40 : decode cX4_lostUnder 40 = .ok (.invokevirtual 161, 3) := by decide +kernel
theorem dX4_lostUnder_43 : decode cX4_lostUnder 43 = .ok (.pop, 1) := by decide +kernel
theorem dX4_lostUnder_44 : decode cX4_lostUnder 44 = .ok (.iinc 4 1, 3) := by decide +kernel
theorem dX4_lostUnder_47 : decode cX4_lostUnder 47 = .ok (.goto (-40), 3) := by decide +kernel
theorem dX4_lostUnder_50 : decode cX4_lostUnder 50 = .ok (.aload_n 0, 1) := by decide +kernel
theorem dX4_lostUnder_51 : decode cX4_lostUnder 51 = .ok (.iload_n 2, 1) := by decide +kernel
theorem dX4_lostUnder_52 : decode cX4_lostUnder 52 = .ok (.bipush 10, 2) := by decide +kernel
theorem dX4_lostUnder_54 : decode cX4_lostUnder 54 = .ok (.iadd, 1) := by decide +kernel
theorem dX4_lostUnder_55 : decode cX4_lostUnder 55 = .ok (.invokevirtual 164, 3) := by decide +kernel
theorem dX4_lostUnder_58 : decode cX4_lostUnder 58 = .ok (.aload_n 0, 1) := by decide +kernel
theorem dX4_lostUnder_59 : decode cX4_lostUnder 59 = .ok (.getfield 71, 3) := by decide +kernel
theorem dX4_lostUnder_62 : decode cX4_lostUnder 62 = .ok (.ireturn, 1) := by decide +kernel
set_option maxRecDepth 20000 in
theorem ggX4_runSteady_X4_begin : GoodIn wsX4_runSteady wsX4_begin := goodIn_r _ [5, 6, 7, 8, 9, 10, 11, 12, 13, 14, 15, 16, 17, 18, 19, 20, 21, 22, 23, 24, 25, 26, 27, 28, 29, 30, 31, 32, 33, 34, 35, 36, 172, 173, 174, 175, 176, 177, 178, 179, 180, 181, 182, 183, 184, 185, 186, 187, 188, 189, 190, 191, 192, 193, 194, 195, 196, 197] rfl (by decide +kernel)
set_option maxRecDepth 20000 in
theorem gX4_runSteady_X4_begin : GoodIn wsX4_runSteady (wsV RX4 49 RX4 yX4_begin wsX4_begin) := goodIn_app (goodIn_of _ (by decide +kernel)) ggX4_runSteady_X4_begin
set_option maxRecDepth 20000 in
theorem ggX4_runSteady_X4_changeLoad : GoodIn wsX4_runSteady wsX4_changeLoad := goodIn_r _ [40, 41, 42, 43, 44, 172, 173, 174, 175, 176, 177, 178, 179, 180, 181, 182, 183, 184, 185] rfl (by decide +kernel)
set_option maxRecDepth 20000 in
theorem gX4_runSteady_X4_changeLoad : GoodIn wsX4_runSteady (wsV RX4 161 RX4 yX4_changeLoad wsX4_changeLoad) := goodIn_app (goodIn_of _ (by decide +kernel)) ggX4_runSteady_X4_changeLoad
set_option maxRecDepth 20000 in
theorem ggX4_runSteady_X4_run : GoodIn wsX4_runSteady wsX4_run := goodIn_r _ [48, 49, 50, 51, 4, 52, 9, 7, 41, 8, 53, 54, 10, 6, 12, 13, 14, 15, 55, 42, 43, 44, 56, 57, 58, 25, 59, 29, 30, 60, 61, 62, 63, 64, 65, 66, 27, 28, 67, 68, 69, 70, 71, 72, 73, 74, 34, 75, 76, 77, 78, 79, 80, 81, 82, 83, 84, 85, 86, 87, 88, 89, 90, 36, 91, 92, 93, 94, 95, 96, 97, 98, 19, 99, 100, 101, 102, 103, 21, 104, 105, 106, 107, 108, 109, 110, 111, 112, 113, 114, 115, 116, 117, 11, 118, 119, 120, 121, 122, 123, 124, 125, 126, 127, 128, 129, 130, 131, 132, 133, 134, 135, 136, 137, 138, 139, 140, 141, 142, 143, 144, 145, 146, 147, 148, 149, 150, 151, 152, 153, 154, 155, 156, 157, 158, 159, 160, 161, 162, 163, 164, 165, 166, 167, 168, 169, 170, 171, 172, 173, 174, 175, 176, 177, 178, 179, 180, 181, 182, 183, 184, 185, 188, 189, 190, 191, 192, 193, 194, 195, 196, 197, 198, 199, 186, 187] rfl (by decide +kernel)
set_option maxRecDepth 20000 in
theorem gX4_runSteady_X4_run : GoodIn wsX4_runSteady (wsV RX4 164 RX4 yX4_run wsX4_run) := goodIn_app (goodIn_of _ (by decide +kernel)) ggX4_runSteady_X4_run
theorem dX4_runSteady_0 : decode cX4_runSteady 0 = .ok (.aload_n 0, 1) := by decide +kernel
theorem dX4_runSteady_1 : decode cX4_runSteady 1 = .ok (.invokevirtual 49, 3) := by decide +kernel
theorem dX4_runSteady_4 : decode cX4_runSteady 4 = .ok (.iconst 0, 1) := by decide +kernel
theorem dX4_runSteady_5 : decode cX4_runSteady 5 = .ok (.istore_n 3, 1) := by decide +kernel
theorem dX4_runSteady_6 : decode cX4_runSteady 6 = .ok (.iload_n 3, 1) := by decide +kernel
theorem dX4_runSteady_7 : decode cX4_runSteady 7 = .ok (.iload_n 2, 1) := by decide +kernel
theorem dX4_runSteady_8 : decode cX4_runSteady 8 = .ok (.if_icmp .ge 16, 3) := by decide +kernel
theorem dX4_runSteady_11 : decode cX4_runSteady 11 = .ok (.aload_n 0, 1) := by decide +kernel
theorem dX4_runSteady_12 : decode cX4_runSteady 12 = .ok (.iload_n 3, 1) := by decide +kernel
theorem dX4_runSteady_13 : decode cX4_runSteady 13 = .ok (.iload_n 1, 1) := by decide +kernel
theorem dX4_runSteady_14 : decode cX4_runSteady 14 = .ok (.invokevirtual 161, 3) := by decide +kernel
theorem dX4_runSteady_17 : decode cX4_runSteady 17 = .ok (.pop, 1) := by decide +kernel
theorem dX4_runSteady_18 : decode cX4_runSteady 18 = .ok (.iinc 3 1, 3) := by decide +kernel
theorem dX4_runSteady_21 : decode cX4_runSteady 21 = .ok (.goto (-15), 3) := by decide +kernel
theorem dX4_runSteady_24 : decode cX4_runSteady 24 = .ok (.aload_n 0, 1) := by decide +kernel
theorem dX4_runSteady_25 : decode cX4_runSteady 25 = .ok (.iload_n 2, 1) := by decide +kernel
theorem dX4_runSteady_26 : decode cX4_runSteady 26 = .ok (.invokevirtual 164, 3) := by decide +kernel
theorem dX4_runSteady_29 : decode cX4_runSteady 29 = .ok (.return_, 1) := by decide +kernel
set_option maxRecDepth 20000 in
theorem ggX4_fewestUp_X4_kept : GoodIn wsX4_fewestUp wsX4_kept := goodIn_r _ [9, 10, 11, 12, 13, 14, 15, 16, 17, 18, 19, 20, 21, 22, 23, 24, 25, 26, 27] rfl (by decide +kernel)
set_option maxRecDepth 20000 in
theorem gX4_fewestUp_X4_kept : GoodIn wsX4_fewestUp (wsV RX4 167 RX4 yX4_kept wsX4_kept) := goodIn_app (goodIn_of _ (by decide +kernel)) ggX4_fewestUp_X4_kept
theorem dX4_fewestUp_0 : decode cX4_fewestUp 0 = .ok (.bipush 12, 2) := by decide +kernel
theorem dX4_fewestUp_2 : decode cX4_fewestUp 2 = .ok (.istore_n 3, 1) := by decide +kernel
theorem dX4_fewestUp_3 : decode cX4_fewestUp 3 = .ok (.iload_n 1, 1) := by decide +kernel
theorem dX4_fewestUp_4 : decode cX4_fewestUp 4 = .ok (.istore 4, 2) := by decide +kernel
theorem dX4_fewestUp_6 : decode cX4_fewestUp 6 = .ok (.iload 4, 2) := by decide +kernel
theorem dX4_fewestUp_8 : decode cX4_fewestUp 8 = .ok (.iload_n 2, 1) := by decide +kernel
theorem dX4_fewestUp_9 : decode cX4_fewestUp 9 = .ok (.if_icmp .ge 21, 3) := by decide +kernel
theorem dX4_fewestUp_12 : decode cX4_fewestUp 12 = .ok (.iload_n 3, 1) := by decide +kernel
theorem dX4_fewestUp_13 : decode cX4_fewestUp 13 = .ok (.aload_n 0, 1) := by decide +kernel
theorem dX4_fewestUp_14 : decode cX4_fewestUp 14 = .ok (.iload 4, 2) := by decide +kernel
theorem dX4_fewestUp_16 : decode cX4_fewestUp 16 = .ok (.iconst 3, 1) := by decide +kernel
theorem dX4_fewestUp_17 : decode cX4_fewestUp 17 = .ok (.invokevirtual 167, 3) := by decide +kernel
theorem dX4_fewestUp_20 : decode cX4_fewestUp 20 = .ok (.invokestatic 170, 3) := by decide +kernel
theorem dX4_fewestUp_23 : decode cX4_fewestUp 23 = .ok (.istore_n 3, 1) := by decide +kernel
theorem dX4_fewestUp_24 : decode cX4_fewestUp 24 = .ok (.iinc 4 1, 3) := by decide +kernel
theorem dX4_fewestUp_27 : decode cX4_fewestUp 27 = .ok (.goto (-21), 3) := by decide +kernel
theorem dX4_fewestUp_30 : decode cX4_fewestUp 30 = .ok (.iload_n 3, 1) := by decide +kernel
theorem dX4_fewestUp_31 : decode cX4_fewestUp 31 = .ok (.ireturn, 1) := by decide +kernel
set_option maxRecDepth 20000 in
theorem ggX4_mostUp_X4_kept : GoodIn wsX4_mostUp wsX4_kept := goodIn_r _ [9, 10, 11, 12, 13, 14, 15, 16, 17, 18, 19, 20, 21, 22, 23, 24, 25, 26, 27] rfl (by decide +kernel)
set_option maxRecDepth 20000 in
theorem gX4_mostUp_X4_kept : GoodIn wsX4_mostUp (wsV RX4 167 RX4 yX4_kept wsX4_kept) := goodIn_app (goodIn_of _ (by decide +kernel)) ggX4_mostUp_X4_kept
theorem dX4_mostUp_0 : decode cX4_mostUp 0 = .ok (.iconst 0, 1) := by decide +kernel
theorem dX4_mostUp_1 : decode cX4_mostUp 1 = .ok (.istore_n 3, 1) := by decide +kernel
theorem dX4_mostUp_2 : decode cX4_mostUp 2 = .ok (.iload_n 1, 1) := by decide +kernel
theorem dX4_mostUp_3 : decode cX4_mostUp 3 = .ok (.istore 4, 2) := by decide +kernel
theorem dX4_mostUp_5 : decode cX4_mostUp 5 = .ok (.iload 4, 2) := by decide +kernel
theorem dX4_mostUp_7 : decode cX4_mostUp 7 = .ok (.iload_n 2, 1) := by decide +kernel
theorem dX4_mostUp_8 : decode cX4_mostUp 8 = .ok (.if_icmp .ge 21, 3) := by decide +kernel
theorem dX4_mostUp_11 : decode cX4_mostUp 11 = .ok (.iload_n 3, 1) := by decide +kernel
theorem dX4_mostUp_12 : decode cX4_mostUp 12 = .ok (.aload_n 0, 1) := by decide +kernel
theorem dX4_mostUp_13 : decode cX4_mostUp 13 = .ok (.iload 4, 2) := by decide +kernel
theorem dX4_mostUp_15 : decode cX4_mostUp 15 = .ok (.iconst 3, 1) := by decide +kernel
theorem dX4_mostUp_16 : decode cX4_mostUp 16 = .ok (.invokevirtual 167, 3) := by decide +kernel
theorem dX4_mostUp_19 : decode cX4_mostUp 19 = .ok (.invokestatic 137, 3) := by decide +kernel
theorem dX4_mostUp_22 : decode cX4_mostUp 22 = .ok (.istore_n 3, 1) := by decide +kernel
theorem dX4_mostUp_23 : decode cX4_mostUp 23 = .ok (.iinc 4 1, 3) := by decide +kernel
theorem dX4_mostUp_26 : decode cX4_mostUp 26 = .ok (.goto (-21), 3) := by decide +kernel
theorem dX4_mostUp_29 : decode cX4_mostUp 29 = .ok (.iload_n 3, 1) := by decide +kernel
theorem dX4_mostUp_30 : decode cX4_mostUp 30 = .ok (.ireturn, 1) := by decide +kernel
theorem dX5_init_0 : decode cX5_init 0 = .ok (.aload_n 0, 1) := by decide +kernel
theorem dX5_init_1 : decode cX5_init 1 = .ok (.invokespecial 3, 3) := by decide +kernel
theorem dX5_init_4 : decode cX5_init 4 = .ok (.aload_n 0, 1) := by decide +kernel
theorem dX5_init_5 : decode cX5_init 5 = .ok (.bipush 19, 2) := by decide +kernel
theorem dX5_init_7 : decode cX5_init 7 = .ok (.newarray .int, 2) := by decide +kernel
theorem dX5_init_9 : decode cX5_init 9 = .ok (.putfield 11, 3) := by decide +kernel
theorem dX5_init_12 : decode cX5_init 12 = .ok (.aload_n 0, 1) := by decide +kernel
theorem dX5_init_13 : decode cX5_init 13 = .ok (.bipush 24, 2) := by decide +kernel
theorem dX5_init_15 : decode cX5_init 15 = .ok (.newarray .int, 2) := by decide +kernel
theorem dX5_init_17 : decode cX5_init 17 = .ok (.putfield 15, 3) := by decide +kernel
theorem dX5_init_20 : decode cX5_init 20 = .ok (.iconst 0, 1) := by decide +kernel
theorem dX5_init_21 : decode cX5_init 21 = .ok (.istore_n 1, 1) := by decide +kernel
theorem dX5_init_22 : decode cX5_init 22 = .ok (.iload_n 1, 1) := by decide +kernel
theorem dX5_init_23 : decode cX5_init 23 = .ok (.bipush 19, 2) := by decide +kernel
theorem dX5_init_25 : decode cX5_init 25 = .ok (.if_icmp .ge 20, 3) := by decide +kernel
theorem dX5_init_28 : decode cX5_init 28 = .ok (.aload_n 0, 1) := by decide +kernel
theorem dX5_init_29 : decode cX5_init 29 = .ok (.getfield 11, 3) := by decide +kernel
theorem dX5_init_32 : decode cX5_init 32 = .ok (.iload_n 1, 1) := by decide +kernel
theorem dX5_init_33 : decode cX5_init 33 = .ok (.getstatic 18, 3) := by decide +kernel
theorem dX5_init_36 : decode cX5_init 36 = .ok (.iload_n 1, 1) := by decide +kernel
theorem dX5_init_37 : decode cX5_init 37 = .ok (.iaload, 1) := by decide +kernel
theorem dX5_init_38 : decode cX5_init 38 = .ok (.iastore, 1) := by decide +kernel
theorem dX5_init_39 : decode cX5_init 39 = .ok (.iinc 1 1, 3) := by decide +kernel
theorem dX5_init_42 : decode cX5_init 42 = .ok (.goto (-20), 3) := by decide +kernel
theorem dX5_init_45 : decode cX5_init 45 = .ok (.return_, 1) := by decide +kernel
set_option maxRecDepth 20000 in
theorem ggX5_value_X6_within : GoodIn wsX5_value wsX6_within := goodIn_r _ [4] rfl (by decide +kernel)
set_option maxRecDepth 20000 in
theorem gX5_value_X6_within_n21 : GoodIn wsX5_value (wsX6_within) := ggX5_value_X6_within
theorem dX5_value_0 : decode cX5_value 0 = .ok (.iload_n 1, 1) := by decide +kernel
theorem dX5_value_1 : decode cX5_value 1 = .ok (.iconst 0, 1) := by decide +kernel
theorem dX5_value_2 : decode cX5_value 2 = .ok (.bipush 18, 2) := by decide +kernel
theorem dX5_value_4 : decode cX5_value 4 = .ok (.invokestatic 21, 3) := by decide +kernel
theorem dX5_value_7 : decode cX5_value 7 = .ok (.ifCond .eq 12, 3) := by decide +kernel
theorem dX5_value_10 : decode cX5_value 10 = .ok (.aload_n 0, 1) := by decide +kernel
theorem dX5_value_11 : decode cX5_value 11 = .ok (.getfield 11, 3) := by decide +kernel
theorem dX5_value_14 : decode cX5_value 14 = .ok (.iload_n 1, 1) := by decide +kernel
theorem dX5_value_15 : decode cX5_value 15 = .ok (.iaload, 1) := by decide +kernel
theorem dX5_value_16 : decode cX5_value 16 = .ok (.goto 6, 3) := by decide +kernel
theorem dX5_value_19 : decode cX5_value 19 = .ok (.sipush (-1002), 3) := by decide +kernel
theorem dX5_value_22 : decode cX5_value 22 = .ok (.ireturn, 1) := by decide +kernel
set_option maxRecDepth 20000 in
theorem ggX5_allows_X6_within : GoodIn wsX5_allows wsX6_within := goodIn_r _ [6] rfl (by decide +kernel)
set_option maxRecDepth 20000 in
theorem gX5_allows_X6_within_n21 : GoodIn wsX5_allows (wsX6_within) := ggX5_allows_X6_within
theorem dX5_allows_0 : decode cX5_allows 0 = .ok (.iload_n 1, 1) := by decide +kernel
theorem dX5_allows_1 : decode cX5_allows 1 = .ok (.iconst 0, 1) := by decide +kernel
theorem dX5_allows_2 : decode cX5_allows 2 = .ok (.bipush 18, 2) := by decide +kernel
theorem dX5_allows_4 : decode cX5_allows 4 = .ok (.invokestatic 21, 3) := by decide +kernel
theorem dX5_allows_7 : decode cX5_allows 7 = .ok (.ifCond .eq 20, 3) := by decide +kernel
theorem dX5_allows_10 : decode cX5_allows 10 = .ok (.iload_n 2, 1) := by decide +kernel
theorem dX5_allows_11 : decode cX5_allows 11 = .ok (.getstatic 25, 3) := by decide +kernel
theorem dX5_allows_14 : decode cX5_allows 14 = .ok (.iload_n 1, 1) := by decide +kernel
theorem dX5_allows_15 : decode cX5_allows 15 = .ok (.iaload, 1) := by decide +kernel
theorem dX5_allows_16 : decode cX5_allows 16 = .ok (.getstatic 28, 3) := by decide +kernel
theorem dX5_allows_19 : decode cX5_allows 19 = .ok (.iload_n 1, 1) := by decide +kernel
theorem dX5_allows_20 : decode cX5_allows 20 = .ok (.iaload, 1) := by decide +kernel
theorem dX5_allows_21 : decode cX5_allows 21 = .ok (.invokestatic 21, 3) := by decide +kernel
theorem dX5_allows_24 : decode cX5_allows 24 = .ok (.ifCond .ne 5, 3) := by decide +kernel
theorem dX5_allows_27 : decode cX5_allows 27 = .ok (.iconst 0, 1) := by decide +kernel
theorem dX5_allows_28 : decode cX5_allows 28 = .ok (.ireturn, 1) := by decide +kernel
theorem dX5_allows_29 : decode cX5_allows 29 = .ok (.iload_n 1, 1) := by decide +kernel
theorem dX5_allows_30 : decode cX5_allows 30 = .ok (.bipush 7, 2) := by decide +kernel
theorem dX5_allows_32 : decode cX5_allows 32 = .ok (.if_icmp .ne 14, 3) := by decide +kernel
theorem dX5_allows_35 : decode cX5_allows 35 = .ok (.iload_n 2, 1) := by decide +kernel
theorem dX5_allows_36 : decode cX5_allows 36 = .ok (.aload_n 0, 1) := by decide +kernel
theorem dX5_allows_37 : decode cX5_allows 37 = .ok (.getfield 11, 3) := by decide +kernel
theorem dX5_allows_40 : decode cX5_allows 40 = .ok (.bipush 8, 2) := by decide +kernel
theorem dX5_allows_42 : decode cX5_allows 42 = .ok (.iaload, 1) := by decide +kernel
theorem dX5_allows_43 : decode cX5_allows 43 = .ok (.if_icmp .gt 20, 3) := by decide +kernel
theorem dX5_allows_46 : decode cX5_allows 46 = .ok (.iload_n 1, 1) := by decide +kernel
theorem dX5_allows_47 : decode cX5_allows 47 = .ok (.bipush 8, 2) := by decide +kernel
theorem dX5_allows_49 : decode cX5_allows 49 = .ok (.if_icmp .ne 18, 3) := by decide +kernel
theorem dX5_allows_52 : decode cX5_allows 52 = .ok (.iload_n 2, 1) := by decide +kernel
theorem dX5_allows_53 : decode cX5_allows 53 = .ok (.aload_n 0, 1) := by decide +kernel
theorem dX5_allows_54 : decode cX5_allows 54 = .ok (.getfield 11, 3) := by decide +kernel
theorem dX5_allows_57 : decode cX5_allows 57 = .ok (.bipush 7, 2) := by decide +kernel
theorem dX5_allows_59 : decode cX5_allows 59 = .ok (.iaload, 1) := by decide +kernel
theorem dX5_allows_60 : decode cX5_allows 60 = .ok (.if_icmp .ge 7, 3) := by decide +kernel
theorem dX5_allows_63 : decode cX5_allows 63 = .ok (.iconst 1, 1) := by decide +kernel
theorem dX5_allows_64 : decode cX5_allows 64 = .ok (.goto 4, 3) := by decide +kernel
theorem dX5_allows_67 : decode cX5_allows 67 = .ok (.iconst 0, 1) := by decide +kernel
theorem dX5_allows_68 : decode cX5_allows 68 = .ok (.istore_n 3, 1) := by decide +kernel
theorem dX5_allows_69 : decode cX5_allows 69 = .ok (.iload_n 3, 1) := by decide +kernel
theorem dX5_allows_70 : decode cX5_allows 70 = .ok (.ifCond .ne 7, 3) := by decide +kernel
theorem dX5_allows_73 : decode cX5_allows 73 = .ok (.iconst 1, 1) := by decide +kernel
theorem dX5_allows_74 : decode cX5_allows 74 = .ok (.goto 4, 3) := by decide +kernel
theorem dX5_allows_77 : decode cX5_allows 77 = .ok (.iconst 0, 1) := by decide +kernel
theorem dX5_allows_78 : decode cX5_allows 78 = .ok (.ireturn, 1) := by decide +kernel
set_option maxRecDepth 20000 in
theorem ggX5_change_X6_within : GoodIn wsX5_change wsX6_within := goodIn_r _ [4] rfl (by decide +kernel)
set_option maxRecDepth 20000 in
theorem gX5_change_X6_within_n21 : GoodIn wsX5_change (wsX6_within) := ggX5_change_X6_within
theorem dX5_change_0 : decode cX5_change 0 = .ok (.iload_n 1, 1) := by decide +kernel
theorem dX5_change_1 : decode cX5_change 1 = .ok (.iconst 0, 1) := by decide +kernel
theorem dX5_change_2 : decode cX5_change 2 = .ok (.bipush 18, 2) := by decide +kernel
theorem dX5_change_4 : decode cX5_change 4 = .ok (.invokestatic 21, 3) := by decide +kernel
theorem dX5_change_7 : decode cX5_change 7 = .ok (.ifCond .ne 7, 3) := by decide +kernel
theorem dX5_change_10 : decode cX5_change 10 = .ok (.sipush (-1002), 3) := by decide +kernel
theorem dX5_change_13 : decode cX5_change 13 = .ok (.ireturn, 1) := by decide +kernel
theorem dX5_change_14 : decode cX5_change 14 = .ok (.aload_n 0, 1) := by decide +kernel
theorem dX5_change_15 : decode cX5_change 15 = .ok (.getfield 11, 3) := by decide +kernel
theorem dX5_change_18 : decode cX5_change 18 = .ok (.iload_n 1, 1) := by decide +kernel
theorem dX5_change_19 : decode cX5_change 19 = .ok (.iaload, 1) := by decide +kernel
theorem dX5_change_20 : decode cX5_change 20 = .ok (.istore_n 3, 1) := by decide +kernel
theorem dX5_change_21 : decode cX5_change 21 = .ok (.aload_n 0, 1) := by decide +kernel
theorem dX5_change_22 : decode cX5_change 22 = .ok (.getfield 11, 3) := by decide +kernel
theorem dX5_change_25 : decode cX5_change 25 = .ok (.iload_n 1, 1) := by decide +kernel
theorem dX5_change_26 : decode cX5_change 26 = .ok (.iload_n 2, 1) := by decide +kernel
theorem dX5_change_27 : decode cX5_change 27 = .ok (.iastore, 1) := by decide +kernel
theorem dX5_change_28 : decode cX5_change 28 = .ok (.iload_n 3, 1) := by decide +kernel
theorem dX5_change_29 : decode cX5_change 29 = .ok (.ireturn, 1) := by decide +kernel
set_option maxRecDepth 20000 in
theorem ggX5_changePlan_X6_within : GoodIn wsX5_changePlan wsX6_within := goodIn_r _ [4] rfl (by decide +kernel)
set_option maxRecDepth 20000 in
theorem gX5_changePlan_X6_within_n21 : GoodIn wsX5_changePlan (wsX6_within) := ggX5_changePlan_X6_within
theorem dX5_changePlan_0 : decode cX5_changePlan 0 = .ok (.iload_n 1, 1) := by decide +kernel
theorem dX5_changePlan_1 : decode cX5_changePlan 1 = .ok (.iconst 0, 1) := by decide +kernel
theorem dX5_changePlan_2 : decode cX5_changePlan 2 = .ok (.bipush 23, 2) := by decide +kernel
theorem dX5_changePlan_4 : decode cX5_changePlan 4 = .ok (.invokestatic 21, 3) := by decide +kernel
theorem dX5_changePlan_7 : decode cX5_changePlan 7 = .ok (.ifCond .ne 7, 3) := by decide +kernel
theorem dX5_changePlan_10 : decode cX5_changePlan 10 = .ok (.sipush (-1002), 3) := by decide +kernel
theorem dX5_changePlan_13 : decode cX5_changePlan 13 = .ok (.ireturn, 1) := by decide +kernel
theorem dX5_changePlan_14 : decode cX5_changePlan 14 = .ok (.aload_n 0, 1) := by decide +kernel
theorem dX5_changePlan_15 : decode cX5_changePlan 15 = .ok (.getfield 15, 3) := by decide +kernel
theorem dX5_changePlan_18 : decode cX5_changePlan 18 = .ok (.iload_n 1, 1) := by decide +kernel
theorem dX5_changePlan_19 : decode cX5_changePlan 19 = .ok (.iaload, 1) := by decide +kernel
theorem dX5_changePlan_20 : decode cX5_changePlan 20 = .ok (.istore_n 3, 1) := by decide +kernel
theorem dX5_changePlan_21 : decode cX5_changePlan 21 = .ok (.aload_n 0, 1) := by decide +kernel
theorem dX5_changePlan_22 : decode cX5_changePlan 22 = .ok (.getfield 15, 3) := by decide +kernel
theorem dX5_changePlan_25 : decode cX5_changePlan 25 = .ok (.iload_n 1, 1) := by decide +kernel
theorem dX5_changePlan_26 : decode cX5_changePlan 26 = .ok (.iload_n 2, 1) := by decide +kernel
theorem dX5_changePlan_27 : decode cX5_changePlan 27 = .ok (.iastore, 1) := by decide +kernel
theorem dX5_changePlan_28 : decode cX5_changePlan 28 = .ok (.iload_n 3, 1) := by decide +kernel
theorem dX5_changePlan_29 : decode cX5_changePlan 29 = .ok (.ireturn, 1) := by decide +kernel
set_option maxRecDepth 20000 in
theorem ggX5_bounded_J9_floorMod_7cf53 : GoodIn wsX5_bounded wsJ9_floorMod_7cf53 := goodIn_r _ [13] rfl (by decide +kernel)
set_option maxRecDepth 20000 in
theorem gX5_bounded_J9_floorMod_7cf53 : GoodIn wsX5_bounded (va_wsS RX5 31 yJ9_floorMod_7cf53 wsJ9_floorMod_7cf53) := goodIn_app (goodIn_of _ (by decide +kernel)) ggX5_bounded_J9_floorMod_7cf53
theorem dX5_bounded_0 : decode cX5_bounded 0 = .ok (.iload_n 2, 1) := by decide +kernel
theorem dX5_bounded_1 : decode cX5_bounded 1 = .ok (.bipush 24, 2) := by decide +kernel
theorem dX5_bounded_3 : decode cX5_bounded 3 = .ok (.invokestatic 31, 3) := by decide +kernel
theorem dX5_bounded_6 : decode cX5_bounded 6 = .ok (.istore_n 3, 1) := by decide +kernel
theorem dX5_bounded_7 : decode cX5_bounded 7 = .ok (.aload_n 0, 1) := by decide +kernel
theorem dX5_bounded_8 : decode cX5_bounded 8 = .ok (.getfield 15, 3) := by decide +kernel
theorem dX5_bounded_11 : decode cX5_bounded 11 = .ok (.iload_n 3, 1) := by decide +kernel
theorem dX5_bounded_12 : decode cX5_bounded 12 = .ok (.iaload, 1) := by decide +kernel
theorem dX5_bounded_13 : decode cX5_bounded 13 = .ok (.aload_n 0, 1) := by decide +kernel
theorem dX5_bounded_14 : decode cX5_bounded 14 = .ok (.getfield 11, 3) := by decide +kernel
theorem dX5_bounded_17 : decode cX5_bounded 17 = .ok (.bipush 7, 2) := by decide +kernel
theorem dX5_bounded_19 : decode cX5_bounded 19 = .ok (.iaload, 1) := by decide +kernel
theorem dX5_bounded_20 : decode cX5_bounded 20 = .ok (.invokestatic 37, 3) := by decide +kernel
theorem dX5_bounded_23 : decode cX5_bounded 23 = .ok (.istore 4, 2) := by decide +kernel
theorem dX5_bounded_25 : decode cX5_bounded 25 = .ok (.iload_n 1, 1) := by decide +kernel
theorem dX5_bounded_26 : decode cX5_bounded 26 = .ok (.iload 4, 2) := by decide +kernel
theorem dX5_bounded_28 : decode cX5_bounded 28 = .ok (.invokestatic 37, 3) := by decide +kernel
theorem dX5_bounded_31 : decode cX5_bounded 31 = .ok (.aload_n 0, 1) := by decide +kernel
theorem dX5_bounded_32 : decode cX5_bounded 32 = .ok (.getfield 11, 3) := by decide +kernel
theorem dX5_bounded_35 : decode cX5_bounded 35 = .ok (.bipush 8, 2) := by decide +kernel
theorem dX5_bounded_37 : decode cX5_bounded 37 = .ok (.iaload, 1) := by decide +kernel
theorem dX5_bounded_38 : decode cX5_bounded 38 = .ok (.invokestatic 40, 3) := by decide +kernel
theorem dX5_bounded_41 : decode cX5_bounded 41 = .ok (.ireturn, 1) := by decide +kernel
set_option maxRecDepth 20000 in
theorem ggX6_init_X5_init : GoodIn wsX6_init wsX5_init := goodIn_r _ [19, 20, 2, 3, 21, 22, 23, 24, 101, 102] rfl (by decide +kernel)
set_option maxRecDepth 20000 in
theorem gX6_init_X5_init : GoodIn wsX6_init (wsX5_init) := ggX6_init_X5_init
set_option maxRecDepth 20000 in
theorem ggX6_init_X4_init : GoodIn wsX6_init wsX4_init := goodIn_r _ [27, 28, 2, 3, 29, 21, 30, 31, 32, 33, 34, 35, 36, 37, 38, 39, 40, 41, 42, 43, 44, 45, 46, 47, 48, 49, 50, 51, 52, 53, 54, 55, 56, 57, 58, 59, 60, 61, 62, 63, 64, 65, 66, 67, 68, 10, 69, 70, 71, 72, 73, 74, 75, 76, 77, 78, 79, 80, 81, 82, 83, 84, 85, 86, 87, 88, 89, 90, 91, 92, 93, 107, 108, 109, 110, 111, 112, 113, 114, 115, 116, 117, 118, 119, 120, 123, 124, 125, 126, 127, 128, 129, 130, 131, 132, 133, 134] rfl (by decide +kernel)
set_option maxRecDepth 20000 in
theorem gX6_init_X4_init : GoodIn wsX6_init (wsX4_init) := ggX6_init_X4_init
set_option maxRecDepth 20000 in
theorem ggX6_init_X0_init : GoodIn wsX6_init wsX0_init := goodIn_r _ [96, 97, 2, 3, 98, 21, 99, 100, 121, 122] rfl (by decide +kernel)
set_option maxRecDepth 20000 in
theorem gX6_init_X0_init : GoodIn wsX6_init (wsX0_init) := ggX6_init_X0_init
theorem dX6_init_0 : decode cX6_init 0 = .ok (.aload_n 0, 1) := by decide +kernel
theorem dX6_init_1 : decode cX6_init 1 = .ok (.invokespecial 1, 3) := by decide +kernel
theorem dX6_init_4 : decode cX6_init 4 = .ok (.aload_n 0, 1) := by decide +kernel
theorem dX6_init_5 : decode cX6_init 5 = .ok (.new 7, 3) := by decide +kernel
theorem dX6_init_8 : decode cX6_init 8 = .ok (.dup, 1) := by decide +kernel
theorem dX6_init_9 : decode cX6_init 9 = .ok (.invokespecial 9, 3) := by decide +kernel
theorem dX6_init_12 : decode cX6_init 12 = .ok (.putfield 10, 3) := by decide +kernel
theorem dX6_init_15 : decode cX6_init 15 = .ok (.aload_n 0, 1) := by decide +kernel
theorem dX6_init_16 : decode cX6_init 16 = .ok (.new 16, 3) := by decide +kernel
theorem dX6_init_19 : decode cX6_init 19 = .ok (.dup, 1) := by decide +kernel
theorem dX6_init_20 : decode cX6_init 20 = .ok (.aload_n 0, 1) := by decide +kernel
theorem dX6_init_21 : decode cX6_init 21 = .ok (.getfield 10, 3) := by decide +kernel
theorem dX6_init_24 : decode cX6_init 24 = .ok (.invokespecial 18, 3) := by decide +kernel
theorem dX6_init_27 : decode cX6_init 27 = .ok (.putfield 21, 3) := by decide +kernel
theorem dX6_init_30 : decode cX6_init 30 = .ok (.aload_n 0, 1) := by decide +kernel
theorem dX6_init_31 : decode cX6_init 31 = .ok (.new 16, 3) := by decide +kernel
theorem dX6_init_34 : decode cX6_init 34 = .ok (.dup, 1) := by decide +kernel
theorem dX6_init_35 : decode cX6_init 35 = .ok (.aload_n 0, 1) := by decide +kernel
theorem dX6_init_36 : decode cX6_init 36 = .ok (.getfield 10, 3) := by decide +kernel
theorem dX6_init_39 : decode cX6_init 39 = .ok (.invokespecial 18, 3) := by decide +kernel
theorem dX6_init_42 : decode cX6_init 42 = .ok (.putfield 25, 3) := by decide +kernel
theorem dX6_init_45 : decode cX6_init 45 = .ok (.aload_n 0, 1) := by decide +kernel
theorem dX6_init_46 : decode cX6_init 46 = .ok (.new 28, 3) := by decide +kernel
theorem dX6_init_49 : decode cX6_init 49 = .ok (.dup, 1) := by decide +kernel
theorem dX6_init_50 : decode cX6_init 50 = .ok (.invokespecial 30, 3) := by decide +kernel
theorem dX6_init_53 : decode cX6_init 53 = .ok (.putfield 31, 3) := by decide +kernel
theorem dX6_init_56 : decode cX6_init 56 = .ok (.return_, 1) := by decide +kernel
set_option maxRecDepth 20000 in
theorem ggX6_setting_X5_allows : GoodIn wsX6_setting wsX5_allows := goodIn_r _ [6, 7, 8, 9, 10, 11, 12, 21, 22] rfl (by decide +kernel)
set_option maxRecDepth 20000 in
theorem gX6_setting_X5_allows : GoodIn wsX6_setting (wsV RX6 35 RX5 yX5_allows wsX5_allows) := goodIn_app (goodIn_of _ (by decide +kernel)) ggX6_setting_X5_allows
set_option maxRecDepth 20000 in
theorem ggX6_setting_X5_change : GoodIn wsX6_setting wsX5_change := goodIn_r _ [16, 9, 10, 11, 12, 21, 22] rfl (by decide +kernel)
set_option maxRecDepth 20000 in
theorem gX6_setting_X5_change : GoodIn wsX6_setting (wsV RX6 39 RX5 yX5_change wsX5_change) := goodIn_app (goodIn_of _ (by decide +kernel)) ggX6_setting_X5_change
theorem dX6_setting_0 : decode cX6_setting 0 = .ok (.aload_n 0, 1) := by decide +kernel
theorem dX6_setting_1 : decode cX6_setting 1 = .ok (.getfield 10, 3) := by decide +kernel
theorem dX6_setting_4 : decode cX6_setting 4 = .ok (.iload_n 1, 1) := by decide +kernel
theorem dX6_setting_5 : decode cX6_setting 5 = .ok (.iload_n 2, 1) := by decide +kernel
theorem dX6_setting_6 : decode cX6_setting 6 = .ok (.invokevirtual 35, 3) := by decide +kernel
theorem dX6_setting_9 : decode cX6_setting 9 = .ok (.ifCond .eq 15, 3) := by decide +kernel
theorem dX6_setting_12 : decode cX6_setting 12 = .ok (.aload_n 0, 1) := by decide +kernel
theorem dX6_setting_13 : decode cX6_setting 13 = .ok (.getfield 10, 3) := by decide +kernel
theorem dX6_setting_16 : decode cX6_setting 16 = .ok (.iload_n 1, 1) := by decide +kernel
theorem dX6_setting_17 : decode cX6_setting 17 = .ok (.iload_n 2, 1) := by decide +kernel
theorem dX6_setting_18 : decode cX6_setting 18 = .ok (.invokevirtual 39, 3) := by decide +kernel
theorem dX6_setting_21 : decode cX6_setting 21 = .ok (.goto 6, 3) := by decide +kernel
theorem dX6_setting_24 : decode cX6_setting 24 = .ok (.sipush (-1002), 3) := by decide +kernel
theorem dX6_setting_27 : decode cX6_setting 27 = .ok (.ireturn, 1) := by decide +kernel
set_option maxRecDepth 20000 in
theorem ggX6_told_X5_value : GoodIn wsX6_told wsX5_value := goodIn_r _ [6, 7, 8, 9, 10, 15, 16] rfl (by decide +kernel)
set_option maxRecDepth 20000 in
theorem gX6_told_X5_value : GoodIn wsX6_told (wsV RX6 43 RX5 yX5_value wsX5_value) := goodIn_app (goodIn_of _ (by decide +kernel)) ggX6_told_X5_value
theorem dX6_told_0 : decode cX6_told 0 = .ok (.aload_n 0, 1) := by decide +kernel
theorem dX6_told_1 : decode cX6_told 1 = .ok (.getfield 10, 3) := by decide +kernel
theorem dX6_told_4 : decode cX6_told 4 = .ok (.iload_n 1, 1) := by decide +kernel
theorem dX6_told_5 : decode cX6_told 5 = .ok (.invokevirtual 43, 3) := by decide +kernel
theorem dX6_told_8 : decode cX6_told 8 = .ok (.ireturn, 1) := by decide +kernel
set_option maxRecDepth 20000 in
theorem ggX6_load_X6_within : GoodIn wsX6_load wsX6_within := goodIn_r _ [5] rfl (by decide +kernel)
set_option maxRecDepth 20000 in
theorem gX6_load_X6_within : GoodIn wsX6_load (va_wsS RX6 47 yX6_within wsX6_within) := goodIn_app (goodIn_of _ (by decide +kernel)) ggX6_load_X6_within
set_option maxRecDepth 20000 in
theorem ggX6_load_X4_changeLoad : GoodIn wsX6_load wsX4_changeLoad := goodIn_r _ [10, 11, 3, 4, 5, 16, 17, 18, 19, 20, 21, 22, 23, 24, 25, 26, 27, 28, 29] rfl (by decide +kernel)
set_option maxRecDepth 20000 in
theorem gX6_load_X4_changeLoad : GoodIn wsX6_load (wsV RX6 55 RX4 yX4_changeLoad wsX4_changeLoad) := goodIn_app (goodIn_of _ (by decide +kernel)) ggX6_load_X4_changeLoad
theorem dX6_load_0 : decode cX6_load 0 = .ok (.iload_n 1, 1) := by decide +kernel
theorem dX6_load_1 : decode cX6_load 1 = .ok (.iconst 0, 1) := by decide +kernel
theorem dX6_load_2 : decode cX6_load 2 = .ok (.sipush 199, 3) := by decide +kernel
theorem dX6_load_5 : decode cX6_load 5 = .ok (.invokestatic 47, 3) := by decide +kernel
theorem dX6_load_8 : decode cX6_load 8 = .ok (.ifCond .eq 13, 3) := by decide +kernel
theorem dX6_load_11 : decode cX6_load 11 = .ok (.iload_n 2, 1) := by decide +kernel
theorem dX6_load_12 : decode cX6_load 12 = .ok (.iconst 0, 1) := by decide +kernel
theorem dX6_load_13 : decode cX6_load 13 = .ok (.bipush 60, 2) := by decide +kernel
theorem dX6_load_15 : decode cX6_load 15 = .ok (.invokestatic 47, 3) := by decide +kernel
theorem dX6_load_18 : decode cX6_load 18 = .ok (.ifCond .ne 7, 3) := by decide +kernel
theorem dX6_load_21 : decode cX6_load 21 = .ok (.sipush (-1002), 3) := by decide +kernel
theorem dX6_load_24 : decode cX6_load 24 = .ok (.ireturn, 1) := by decide +kernel
theorem dX6_load_25 : decode cX6_load 25 = .ok (.iload_n 1, 1) := by decide +kernel
theorem dX6_load_26 : decode cX6_load 26 = .ok (.aload_n 0, 1) := by decide +kernel
theorem dX6_load_27 : decode cX6_load 27 = .ok (.getfield 21, 3) := by decide +kernel
theorem dX6_load_30 : decode cX6_load 30 = .ok (.getfield 51, 3) := by decide +kernel
theorem dX6_load_33 : decode cX6_load 33 = .ok (.if_icmp .ge 9, 3) := by decide +kernel
theorem dX6_load_36 : decode cX6_load 36 = .ok (.sipush (-1003), 3) := by decide +kernel
theorem dX6_load_39 : decode cX6_load 39 = .ok (.goto 12, 3) := by decide +kernel
theorem dX6_load_42 : decode cX6_load 42 = .ok (.aload_n 0, 1) := by decide +kernel
theorem dX6_load_43 : decode cX6_load 43 = .ok (.getfield 21, 3) := by decide +kernel
theorem dX6_load_46 : decode cX6_load 46 = .ok (.iload_n 1, 1) := by decide +kernel
theorem dX6_load_47 : decode cX6_load 47 = .ok (.iload_n 2, 1) := by decide +kernel
theorem dX6_load_48 : decode cX6_load 48 = .ok (.invokevirtual 55, 3) := by decide +kernel
theorem dX6_load_51 : decode cX6_load 51 = .ok (.ireturn, 1) := by decide +kernel
set_option maxRecDepth 20000 in
theorem ggX6_plan_X6_within : GoodIn wsX6_plan wsX6_within := goodIn_r _ [5] rfl (by decide +kernel)
set_option maxRecDepth 20000 in
theorem gX6_plan_X6_within : GoodIn wsX6_plan (va_wsS RX6 47 yX6_within wsX6_within) := goodIn_app (goodIn_of _ (by decide +kernel)) ggX6_plan_X6_within
set_option maxRecDepth 20000 in
theorem ggX6_plan_X5_changePlan : GoodIn wsX6_plan wsX5_changePlan := goodIn_r _ [10, 11, 3, 4, 5, 16, 17] rfl (by decide +kernel)
set_option maxRecDepth 20000 in
theorem gX6_plan_X5_changePlan : GoodIn wsX6_plan (wsV RX6 58 RX5 yX5_changePlan wsX5_changePlan) := goodIn_app (goodIn_of _ (by decide +kernel)) ggX6_plan_X5_changePlan
theorem dX6_plan_0 : decode cX6_plan 0 = .ok (.iload_n 1, 1) := by decide +kernel
theorem dX6_plan_1 : decode cX6_plan 1 = .ok (.iconst 0, 1) := by decide +kernel
theorem dX6_plan_2 : decode cX6_plan 2 = .ok (.bipush 23, 2) := by decide +kernel
theorem dX6_plan_4 : decode cX6_plan 4 = .ok (.invokestatic 47, 3) := by decide +kernel
theorem dX6_plan_7 : decode cX6_plan 7 = .ok (.ifCond .eq 13, 3) := by decide +kernel
theorem dX6_plan_10 : decode cX6_plan 10 = .ok (.iload_n 2, 1) := by decide +kernel
theorem dX6_plan_11 : decode cX6_plan 11 = .ok (.iconst 0, 1) := by decide +kernel
theorem dX6_plan_12 : decode cX6_plan 12 = .ok (.bipush 12, 2) := by decide +kernel
theorem dX6_plan_14 : decode cX6_plan 14 = .ok (.invokestatic 47, 3) := by decide +kernel
theorem dX6_plan_17 : decode cX6_plan 17 = .ok (.ifCond .ne 7, 3) := by decide +kernel
theorem dX6_plan_20 : decode cX6_plan 20 = .ok (.sipush (-1002), 3) := by decide +kernel
theorem dX6_plan_23 : decode cX6_plan 23 = .ok (.ireturn, 1) := by decide +kernel
theorem dX6_plan_24 : decode cX6_plan 24 = .ok (.aload_n 0, 1) := by decide +kernel
theorem dX6_plan_25 : decode cX6_plan 25 = .ok (.getfield 10, 3) := by decide +kernel
theorem dX6_plan_28 : decode cX6_plan 28 = .ok (.iload_n 1, 1) := by decide +kernel
theorem dX6_plan_29 : decode cX6_plan 29 = .ok (.iload_n 2, 1) := by decide +kernel
theorem dX6_plan_30 : decode cX6_plan 30 = .ok (.invokevirtual 58, 3) := by decide +kernel
theorem dX6_plan_33 : decode cX6_plan 33 = .ok (.ireturn, 1) := by decide +kernel
set_option maxRecDepth 20000 in
theorem ggX6_lose_X6_within : GoodIn wsX6_lose wsX6_within := goodIn_r _ [5] rfl (by decide +kernel)
set_option maxRecDepth 20000 in
theorem gX6_lose_X6_within : GoodIn wsX6_lose (va_wsS RX6 47 yX6_within wsX6_within) := goodIn_app (goodIn_of _ (by decide +kernel)) ggX6_lose_X6_within
set_option maxRecDepth 20000 in
theorem ggX6_lose_X4_changeMeter : GoodIn wsX6_lose wsX4_changeMeter := goodIn_r _ [10, 11, 3, 4, 5, 16, 17, 18, 19, 20, 21, 22, 23, 24, 25, 26, 27, 28, 29] rfl (by decide +kernel)
set_option maxRecDepth 20000 in
theorem gX6_lose_X4_changeMeter : GoodIn wsX6_lose (wsV RX6 61 RX4 yX4_changeMeter wsX4_changeMeter) := goodIn_app (goodIn_of _ (by decide +kernel)) ggX6_lose_X4_changeMeter
theorem dX6_lose_0 : decode cX6_lose 0 = .ok (.iload_n 1, 1) := by decide +kernel
theorem dX6_lose_1 : decode cX6_lose 1 = .ok (.iconst 0, 1) := by decide +kernel
theorem dX6_lose_2 : decode cX6_lose 2 = .ok (.sipush 199, 3) := by decide +kernel
theorem dX6_lose_5 : decode cX6_lose 5 = .ok (.invokestatic 47, 3) := by decide +kernel
theorem dX6_lose_8 : decode cX6_lose 8 = .ok (.ifCond .ne 7, 3) := by decide +kernel
theorem dX6_lose_11 : decode cX6_lose 11 = .ok (.sipush (-1002), 3) := by decide +kernel
theorem dX6_lose_14 : decode cX6_lose 14 = .ok (.ireturn, 1) := by decide +kernel
theorem dX6_lose_15 : decode cX6_lose 15 = .ok (.iload_n 1, 1) := by decide +kernel
theorem dX6_lose_16 : decode cX6_lose 16 = .ok (.aload_n 0, 1) := by decide +kernel
theorem dX6_lose_17 : decode cX6_lose 17 = .ok (.getfield 21, 3) := by decide +kernel
theorem dX6_lose_20 : decode cX6_lose 20 = .ok (.getfield 51, 3) := by decide +kernel
theorem dX6_lose_23 : decode cX6_lose 23 = .ok (.if_icmp .ge 9, 3) := by decide +kernel
theorem dX6_lose_26 : decode cX6_lose 26 = .ok (.sipush (-1003), 3) := by decide +kernel
theorem dX6_lose_29 : decode cX6_lose 29 = .ok (.goto 12, 3) := by decide +kernel
theorem dX6_lose_32 : decode cX6_lose 32 = .ok (.aload_n 0, 1) := by decide +kernel
theorem dX6_lose_33 : decode cX6_lose 33 = .ok (.getfield 21, 3) := by decide +kernel
theorem dX6_lose_36 : decode cX6_lose 36 = .ok (.iload_n 1, 1) := by decide +kernel
theorem dX6_lose_37 : decode cX6_lose 37 = .ok (.iload_n 2, 1) := by decide +kernel
theorem dX6_lose_38 : decode cX6_lose 38 = .ok (.invokevirtual 61, 3) := by decide +kernel
theorem dX6_lose_41 : decode cX6_lose 41 = .ok (.ireturn, 1) := by decide +kernel
set_option maxRecDepth 20000 in
theorem ggX6_tick_X6_within : GoodIn wsX6_tick wsX6_within := goodIn_r _ [5] rfl (by decide +kernel)
set_option maxRecDepth 20000 in
theorem gX6_tick_X6_within : GoodIn wsX6_tick (va_wsS RX6 47 yX6_within wsX6_within) := goodIn_app (goodIn_of _ (by decide +kernel)) ggX6_tick_X6_within
set_option maxRecDepth 20000 in
theorem ggX6_tick_X4_run : GoodIn wsX6_tick wsX4_run := goodIn_r _ [10, 11, 12, 13, 9, 14, 15, 16, 17, 18, 19, 20, 21, 22, 23, 24, 25, 26, 27, 3, 4, 5, 28, 29, 30, 31, 32, 33, 34, 35, 36, 37, 38, 39, 40, 41, 42, 43, 44, 45, 46, 47, 48, 49, 50, 51, 52, 53, 54, 55, 56, 57, 58, 59, 60, 61, 62, 63, 64, 65, 66, 67, 68, 69, 70, 71, 72, 73, 74, 75, 76, 77, 78, 79, 80, 81, 82, 83, 84, 85, 86, 87, 88, 89, 90, 91, 92, 93, 94, 95, 96, 97, 98, 99, 100, 101, 102, 103, 104, 105, 106, 107, 108, 109, 110, 111, 112, 113, 114, 115, 116, 117, 118, 119, 120, 121, 122, 123, 124, 125, 126, 127, 128, 129, 130, 131, 132, 133, 134, 135, 136, 137, 138, 139, 140, 141, 142, 143, 144, 145, 146, 147, 148, 149, 150, 151, 152, 153, 158, 159, 160, 161, 162, 163, 164, 165, 166, 167, 168, 169, 170, 171, 172, 173, 174, 175, 176, 177, 178, 179, 180, 181, 182, 183, 184, 185] rfl (by decide +kernel)
set_option maxRecDepth 20000 in
theorem gX6_tick_X4_run : GoodIn wsX6_tick (wsV RX6 65 RX4 yX4_run wsX4_run) := goodIn_app (goodIn_of _ (by decide +kernel)) ggX6_tick_X4_run
theorem dX6_tick_0 : decode cX6_tick 0 = .ok (.iload_n 1, 1) := by decide +kernel
theorem dX6_tick_1 : decode cX6_tick 1 = .ok (.iconst 0, 1) := by decide +kernel
theorem dX6_tick_2 : decode cX6_tick 2 = .ok (.sipush 200, 3) := by decide +kernel
theorem dX6_tick_5 : decode cX6_tick 5 = .ok (.invokestatic 47, 3) := by decide +kernel
theorem dX6_tick_8 : decode cX6_tick 8 = .ok (.ifCond .ne 7, 3) := by decide +kernel
theorem dX6_tick_11 : decode cX6_tick 11 = .ok (.sipush (-1002), 3) := by decide +kernel
theorem dX6_tick_14 : decode cX6_tick 14 = .ok (.ireturn, 1) := by decide +kernel
theorem dX6_tick_15 : decode cX6_tick 15 = .ok (.iload_n 1, 1) := by decide +kernel
theorem dX6_tick_16 : decode cX6_tick 16 = .ok (.sipush 200, 3) := by decide +kernel
theorem dX6_tick_19 : decode cX6_tick 19 = .ok (.aload_n 0, 1) := by decide +kernel
theorem dX6_tick_20 : decode cX6_tick 20 = .ok (.getfield 21, 3) := by decide +kernel
theorem dX6_tick_23 : decode cX6_tick 23 = .ok (.getfield 51, 3) := by decide +kernel
theorem dX6_tick_26 : decode cX6_tick 26 = .ok (.isub, 1) := by decide +kernel
theorem dX6_tick_27 : decode cX6_tick 27 = .ok (.if_icmp .le 7, 3) := by decide +kernel
theorem dX6_tick_30 : decode cX6_tick 30 = .ok (.sipush (-1003), 3) := by decide +kernel
theorem dX6_tick_33 : decode cX6_tick 33 = .ok (.ireturn, 1) := by decide +kernel
theorem dX6_tick_34 : decode cX6_tick 34 = .ok (.aload_n 0, 1) := by decide +kernel
theorem dX6_tick_35 : decode cX6_tick 35 = .ok (.getfield 21, 3) := by decide +kernel
theorem dX6_tick_38 : decode cX6_tick 38 = .ok (.iload_n 1, 1) := by decide +kernel
theorem dX6_tick_39 : decode cX6_tick 39 = .ok (.invokevirtual 65, 3) := by decide +kernel
theorem dX6_tick_42 : decode cX6_tick 42 = .ok (.aload_n 0, 1) := by decide +kernel
theorem dX6_tick_43 : decode cX6_tick 43 = .ok (.getfield 21, 3) := by decide +kernel
theorem dX6_tick_46 : decode cX6_tick 46 = .ok (.getfield 51, 3) := by decide +kernel
theorem dX6_tick_49 : decode cX6_tick 49 = .ok (.ireturn, 1) := by decide +kernel
set_option maxRecDepth 20000 in
theorem ggX6_fail_X6_within : GoodIn wsX6_fail wsX6_within := goodIn_r _ [5] rfl (by decide +kernel)
set_option maxRecDepth 20000 in
theorem gX6_fail_X6_within : GoodIn wsX6_fail (va_wsS RX6 47 yX6_within wsX6_within) := goodIn_app (goodIn_of _ (by decide +kernel)) ggX6_fail_X6_within
set_option maxRecDepth 20000 in
theorem ggX6_fail_X3_takeOut : GoodIn wsX6_fail wsX3_takeOut := goodIn_r _ [10, 11, 3, 4, 5, 30, 31] rfl (by decide +kernel)
set_option maxRecDepth 20000 in
theorem gX6_fail_X3_takeOut : GoodIn wsX6_fail (wsV RX6 73 RX3 yX3_takeOut wsX3_takeOut) := goodIn_app (goodIn_of _ (by decide +kernel)) ggX6_fail_X3_takeOut
theorem dX6_fail_0 : decode cX6_fail 0 = .ok (.iload_n 1, 1) := by decide +kernel
theorem dX6_fail_1 : decode cX6_fail 1 = .ok (.iconst 0, 1) := by decide +kernel
theorem dX6_fail_2 : decode cX6_fail 2 = .ok (.bipush 11, 2) := by decide +kernel
theorem dX6_fail_4 : decode cX6_fail 4 = .ok (.invokestatic 47, 3) := by decide +kernel
theorem dX6_fail_7 : decode cX6_fail 7 = .ok (.ifCond .ne 7, 3) := by decide +kernel
theorem dX6_fail_10 : decode cX6_fail 10 = .ok (.sipush (-1001), 3) := by decide +kernel
theorem dX6_fail_13 : decode cX6_fail 13 = .ok (.ireturn, 1) := by decide +kernel
theorem dX6_fail_14 : decode cX6_fail 14 = .ok (.iload_n 2, 1) := by decide +kernel
theorem dX6_fail_15 : decode cX6_fail 15 = .ok (.ifCond .eq 15, 3) := by decide +kernel
theorem dX6_fail_18 : decode cX6_fail 18 = .ok (.iload_n 1, 1) := by decide +kernel
theorem dX6_fail_19 : decode cX6_fail 19 = .ok (.bipush 8, 2) := by decide +kernel
theorem dX6_fail_21 : decode cX6_fail 21 = .ok (.if_icmp .ge 9, 3) := by decide +kernel
theorem dX6_fail_24 : decode cX6_fail 24 = .ok (.sipush (-1003), 3) := by decide +kernel
theorem dX6_fail_27 : decode cX6_fail 27 = .ok (.goto 14, 3) := by decide +kernel
theorem dX6_fail_30 : decode cX6_fail 30 = .ok (.aload_n 0, 1) := by decide +kernel
theorem dX6_fail_31 : decode cX6_fail 31 = .ok (.getfield 21, 3) := by decide +kernel
theorem dX6_fail_34 : decode cX6_fail 34 = .ok (.getfield 69, 3) := by decide +kernel
theorem dX6_fail_37 : decode cX6_fail 37 = .ok (.iload_n 1, 1) := by decide +kernel
theorem dX6_fail_38 : decode cX6_fail 38 = .ok (.invokevirtual 73, 3) := by decide +kernel
theorem dX6_fail_41 : decode cX6_fail 41 = .ok (.ireturn, 1) := by decide +kernel
set_option maxRecDepth 20000 in
theorem ggX6_again_X4_begin : GoodIn wsX6_again wsX4_begin := goodIn_r _ [6, 7, 8, 9, 10, 11, 12, 13, 14, 15, 16, 17, 18, 19, 20, 21, 22, 23, 24, 25, 26, 27, 28, 29, 30, 31, 32, 33, 34, 35, 36, 37, 42, 43, 44, 45, 46, 47, 48, 49, 50, 51, 52, 53, 54, 55, 56, 57, 58, 59, 60, 61, 62, 63, 64, 65, 66, 67] rfl (by decide +kernel)
set_option maxRecDepth 20000 in
theorem gX6_again_X4_begin : GoodIn wsX6_again (wsV RX6 78 RX4 yX4_begin wsX4_begin) := goodIn_app (goodIn_of _ (by decide +kernel)) ggX6_again_X4_begin
theorem dX6_again_0 : decode cX6_again 0 = .ok (.aload_n 0, 1) := by decide +kernel
theorem dX6_again_1 : decode cX6_again 1 = .ok (.getfield 21, 3) := by decide +kernel
theorem dX6_again_4 : decode cX6_again 4 = .ok (.getfield 51, 3) := by decide +kernel
theorem dX6_again_7 : decode cX6_again 7 = .ok (.istore_n 1, 1) := by decide +kernel
theorem dX6_again_8 : decode cX6_again 8 = .ok (.aload_n 0, 1) := by decide +kernel
theorem dX6_again_9 : decode cX6_again 9 = .ok (.getfield 21, 3) := by decide +kernel
theorem dX6_again_12 : decode cX6_again 12 = .ok (.invokevirtual 78, 3) := by decide +kernel
theorem dX6_again_15 : decode cX6_again 15 = .ok (.iload_n 1, 1) := by decide +kernel
theorem dX6_again_16 : decode cX6_again 16 = .ok (.ireturn, 1) := by decide +kernel
set_option maxRecDepth 20000 in
theorem ggX6_server_X6_within : GoodIn wsX6_server wsX6_within := goodIn_r _ [5] rfl (by decide +kernel)
set_option maxRecDepth 20000 in
theorem gX6_server_X6_within : GoodIn wsX6_server (va_wsS RX6 47 yX6_within wsX6_within) := goodIn_app (goodIn_of _ (by decide +kernel)) ggX6_server_X6_within
set_option maxRecDepth 20000 in
theorem ggX6_server_X3_stateOf : GoodIn wsX6_server wsX3_stateOf := goodIn_r _ [10, 11, 3, 4, 5, 35, 36] rfl (by decide +kernel)
set_option maxRecDepth 20000 in
theorem gX6_server_X3_stateOf : GoodIn wsX6_server (wsV RX6 81 RX3 yX3_stateOf wsX3_stateOf) := goodIn_app (goodIn_of _ (by decide +kernel)) ggX6_server_X3_stateOf
set_option maxRecDepth 20000 in
theorem ggX6_server_X3_ticksBehind : GoodIn wsX6_server wsX3_ticksBehind := goodIn_r _ [15, 11, 16, 3, 4, 5, 35, 36] rfl (by decide +kernel)
set_option maxRecDepth 20000 in
theorem gX6_server_X3_ticksBehind : GoodIn wsX6_server (wsV RX6 84 RX3 yX3_ticksBehind wsX3_ticksBehind) := goodIn_app (goodIn_of _ (by decide +kernel)) ggX6_server_X3_ticksBehind
theorem dX6_server_0 : decode cX6_server 0 = .ok (.iload_n 1, 1) := by decide +kernel
theorem dX6_server_1 : decode cX6_server 1 = .ok (.iconst 0, 1) := by decide +kernel
theorem dX6_server_2 : decode cX6_server 2 = .ok (.bipush 11, 2) := by decide +kernel
theorem dX6_server_4 : decode cX6_server 4 = .ok (.invokestatic 47, 3) := by decide +kernel
theorem dX6_server_7 : decode cX6_server 7 = .ok (.ifCond .ne 7, 3) := by decide +kernel
theorem dX6_server_10 : decode cX6_server 10 = .ok (.sipush (-1001), 3) := by decide +kernel
theorem dX6_server_13 : decode cX6_server 13 = .ok (.ireturn, 1) := by decide +kernel
theorem dX6_server_14 : decode cX6_server 14 = .ok (.iload_n 2, 1) := by decide +kernel
theorem dX6_server_15 : decode cX6_server 15 = .ok (.iconst 0, 1) := by decide +kernel
theorem dX6_server_16 : decode cX6_server 16 = .ok (.iconst 1, 1) := by decide +kernel
theorem dX6_server_17 : decode cX6_server 17 = .ok (.invokestatic 47, 3) := by decide +kernel
theorem dX6_server_20 : decode cX6_server 20 = .ok (.ifCond .ne 7, 3) := by decide +kernel
theorem dX6_server_23 : decode cX6_server 23 = .ok (.sipush (-1002), 3) := by decide +kernel
theorem dX6_server_26 : decode cX6_server 26 = .ok (.ireturn, 1) := by decide +kernel
theorem dX6_server_27 : decode cX6_server 27 = .ok (.iload_n 2, 1) := by decide +kernel
theorem dX6_server_28 : decode cX6_server 28 = .ok (.ifCond .ne 17, 3) := by decide +kernel
theorem dX6_server_31 : decode cX6_server 31 = .ok (.aload_n 0, 1) := by decide +kernel
theorem dX6_server_32 : decode cX6_server 32 = .ok (.getfield 21, 3) := by decide +kernel
theorem dX6_server_35 : decode cX6_server 35 = .ok (.getfield 69, 3) := by decide +kernel
theorem dX6_server_38 : decode cX6_server 38 = .ok (.iload_n 1, 1) := by decide +kernel
theorem dX6_server_39 : decode cX6_server 39 = .ok (.invokevirtual 81, 3) := by decide +kernel
theorem dX6_server_42 : decode cX6_server 42 = .ok (.goto 21, 3) := by decide +kernel
theorem dX6_server_45 : decode cX6_server 45 = .ok (.aload_n 0, 1) := by decide +kernel
theorem dX6_server_46 : decode cX6_server 46 = .ok (.getfield 21, 3) := by decide +kernel
theorem dX6_server_49 : decode cX6_server 49 = .ok (.getfield 69, 3) := by decide +kernel
theorem dX6_server_52 : decode cX6_server 52 = .ok (.iload_n 1, 1) := by decide +kernel
theorem dX6_server_53 : decode cX6_server 53 = .ok (.aload_n 0, 1) := by decide +kernel
theorem dX6_server_54 : decode cX6_server 54 = .ok (.getfield 21, 3) := by decide +kernel
theorem dX6_server_57 : decode cX6_server 57 = .ok (.getfield 51, 3) := by decide +kernel
theorem dX6_server_60 : decode cX6_server 60 = .ok (.invokevirtual 84, 3) := by decide +kernel
theorem dX6_server_63 : decode cX6_server 63 = .ok (.ireturn, 1) := by decide +kernel
set_option maxRecDepth 20000 in
theorem ggX6_now_X4_figure : GoodIn wsX6_now wsX4_figure := goodIn_r _ [6, 7, 8, 9, 10, 11, 12, 13, 14, 15, 16, 17, 18, 19, 20, 21, 22, 23, 24, 25, 26, 27, 32, 33, 34, 35, 36, 37, 38, 39, 40, 41, 42, 43, 44, 45, 46, 47, 48, 49, 50, 51, 52, 53, 54, 55, 56, 57] rfl (by decide +kernel)
set_option maxRecDepth 20000 in
theorem gX6_now_X4_figure : GoodIn wsX6_now (wsV RX6 87 RX4 yX4_figure wsX4_figure) := goodIn_app (goodIn_of _ (by decide +kernel)) ggX6_now_X4_figure
theorem dX6_now_0 : decode cX6_now 0 = .ok (.aload_n 0, 1) := by decide +kernel
theorem dX6_now_1 : decode cX6_now 1 = .ok (.getfield 21, 3) := by decide +kernel
theorem dX6_now_4 : decode cX6_now 4 = .ok (.iload_n 1, 1) := by decide +kernel
theorem dX6_now_5 : decode cX6_now 5 = .ok (.invokevirtual 87, 3) := by decide +kernel
theorem dX6_now_8 : decode cX6_now 8 = .ok (.ireturn, 1) := by decide +kernel
set_option maxRecDepth 20000 in
theorem ggX6_was_X6_within : GoodIn wsX6_was wsX6_within := goodIn_r _ [5] rfl (by decide +kernel)
set_option maxRecDepth 20000 in
theorem gX6_was_X6_within : GoodIn wsX6_was (va_wsS RX6 47 yX6_within wsX6_within) := goodIn_app (goodIn_of _ (by decide +kernel)) ggX6_was_X6_within
set_option maxRecDepth 20000 in
theorem ggX6_was_X4_kept : GoodIn wsX6_was wsX4_kept := goodIn_r _ [10, 11, 3, 4, 5, 16, 17, 18, 19, 20, 21, 22, 23, 24, 25, 26, 27, 28, 29] rfl (by decide +kernel)
set_option maxRecDepth 20000 in
theorem gX6_was_X4_kept : GoodIn wsX6_was (wsV RX6 90 RX4 yX4_kept wsX4_kept) := goodIn_app (goodIn_of _ (by decide +kernel)) ggX6_was_X4_kept
theorem dX6_was_0 : decode cX6_was 0 = .ok (.iload_n 1, 1) := by decide +kernel
theorem dX6_was_1 : decode cX6_was 1 = .ok (.iconst 0, 1) := by decide +kernel
theorem dX6_was_2 : decode cX6_was 2 = .ok (.sipush 199, 3) := by decide +kernel
theorem dX6_was_5 : decode cX6_was 5 = .ok (.invokestatic 47, 3) := by decide +kernel
theorem dX6_was_8 : decode cX6_was 8 = .ok (.ifCond .eq 12, 3) := by decide +kernel
theorem dX6_was_11 : decode cX6_was 11 = .ok (.iload_n 2, 1) := by decide +kernel
theorem dX6_was_12 : decode cX6_was 12 = .ok (.iconst 0, 1) := by decide +kernel
theorem dX6_was_13 : decode cX6_was 13 = .ok (.iconst 5, 1) := by decide +kernel
theorem dX6_was_14 : decode cX6_was 14 = .ok (.invokestatic 47, 3) := by decide +kernel
theorem dX6_was_17 : decode cX6_was 17 = .ok (.ifCond .ne 7, 3) := by decide +kernel
theorem dX6_was_20 : decode cX6_was 20 = .ok (.sipush (-1002), 3) := by decide +kernel
theorem dX6_was_23 : decode cX6_was 23 = .ok (.ireturn, 1) := by decide +kernel
theorem dX6_was_24 : decode cX6_was 24 = .ok (.iload_n 1, 1) := by decide +kernel
theorem dX6_was_25 : decode cX6_was 25 = .ok (.aload_n 0, 1) := by decide +kernel
theorem dX6_was_26 : decode cX6_was 26 = .ok (.getfield 21, 3) := by decide +kernel
theorem dX6_was_29 : decode cX6_was 29 = .ok (.getfield 51, 3) := by decide +kernel
theorem dX6_was_32 : decode cX6_was 32 = .ok (.if_icmp .lt 9, 3) := by decide +kernel
theorem dX6_was_35 : decode cX6_was 35 = .ok (.sipush (-1003), 3) := by decide +kernel
theorem dX6_was_38 : decode cX6_was 38 = .ok (.goto 12, 3) := by decide +kernel
theorem dX6_was_41 : decode cX6_was 41 = .ok (.aload_n 0, 1) := by decide +kernel
theorem dX6_was_42 : decode cX6_was 42 = .ok (.getfield 21, 3) := by decide +kernel
theorem dX6_was_45 : decode cX6_was 45 = .ok (.iload_n 1, 1) := by decide +kernel
theorem dX6_was_46 : decode cX6_was 46 = .ok (.iload_n 2, 1) := by decide +kernel
theorem dX6_was_47 : decode cX6_was 47 = .ok (.invokevirtual 90, 3) := by decide +kernel
theorem dX6_was_50 : decode cX6_was 50 = .ok (.ireturn, 1) := by decide +kernel
set_option maxRecDepth 20000 in
theorem ggX6_hindsight_X6_within : GoodIn wsX6_hindsight wsX6_within := goodIn_r _ [7] rfl (by decide +kernel)
set_option maxRecDepth 20000 in
theorem gX6_hindsight_X6_within : GoodIn wsX6_hindsight (va_wsS RX6 47 yX6_within wsX6_within) := goodIn_app (goodIn_of _ (by decide +kernel)) ggX6_hindsight_X6_within
set_option maxRecDepth 20000 in
theorem ggX6_hindsight_X0_leastBill : GoodIn wsX6_hindsight wsX0_leastBill := goodIn_r _ [12, 13, 14, 15, 16, 17, 18, 19, 20, 21, 11, 22, 23, 24, 25, 26, 27, 28, 29, 30, 31, 32, 33, 34, 35, 5, 6, 7, 36, 37, 38, 39, 40, 41, 42, 43, 44, 45, 46, 47, 48, 49, 50, 51, 56, 57, 58, 59, 60, 61, 62, 63, 64, 65, 66, 67, 68, 69, 70, 71, 72, 73] rfl (by decide +kernel)
set_option maxRecDepth 20000 in
theorem gX6_hindsight_X0_leastBill : GoodIn wsX6_hindsight (wsV RX6 93 RX0 yX0_leastBill wsX0_leastBill) := goodIn_app (goodIn_of _ (by decide +kernel)) ggX6_hindsight_X0_leastBill
theorem dX6_hindsight_0 : decode cX6_hindsight 0 = .ok (.iload_n 1, 1) := by decide +kernel
theorem dX6_hindsight_1 : decode cX6_hindsight 1 = .ok (.iconst 1, 1) := by decide +kernel
theorem dX6_hindsight_2 : decode cX6_hindsight 2 = .ok (.bipush 24, 2) := by decide +kernel
theorem dX6_hindsight_4 : decode cX6_hindsight 4 = .ok (.invokestatic 47, 3) := by decide +kernel
theorem dX6_hindsight_7 : decode cX6_hindsight 7 = .ok (.ifCond .eq 22, 3) := by decide +kernel
theorem dX6_hindsight_10 : decode cX6_hindsight 10 = .ok (.aload_n 0, 1) := by decide +kernel
theorem dX6_hindsight_11 : decode cX6_hindsight 11 = .ok (.getfield 31, 3) := by decide +kernel
theorem dX6_hindsight_14 : decode cX6_hindsight 14 = .ok (.aload_n 0, 1) := by decide +kernel
theorem dX6_hindsight_15 : decode cX6_hindsight 15 = .ok (.getfield 10, 3) := by decide +kernel
theorem dX6_hindsight_18 : decode cX6_hindsight 18 = .ok (.aload_n 0, 1) := by decide +kernel
theorem dX6_hindsight_19 : decode cX6_hindsight 19 = .ok (.getfield 21, 3) := by decide +kernel
theorem dX6_hindsight_22 : decode cX6_hindsight 22 = .ok (.iload_n 1, 1) := by decide +kernel
theorem dX6_hindsight_23 : decode cX6_hindsight 23 = .ok (.invokevirtual 93, 3) := by decide +kernel
theorem dX6_hindsight_26 : decode cX6_hindsight 26 = .ok (.goto 6, 3) := by decide +kernel
theorem dX6_hindsight_29 : decode cX6_hindsight 29 = .ok (.sipush (-1002), 3) := by decide +kernel
theorem dX6_hindsight_32 : decode cX6_hindsight 32 = .ok (.ireturn, 1) := by decide +kernel
set_option maxRecDepth 20000 in
theorem ggX6_worst_X6_within : GoodIn wsX6_worst wsX6_within := goodIn_r _ [5] rfl (by decide +kernel)
set_option maxRecDepth 20000 in
theorem gX6_worst_X6_within : GoodIn wsX6_worst (va_wsS RX6 47 yX6_within wsX6_within) := goodIn_app (goodIn_of _ (by decide +kernel)) ggX6_worst_X6_within
set_option maxRecDepth 20000 in
theorem ggX6_worst_X6_rowAt : GoodIn wsX6_worst wsX6_rowAt := goodIn_r _ [8] rfl (by decide +kernel)
set_option maxRecDepth 20000 in
theorem gX6_worst_X6_rowAt : GoodIn wsX6_worst (va_wsS RX6 97 yX6_rowAt wsX6_rowAt) := goodIn_app (goodIn_of _ (by decide +kernel)) ggX6_worst_X6_rowAt
set_option maxRecDepth 20000 in
theorem ggX6_worst_X4_lostUnder : GoodIn wsX6_worst wsX4_lostUnder := goodIn_r _ [13, 14, 15, 16, 17, 12, 18, 19, 20, 21, 22, 23, 24, 25, 26, 27, 28, 29, 30, 31, 32, 33, 34, 35, 36, 37, 38, 39, 40, 41, 42, 43, 44, 45, 46, 47, 48, 49, 50, 51, 52, 53, 3, 4, 5, 54, 55, 56, 57, 58, 59, 60, 61, 62, 63, 64, 65, 66, 67, 68, 69, 70, 71, 72, 73, 74, 75, 76, 77, 78, 79, 80, 81, 82, 83, 84, 85, 86, 87, 88, 89, 90, 91, 92, 93, 94, 95, 96, 97, 98, 99, 100, 101, 102, 103, 104, 105, 106, 107, 108, 109, 110, 111, 112, 113, 114, 115, 116, 117, 118, 119, 120, 121, 122, 123, 124, 125, 126, 127, 128, 129, 130, 131, 132, 133, 134, 135, 136, 137, 138, 139, 140, 141, 142, 143, 144, 145, 146, 147, 148, 149, 150, 151, 152, 153, 154, 155, 156, 157, 158, 159, 160, 161, 162, 163, 164, 165, 166, 167, 168, 169, 170, 171, 172, 173, 174, 175, 176, 177, 178, 179, 180, 185, 186, 187, 188, 189, 190, 191, 192, 193, 194, 195, 196, 197, 198, 199, 200, 201, 202, 203, 204, 205, 206, 207, 208, 209, 210, 211, 212] rfl (by decide +kernel)
set_option maxRecDepth 20000 in
theorem gX6_worst_X4_lostUnder : GoodIn wsX6_worst (wsV RX6 100 RX4 yX4_lostUnder wsX4_lostUnder) := goodIn_app (goodIn_of _ (by decide +kernel)) ggX6_worst_X4_lostUnder
theorem dX6_worst_0 : decode cX6_worst 0 = .ok (.iload_n 1, 1) := by decide +kernel
theorem dX6_worst_1 : decode cX6_worst 1 = .ok (.iconst 1, 1) := by decide +kernel
theorem dX6_worst_2 : decode cX6_worst 2 = .ok (.bipush 6, 2) := by decide +kernel
theorem dX6_worst_4 : decode cX6_worst 4 = .ok (.invokestatic 47, 3) := by decide +kernel
theorem dX6_worst_7 : decode cX6_worst 7 = .ok (.ifCond .eq 22, 3) := by decide +kernel
theorem dX6_worst_10 : decode cX6_worst 10 = .ok (.iload_n 2, 1) := by decide +kernel
theorem dX6_worst_11 : decode cX6_worst 11 = .ok (.iconst 1, 1) := by decide +kernel
theorem dX6_worst_12 : decode cX6_worst 12 = .ok (.bipush 60, 2) := by decide +kernel
theorem dX6_worst_14 : decode cX6_worst 14 = .ok (.invokestatic 47, 3) := by decide +kernel
theorem dX6_worst_17 : decode cX6_worst 17 = .ok (.ifCond .eq 12, 3) := by decide +kernel
theorem dX6_worst_20 : decode cX6_worst 20 = .ok (.iload_n 3, 1) := by decide +kernel
theorem dX6_worst_21 : decode cX6_worst 21 = .ok (.iconst 0, 1) := by decide +kernel
theorem dX6_worst_22 : decode cX6_worst 22 = .ok (.iconst 1, 1) := by decide +kernel
theorem dX6_worst_23 : decode cX6_worst 23 = .ok (.invokestatic 47, 3) := by decide +kernel
theorem dX6_worst_26 : decode cX6_worst 26 = .ok (.ifCond .ne 7, 3) := by decide +kernel
theorem dX6_worst_29 : decode cX6_worst 29 = .ok (.sipush (-1002), 3) := by decide +kernel
theorem dX6_worst_32 : decode cX6_worst 32 = .ok (.ireturn, 1) := by decide +kernel
theorem dX6_worst_33 : decode cX6_worst 33 = .ok (.iconst (-1), 1) := by decide +kernel
theorem dX6_worst_34 : decode cX6_worst 34 = .ok (.istore 4, 2) := by decide +kernel
theorem dX6_worst_36 : decode cX6_worst 36 = .ok (.iconst 0, 1) := by decide +kernel
theorem dX6_worst_37 : decode cX6_worst 37 = .ok (.istore 5, 2) := by decide +kernel
theorem dX6_worst_39 : decode cX6_worst 39 = .ok (.iconst 0, 1) := by decide +kernel
theorem dX6_worst_40 : decode cX6_worst 40 = .ok (.istore 6, 2) := by decide +kernel
theorem dX6_worst_42 : decode cX6_worst 42 = .ok (.iload 6, 2) := by decide +kernel
theorem dX6_worst_44 : decode cX6_worst 44 = .ok (.iconst 1, 1) := by decide +kernel
theorem dX6_worst_45 : decode cX6_worst 45 = .ok (.iload_n 1, 1) := by decide +kernel
theorem dX6_worst_46 : decode cX6_worst 46 = .ok (.ishl, 1) := by decide +kernel
theorem dX6_worst_47 : decode cX6_worst 47 = .ok (.if_icmp .ge 45, 3) := by decide +kernel
theorem dX6_worst_50 : decode cX6_worst 50 = .ok (.iload 6, 2) := by decide +kernel
theorem dX6_worst_52 : decode cX6_worst 52 = .ok (.iload_n 1, 1) := by decide +kernel
theorem dX6_worst_53 : decode cX6_worst 53 = .ok (.invokestatic 97, 3) := by decide +kernel
theorem dX6_worst_56 : decode cX6_worst 56 = .ok (.istore 7, 2) := by decide +kernel
theorem dX6_worst_58 : decode cX6_worst 58 = .ok (.aload_n 0, 1) := by decide +kernel
theorem dX6_worst_59 : decode cX6_worst 59 = .ok (.getfield 25, 3) := by decide +kernel
theorem dX6_worst_62 : decode cX6_worst 62 = .ok (.iload 7, 2) := by decide +kernel
theorem dX6_worst_64 : decode cX6_worst 64 = .ok (.iload_n 1, 1) := by decide +kernel
theorem dX6_worst_65 : decode cX6_worst 65 = .ok (.iload_n 2, 1) := by decide +kernel
theorem dX6_worst_66 : decode cX6_worst 66 = .ok (.invokevirtual 100, 3) := by decide +kernel
theorem dX6_worst_69 : decode cX6_worst 69 = .ok (.istore 8, 2) := by decide +kernel
theorem dX6_worst_71 : decode cX6_worst 71 = .ok (.iload 8, 2) := by decide +kernel
theorem dX6_worst_73 : decode cX6_worst 73 = .ok (.iload 4, 2) := by decide +kernel
theorem dX6_worst_75 : decode cX6_worst 75 = .ok (.if_icmp .le 11, 3) := by decide +kernel
theorem dX6_worst_78 : decode cX6_worst 78 = .ok (.iload 8, 2) := by decide +kernel
theorem dX6_worst_80 : decode cX6_worst 80 = .ok (.istore 4, 2) := by decide +kernel
theorem dX6_worst_82 : decode cX6_worst 82 = .ok (.iload 7, 2) := by decide +kernel
theorem dX6_worst_84 : decode cX6_worst 84 = .ok (.istore 5, 2) := by decide +kernel
theorem dX6_worst_86 : decode cX6_worst 86 = .ok (.iinc 6 1, 3) := by decide +kernel
theorem dX6_worst_89 : decode cX6_worst 89 = .ok (.goto (-47), 3) := by decide +kernel
theorem dX6_worst_92 : decode cX6_worst 92 = .ok (.iload_n 3, 1) := by decide +kernel
theorem dX6_worst_93 : decode cX6_worst 93 = .ok (.ifCond .ne 8, 3) := by decide +kernel
theorem dX6_worst_96 : decode cX6_worst 96 = .ok (.iload 4, 2) := by decide +kernel
theorem dX6_worst_98 : decode cX6_worst 98 = .ok (.goto 5, 3) := by decide +kernel
theorem dX6_worst_101 : decode cX6_worst 101 = .ok (.iload 5, 2) := by decide +kernel
theorem dX6_worst_103 : decode cX6_worst 103 = .ok (.ireturn, 1) := by decide +kernel
set_option maxRecDepth 20000 in
theorem ggX6_swing_X6_within : GoodIn wsX6_swing wsX6_within := goodIn_r _ [5] rfl (by decide +kernel)
set_option maxRecDepth 20000 in
theorem gX6_swing_X6_within : GoodIn wsX6_swing (va_wsS RX6 47 yX6_within wsX6_within) := goodIn_app (goodIn_of _ (by decide +kernel)) ggX6_swing_X6_within
set_option maxRecDepth 20000 in
theorem ggX6_swing_X4_runSteady : GoodIn wsX6_swing wsX4_runSteady := goodIn_r _ [10, 11, 12, 13, 9, 14, 15, 16, 17, 18, 19, 20, 21, 22, 23, 24, 25, 26, 27, 28, 29, 30, 31, 32, 33, 34, 35, 36, 37, 38, 39, 40, 41, 42, 43, 44, 45, 46, 47, 48, 49, 50, 3, 4, 5, 51, 52, 53, 54, 55, 56, 57, 58, 59, 60, 61, 62, 63, 64, 65, 66, 67, 68, 69, 70, 71, 72, 73, 74, 75, 76, 77, 78, 79, 80, 81, 82, 83, 84, 85, 86, 87, 88, 89, 90, 91, 92, 93, 94, 95, 96, 97, 98, 99, 100, 101, 102, 103, 104, 105, 106, 107, 108, 109, 110, 111, 112, 113, 114, 115, 116, 117, 118, 119, 120, 121, 122, 123, 124, 125, 126, 127, 128, 129, 130, 131, 132, 133, 134, 135, 136, 137, 138, 139, 140, 141, 142, 143, 144, 145, 146, 147, 148, 149, 150, 151, 152, 153, 154, 155, 156, 157, 158, 159, 160, 161, 162, 163, 164, 165, 166, 167, 168, 169, 170, 171, 172, 173, 174, 175, 176, 177, 195, 196, 197, 198, 199, 200, 201, 202, 203, 204, 205, 206, 207, 208, 209, 210, 211, 212, 213, 214, 215, 216, 217, 218, 219, 220, 221, 222] rfl (by decide +kernel)
set_option maxRecDepth 20000 in
theorem gX6_swing_X4_runSteady : GoodIn wsX6_swing (wsV RX6 104 RX4 yX4_runSteady wsX4_runSteady) := goodIn_app (goodIn_of _ (by decide +kernel)) ggX6_swing_X4_runSteady
set_option maxRecDepth 20000 in
theorem ggX6_swing_X4_fewestUp : GoodIn wsX6_swing wsX4_fewestUp := goodIn_r _ [181, 182, 117, 95, 118, 183, 184, 185, 9, 186, 61, 3, 4, 5, 195, 196, 197, 198, 199, 200, 201, 202, 203, 204, 205, 206, 207, 208] rfl (by decide +kernel)
set_option maxRecDepth 20000 in
theorem gX6_swing_X4_fewestUp : GoodIn wsX6_swing (wsV RX6 108 RX4 yX4_fewestUp wsX4_fewestUp) := goodIn_app (goodIn_of _ (by decide +kernel)) ggX6_swing_X4_fewestUp
set_option maxRecDepth 20000 in
theorem ggX6_swing_X4_mostUp : GoodIn wsX6_swing wsX4_mostUp := goodIn_r _ [190, 101, 94, 95, 96, 183, 184, 185, 9, 186, 61, 3, 4, 5, 195, 196, 197, 198, 199, 200, 201, 202, 203, 204, 205, 206, 207, 208] rfl (by decide +kernel)
set_option maxRecDepth 20000 in
theorem gX6_swing_X4_mostUp : GoodIn wsX6_swing (wsV RX6 111 RX4 yX4_mostUp wsX4_mostUp) := goodIn_app (goodIn_of _ (by decide +kernel)) ggX6_swing_X4_mostUp
theorem dX6_swing_0 : decode cX6_swing 0 = .ok (.iload_n 1, 1) := by decide +kernel
theorem dX6_swing_1 : decode cX6_swing 1 = .ok (.iconst 0, 1) := by decide +kernel
theorem dX6_swing_2 : decode cX6_swing 2 = .ok (.bipush 60, 2) := by decide +kernel
theorem dX6_swing_4 : decode cX6_swing 4 = .ok (.invokestatic 47, 3) := by decide +kernel
