theorem dX7_swing_117 : decode cX7_swing 117 = .ok (.goto 5, 3) := by decide +kernel
theorem dX7_swing_120 : decode cX7_swing 120 = .ok (.iload 4, 2) := by decide +kernel
theorem dX7_swing_122 : decode cX7_swing 122 = .ok (.istore 4, 2) := by decide +kernel
theorem dX7_swing_124 : decode cX7_swing 124 = .ok (.iinc 5 1, 3) := by decide +kernel
theorem dX7_swing_127 : decode cX7_swing 127 = .ok (.goto (-59), 3) := by decide +kernel
theorem dX7_swing_130 : decode cX7_swing 130 = .ok (.aload_n 0, 1) := by decide +kernel
theorem dX7_swing_131 : decode cX7_swing 131 = .ok (.iconst 1, 1) := by decide +kernel
theorem dX7_swing_132 : decode cX7_swing 132 = .ok (.invokevirtual 174, 3) := by decide +kernel
theorem dX7_swing_135 : decode cX7_swing 135 = .ok (.iload_n 2, 1) := by decide +kernel
theorem dX7_swing_136 : decode cX7_swing 136 = .ok (.ifCond .ne 17, 3) := by decide +kernel
theorem dX7_swing_139 : decode cX7_swing 139 = .ok (.iload_n 3, 1) := by decide +kernel
theorem dX7_swing_140 : decode cX7_swing 140 = .ok (.iload 4, 2) := by decide +kernel
theorem dX7_swing_142 : decode cX7_swing 142 = .ok (.if_icmp .ge 7, 3) := by decide +kernel
theorem dX7_swing_145 : decode cX7_swing 145 = .ok (.iconst 1, 1) := by decide +kernel
theorem dX7_swing_146 : decode cX7_swing 146 = .ok (.goto 18, 3) := by decide +kernel
theorem dX7_swing_149 : decode cX7_swing 149 = .ok (.iconst 0, 1) := by decide +kernel
theorem dX7_swing_150 : decode cX7_swing 150 = .ok (.goto 14, 3) := by decide +kernel
theorem dX7_swing_153 : decode cX7_swing 153 = .ok (.iload_n 2, 1) := by decide +kernel
theorem dX7_swing_154 : decode cX7_swing 154 = .ok (.iconst 1, 1) := by decide +kernel
theorem dX7_swing_155 : decode cX7_swing 155 = .ok (.if_icmp .ne 7, 3) := by decide +kernel
theorem dX7_swing_158 : decode cX7_swing 158 = .ok (.iload_n 3, 1) := by decide +kernel
theorem dX7_swing_159 : decode cX7_swing 159 = .ok (.goto 5, 3) := by decide +kernel
theorem dX7_swing_162 : decode cX7_swing 162 = .ok (.iload 4, 2) := by decide +kernel
theorem dX7_swing_164 : decode cX7_swing 164 = .ok (.ireturn, 1) := by decide +kernel
set_option maxRecDepth 20000 in
theorem ggX7_digest_X7_now : GoodIn wsX7_digest wsX7_now := goodIn_r _ [6, 7, 8, 9, 10, 5, 11, 12, 13, 14, 15, 16, 17, 18, 19, 20, 21, 22, 23, 24, 25, 26, 1, 27, 28, 29, 30, 31, 32, 33, 34, 35, 36, 37, 38, 39, 40, 41, 42, 43, 44, 45, 46, 47, 48] rfl (by decide +kernel)
set_option maxRecDepth 20000 in
theorem gX7_digest_X7_now : GoodIn wsX7_digest (wsV RX7 183 RX7 yX7_now wsX7_now) := goodIn_app (goodIn_of _ (by decide +kernel)) ggX7_digest_X7_now
theorem dX7_digest_0 : decode cX7_digest 0 = .ok (.bipush 7, 2) := by decide +kernel
theorem dX7_digest_2 : decode cX7_digest 2 = .ok (.istore_n 1, 1) := by decide +kernel
theorem dX7_digest_3 : decode cX7_digest 3 = .ok (.iconst 0, 1) := by decide +kernel
theorem dX7_digest_4 : decode cX7_digest 4 = .ok (.istore_n 2, 1) := by decide +kernel
theorem dX7_digest_5 : decode cX7_digest 5 = .ok (.iload_n 2, 1) := by decide +kernel
theorem dX7_digest_6 : decode cX7_digest 6 = .ok (.bipush 13, 2) := by decide +kernel
theorem dX7_digest_8 : decode cX7_digest 8 = .ok (.if_icmp .ge 20, 3) := by decide +kernel
theorem dX7_digest_11 : decode cX7_digest 11 = .ok (.bipush 31, 2) := by decide +kernel
theorem dX7_digest_13 : decode cX7_digest 13 = .ok (.iload_n 1, 1) := by decide +kernel
theorem dX7_digest_14 : decode cX7_digest 14 = .ok (.imul, 1) := by decide +kernel
theorem dX7_digest_15 : decode cX7_digest 15 = .ok (.aload_n 0, 1) := by decide +kernel
theorem dX7_digest_16 : decode cX7_digest 16 = .ok (.iload_n 2, 1) := by decide +kernel
theorem dX7_digest_17 : decode cX7_digest 17 = .ok (.invokevirtual 183, 3) := by decide +kernel
theorem dX7_digest_20 : decode cX7_digest 20 = .ok (.iadd, 1) := by decide +kernel
theorem dX7_digest_21 : decode cX7_digest 21 = .ok (.istore_n 1, 1) := by decide +kernel
theorem dX7_digest_22 : decode cX7_digest 22 = .ok (.iinc 2 1, 3) := by decide +kernel
theorem dX7_digest_25 : decode cX7_digest 25 = .ok (.goto (-20), 3) := by decide +kernel
theorem dX7_digest_28 : decode cX7_digest 28 = .ok (.iconst 0, 1) := by decide +kernel
theorem dX7_digest_29 : decode cX7_digest 29 = .ok (.istore_n 2, 1) := by decide +kernel
theorem dX7_digest_30 : decode cX7_digest 30 = .ok (.iload_n 2, 1) := by decide +kernel
theorem dX7_digest_31 : decode cX7_digest 31 = .ok (.bipush 12, 2) := by decide +kernel
theorem dX7_digest_33 : decode cX7_digest 33 = .ok (.if_icmp .ge 21, 3) := by decide +kernel
theorem dX7_digest_36 : decode cX7_digest 36 = .ok (.bipush 31, 2) := by decide +kernel
theorem dX7_digest_38 : decode cX7_digest 38 = .ok (.iload_n 1, 1) := by decide +kernel
theorem dX7_digest_39 : decode cX7_digest 39 = .ok (.imul, 1) := by decide +kernel
theorem dX7_digest_40 : decode cX7_digest 40 = .ok (.aload_n 0, 1) := by decide +kernel
theorem dX7_digest_41 : decode cX7_digest 41 = .ok (.getfield 32, 3) := by decide +kernel
theorem dX7_digest_44 : decode cX7_digest 44 = .ok (.iload_n 2, 1) := by decide +kernel
theorem dX7_digest_45 : decode cX7_digest 45 = .ok (.iaload, 1) := by decide +kernel
theorem dX7_digest_46 : decode cX7_digest 46 = .ok (.iadd, 1) := by decide +kernel
theorem dX7_digest_47 : decode cX7_digest 47 = .ok (.istore_n 1, 1) := by decide +kernel
theorem dX7_digest_48 : decode cX7_digest 48 = .ok (.iinc 2 1, 3) := by decide +kernel
theorem dX7_digest_51 : decode cX7_digest 51 = .ok (.goto (-21), 3) := by decide +kernel
theorem dX7_digest_54 : decode cX7_digest 54 = .ok (.iload_n 1, 1) := by decide +kernel
theorem dX7_digest_55 : decode cX7_digest 55 = .ok (.ireturn, 1) := by decide +kernel
theorem dJ9_floorMod_7cf53_0 : decode cJ9_floorMod_7cf53 0 = .ok (.iload_n 0, 1) := by decide +kernel
theorem dJ9_floorMod_7cf53_1 : decode cJ9_floorMod_7cf53 1 = .ok (.iload_n 1, 1) := by decide +kernel
theorem dJ9_floorMod_7cf53_2 : decode cJ9_floorMod_7cf53 2 = .ok (.irem, 1) := by decide +kernel
theorem dJ9_floorMod_7cf53_3 : decode cJ9_floorMod_7cf53 3 = .ok (.istore_n 2, 1) := by decide +kernel
theorem dJ9_floorMod_7cf53_4 : decode cJ9_floorMod_7cf53 4 = .ok (.iload_n 0, 1) := by decide +kernel
theorem dJ9_floorMod_7cf53_5 : decode cJ9_floorMod_7cf53 5 = .ok (.iload_n 1, 1) := by decide +kernel
theorem dJ9_floorMod_7cf53_6 : decode cJ9_floorMod_7cf53 6 = .ok (.ixor, 1) := by decide +kernel
theorem dJ9_floorMod_7cf53_7 : decode cJ9_floorMod_7cf53 7 = .ok (.ifCond .ge 11, 3) := by decide +kernel
theorem dJ9_floorMod_7cf53_10 : decode cJ9_floorMod_7cf53 10 = .ok (.iload_n 2, 1) := by decide +kernel
theorem dJ9_floorMod_7cf53_11 : decode cJ9_floorMod_7cf53 11 = .ok (.ifCond .eq 7, 3) := by decide +kernel
theorem dJ9_floorMod_7cf53_14 : decode cJ9_floorMod_7cf53 14 = .ok (.iload_n 2, 1) := by decide +kernel
theorem dJ9_floorMod_7cf53_15 : decode cJ9_floorMod_7cf53 15 = .ok (.iload_n 1, 1) := by decide +kernel
theorem dJ9_floorMod_7cf53_16 : decode cJ9_floorMod_7cf53 16 = .ok (.iadd, 1) := by decide +kernel
theorem dJ9_floorMod_7cf53_17 : decode cJ9_floorMod_7cf53 17 = .ok (.ireturn, 1) := by decide +kernel
theorem dJ9_floorMod_7cf53_18 : decode cJ9_floorMod_7cf53 18 = .ok (.iload_n 2, 1) := by decide +kernel
theorem dJ9_floorMod_7cf53_19 : decode cJ9_floorMod_7cf53 19 = .ok (.ireturn, 1) := by decide +kernel
theorem dJ9_max_7cf53_0 : decode cJ9_max_7cf53 0 = .ok (.iload_n 0, 1) := by decide +kernel
theorem dJ9_max_7cf53_1 : decode cJ9_max_7cf53 1 = .ok (.iload_n 1, 1) := by decide +kernel
theorem dJ9_max_7cf53_2 : decode cJ9_max_7cf53 2 = .ok (.if_icmp .lt 7, 3) := by decide +kernel
theorem dJ9_max_7cf53_5 : decode cJ9_max_7cf53 5 = .ok (.iload_n 0, 1) := by decide +kernel
theorem dJ9_max_7cf53_6 : decode cJ9_max_7cf53 6 = .ok (.goto 4, 3) := by decide +kernel
theorem dJ9_max_7cf53_9 : decode cJ9_max_7cf53 9 = .ok (.iload_n 1, 1) := by decide +kernel
theorem dJ9_max_7cf53_10 : decode cJ9_max_7cf53 10 = .ok (.ireturn, 1) := by decide +kernel
theorem dJ9_min_7cf53_0 : decode cJ9_min_7cf53 0 = .ok (.iload_n 0, 1) := by decide +kernel
theorem dJ9_min_7cf53_1 : decode cJ9_min_7cf53 1 = .ok (.iload_n 1, 1) := by decide +kernel
theorem dJ9_min_7cf53_2 : decode cJ9_min_7cf53 2 = .ok (.if_icmp .gt 7, 3) := by decide +kernel
theorem dJ9_min_7cf53_5 : decode cJ9_min_7cf53 5 = .ok (.iload_n 0, 1) := by decide +kernel
theorem dJ9_min_7cf53_6 : decode cJ9_min_7cf53 6 = .ok (.goto 4, 3) := by decide +kernel
theorem dJ9_min_7cf53_9 : decode cJ9_min_7cf53 9 = .ok (.iload_n 1, 1) := by decide +kernel
theorem dJ9_min_7cf53_10 : decode cJ9_min_7cf53 10 = .ok (.ireturn, 1) := by decide +kernel
abbrev vwCl : List vw_C := [(RX0, TX0, 2), (RX1, TX1, 2), (RX2, TX2, 8), (RX3, TX3, 2), (RX4, TX4, 14), (RX5, TX5, 2), (RX6, TX6, 4), (RX7, TX7, 22)]
