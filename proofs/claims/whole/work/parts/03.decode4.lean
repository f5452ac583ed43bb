theorem dX7_most_6 : decode cX7_most 6 = .ok (.goto 4, 3) := by decide +kernel
theorem dX7_most_9 : decode cX7_most 9 = .ok (.iload_n 1, 1) := by decide +kernel
theorem dX7_most_10 : decode cX7_most 10 = .ok (.ireturn, 1) := by decide +kernel
theorem dX7_least_0 : decode cX7_least 0 = .ok (.iload_n 0, 1) := by decide +kernel
theorem dX7_least_1 : decode cX7_least 1 = .ok (.iload_n 1, 1) := by decide +kernel
theorem dX7_least_2 : decode cX7_least 2 = .ok (.if_icmp .ge 7, 3) := by decide +kernel
theorem dX7_least_5 : decode cX7_least 5 = .ok (.iload_n 0, 1) := by decide +kernel
theorem dX7_least_6 : decode cX7_least 6 = .ok (.goto 4, 3) := by decide +kernel
theorem dX7_least_9 : decode cX7_least 9 = .ok (.iload_n 1, 1) := by decide +kernel
theorem dX7_least_10 : decode cX7_least 10 = .ok (.ireturn, 1) := by decide +kernel
theorem dX7_add_0 : decode cX7_add 0 = .ok (.iload_n 1, 1) := by decide +kernel
theorem dX7_add_1 : decode cX7_add 1 = .ok (.istore_n 3, 1) := by decide +kernel
theorem dX7_add_2 : decode cX7_add 2 = .ok (.iconst 0, 1) := by decide +kernel
theorem dX7_add_3 : decode cX7_add 3 = .ok (.istore 4, 2) := by decide +kernel
theorem dX7_add_5 : decode cX7_add 5 = .ok (.iload 4, 2) := by decide +kernel
theorem dX7_add_7 : decode cX7_add 7 = .ok (.bipush 12, 2) := by decide +kernel
theorem dX7_add_9 : decode cX7_add 9 = .ok (.if_icmp .ge 42, 3) := by decide +kernel
theorem dX7_add_12 : decode cX7_add 12 = .ok (.iload_n 3, 1) := by decide +kernel
theorem dX7_add_13 : decode cX7_add 13 = .ok (.ifCond .le 38, 3) := by decide +kernel
theorem dX7_add_16 : decode cX7_add 16 = .ok (.aload_n 0, 1) := by decide +kernel
theorem dX7_add_17 : decode cX7_add 17 = .ok (.getfield 32, 3) := by decide +kernel
theorem dX7_add_20 : decode cX7_add 20 = .ok (.iload 4, 2) := by decide +kernel
theorem dX7_add_22 : decode cX7_add 22 = .ok (.iaload, 1) := by decide +kernel
theorem dX7_add_23 : decode cX7_add 23 = .ok (.ifCond .ne 22, 3) := by decide +kernel
theorem dX7_add_26 : decode cX7_add 26 = .ok (.aload_n 0, 1) := by decide +kernel
theorem dX7_add_27 : decode cX7_add 27 = .ok (.getfield 32, 3) := by decide +kernel
theorem dX7_add_30 : decode cX7_add 30 = .ok (.iload 4, 2) := by decide +kernel
theorem dX7_add_32 : decode cX7_add 32 = .ok (.iconst 1, 1) := by decide +kernel
theorem dX7_add_33 : decode cX7_add 33 = .ok (.iastore, 1) := by decide +kernel
theorem dX7_add_34 : decode cX7_add 34 = .ok (.aload_n 0, 1) := by decide +kernel
theorem dX7_add_35 : decode cX7_add 35 = .ok (.getfield 35, 3) := by decide +kernel
theorem dX7_add_38 : decode cX7_add 38 = .ok (.iload 4, 2) := by decide +kernel
theorem dX7_add_40 : decode cX7_add 40 = .ok (.iload_n 2, 1) := by decide +kernel
theorem dX7_add_41 : decode cX7_add 41 = .ok (.iastore, 1) := by decide +kernel
theorem dX7_add_42 : decode cX7_add 42 = .ok (.iinc 3 (-1), 3) := by decide +kernel
theorem dX7_add_45 : decode cX7_add 45 = .ok (.iinc 4 1, 3) := by decide +kernel
theorem dX7_add_48 : decode cX7_add 48 = .ok (.goto (-43), 3) := by decide +kernel
theorem dX7_add_51 : decode cX7_add 51 = .ok (.iload_n 3, 1) := by decide +kernel
theorem dX7_add_52 : decode cX7_add 52 = .ok (.iload_n 1, 1) := by decide +kernel
theorem dX7_add_53 : decode cX7_add 53 = .ok (.if_icmp .ge 7, 3) := by decide +kernel
theorem dX7_add_56 : decode cX7_add 56 = .ok (.iconst 1, 1) := by decide +kernel
theorem dX7_add_57 : decode cX7_add 57 = .ok (.goto 4, 3) := by decide +kernel
theorem dX7_add_60 : decode cX7_add 60 = .ok (.iconst 0, 1) := by decide +kernel
theorem dX7_add_61 : decode cX7_add 61 = .ok (.ireturn, 1) := by decide +kernel
theorem dX7_shed_0 : decode cX7_shed 0 = .ok (.iload_n 1, 1) := by decide +kernel
theorem dX7_shed_1 : decode cX7_shed 1 = .ok (.istore_n 3, 1) := by decide +kernel
theorem dX7_shed_2 : decode cX7_shed 2 = .ok (.bipush 11, 2) := by decide +kernel
theorem dX7_shed_4 : decode cX7_shed 4 = .ok (.istore 4, 2) := by decide +kernel
theorem dX7_shed_6 : decode cX7_shed 6 = .ok (.iload 4, 2) := by decide +kernel
theorem dX7_shed_8 : decode cX7_shed 8 = .ok (.ifCond .lt 35, 3) := by decide +kernel
theorem dX7_shed_11 : decode cX7_shed 11 = .ok (.iload_n 3, 1) := by decide +kernel
theorem dX7_shed_12 : decode cX7_shed 12 = .ok (.ifCond .le 31, 3) := by decide +kernel
theorem dX7_shed_15 : decode cX7_shed 15 = .ok (.aload_n 0, 1) := by decide +kernel
theorem dX7_shed_16 : decode cX7_shed 16 = .ok (.getfield 32, 3) := by decide +kernel
theorem dX7_shed_19 : decode cX7_shed 19 = .ok (.iload 4, 2) := by decide +kernel
theorem dX7_shed_21 : decode cX7_shed 21 = .ok (.iaload, 1) := by decide +kernel
theorem dX7_shed_22 : decode cX7_shed 22 = .ok (.iconst 1, 1) := by decide +kernel
theorem dX7_shed_23 : decode cX7_shed 23 = .ok (.if_icmp .ne 14, 3) := by decide +kernel
theorem dX7_shed_26 : decode cX7_shed 26 = .ok (.aload_n 0, 1) := by decide +kernel
theorem dX7_shed_27 : decode cX7_shed 27 = .ok (.getfield 32, 3) := by decide +kernel
theorem dX7_shed_30 : decode cX7_shed 30 = .ok (.iload 4, 2) := by decide +kernel
theorem dX7_shed_32 : decode cX7_shed 32 = .ok (.iconst 0, 1) := by decide +kernel
theorem dX7_shed_33 : decode cX7_shed 33 = .ok (.iastore, 1) := by decide +kernel
theorem dX7_shed_34 : decode cX7_shed 34 = .ok (.iinc 3 (-1), 3) := by decide +kernel
theorem dX7_shed_37 : decode cX7_shed 37 = .ok (.iinc 4 (-1), 3) := by decide +kernel
theorem dX7_shed_40 : decode cX7_shed 40 = .ok (.goto (-34), 3) := by decide +kernel
theorem dX7_shed_43 : decode cX7_shed 43 = .ok (.bipush 11, 2) := by decide +kernel
theorem dX7_shed_45 : decode cX7_shed 45 = .ok (.istore 4, 2) := by decide +kernel
theorem dX7_shed_47 : decode cX7_shed 47 = .ok (.iload 4, 2) := by decide +kernel
theorem dX7_shed_49 : decode cX7_shed 49 = .ok (.ifCond .lt 43, 3) := by decide +kernel
theorem dX7_shed_52 : decode cX7_shed 52 = .ok (.iload_n 3, 1) := by decide +kernel
theorem dX7_shed_53 : decode cX7_shed 53 = .ok (.ifCond .le 39, 3) := by decide +kernel
theorem dX7_shed_56 : decode cX7_shed 56 = .ok (.aload_n 0, 1) := by decide +kernel
theorem dX7_shed_57 : decode cX7_shed 57 = .ok (.getfield 32, 3) := by decide +kernel
theorem dX7_shed_60 : decode cX7_shed 60 = .ok (.iload 4, 2) := by decide +kernel
theorem dX7_shed_62 : decode cX7_shed 62 = .ok (.iaload, 1) := by decide +kernel
theorem dX7_shed_63 : decode cX7_shed 63 = .ok (.iconst 2, 1) := by decide +kernel
theorem dX7_shed_64 : decode cX7_shed 64 = .ok (.if_icmp .ne 22, 3) := by decide +kernel
theorem dX7_shed_67 : decode cX7_shed 67 = .ok (.aload_n 0, 1) := by decide +kernel
theorem dX7_shed_68 : decode cX7_shed 68 = .ok (.getfield 32, 3) := by decide +kernel
theorem dX7_shed_71 : decode cX7_shed 71 = .ok (.iload 4, 2) := by decide +kernel
theorem dX7_shed_73 : decode cX7_shed 73 = .ok (.iconst 3, 1) := by decide +kernel
theorem dX7_shed_74 : decode cX7_shed 74 = .ok (.iastore, 1) := by decide +kernel
theorem dX7_shed_75 : decode cX7_shed 75 = .ok (.aload_n 0, 1) := by decide +kernel
theorem dX7_shed_76 : decode cX7_shed 76 = .ok (.getfield 35, 3) := by decide +kernel
theorem dX7_shed_79 : decode cX7_shed 79 = .ok (.iload 4, 2) := by decide +kernel
theorem dX7_shed_81 : decode cX7_shed 81 = .ok (.iload_n 2, 1) := by decide +kernel
theorem dX7_shed_82 : decode cX7_shed 82 = .ok (.iastore, 1) := by decide +kernel
theorem dX7_shed_83 : decode cX7_shed 83 = .ok (.iinc 3 (-1), 3) := by decide +kernel
theorem dX7_shed_86 : decode cX7_shed 86 = .ok (.iinc 4 (-1), 3) := by decide +kernel
theorem dX7_shed_89 : decode cX7_shed 89 = .ok (.goto (-42), 3) := by decide +kernel
theorem dX7_shed_92 : decode cX7_shed 92 = .ok (.return_, 1) := by decide +kernel
set_option maxRecDepth 20000 in
theorem ggX7_change_X7_most : GoodIn wsX7_change wsX7_most := goodIn_r _ [7] rfl (by decide +kernel)
set_option maxRecDepth 20000 in
theorem gX7_change_X7_most : GoodIn wsX7_change (va_wsS RX7 107 yX7_most wsX7_most) := goodIn_app (goodIn_of _ (by decide +kernel)) ggX7_change_X7_most
set_option maxRecDepth 20000 in
theorem ggX7_change_X7_least : GoodIn wsX7_change wsX7_least := goodIn_r _ [10] rfl (by decide +kernel)
set_option maxRecDepth 20000 in
theorem gX7_change_X7_least : GoodIn wsX7_change (va_wsS RX7 111 yX7_least wsX7_least) := goodIn_app (goodIn_of _ (by decide +kernel)) ggX7_change_X7_least
set_option maxRecDepth 20000 in
theorem ggX7_change_X7_wantedBy : GoodIn wsX7_change wsX7_wantedBy := goodIn_r _ [14, 3, 2, 15, 16, 17, 6, 18, 19, 20, 21, 22, 23, 33, 34, 35, 36, 37, 38, 39, 40, 41, 42, 43, 44, 45, 46, 47, 48, 49, 50, 51, 52, 53, 54] rfl (by decide +kernel)
set_option maxRecDepth 20000 in
theorem gX7_change_X7_wantedBy : GoodIn wsX7_change (wsV RX7 114 RX7 yX7_wantedBy wsX7_wantedBy) := goodIn_app (goodIn_of _ (by decide +kernel)) ggX7_change_X7_wantedBy
set_option maxRecDepth 20000 in
theorem ggX7_change_X7_up : GoodIn wsX7_change wsX7_up := goodIn_r _ [18, 19, 20, 21, 6, 22, 23, 33, 34, 35, 36, 37, 38, 39, 40, 41, 42, 43, 44, 45, 46, 47, 48, 49, 50, 51, 52, 53, 54] rfl (by decide +kernel)
set_option maxRecDepth 20000 in
theorem gX7_change_X7_up : GoodIn wsX7_change (wsV RX7 103 RX7 yX7_up wsX7_up) := goodIn_app (goodIn_of _ (by decide +kernel)) ggX7_change_X7_up
set_option maxRecDepth 20000 in
theorem ggX7_change_X7_add : GoodIn wsX7_change wsX7_add := goodIn_r _ [27, 23, 28, 33, 34, 35, 36, 37, 38, 39, 40, 41, 42, 43, 44, 45, 46, 47, 48, 49, 50, 51, 52, 53, 54] rfl (by decide +kernel)
set_option maxRecDepth 20000 in
theorem gX7_change_X7_add : GoodIn wsX7_change (wsV RX7 117 RX7 yX7_add wsX7_add) := goodIn_app (goodIn_of _ (by decide +kernel)) ggX7_change_X7_add
set_option maxRecDepth 20000 in
theorem ggX7_change_X7_shed : GoodIn wsX7_change wsX7_shed := goodIn_r _ [32, 23, 28, 33, 34, 35, 36, 37, 38, 39, 40, 41, 42, 43, 44, 45, 46, 47, 48, 49, 50, 51, 52, 53, 54] rfl (by decide +kernel)
set_option maxRecDepth 20000 in
theorem gX7_change_X7_shed : GoodIn wsX7_change (wsV RX7 121 RX7 yX7_shed wsX7_shed) := goodIn_app (goodIn_of _ (by decide +kernel)) ggX7_change_X7_shed
theorem dX7_change_0 : decode cX7_change 0 = .ok (.aload_n 0, 1) := by decide +kernel
theorem dX7_change_1 : decode cX7_change 1 = .ok (.getfield 26, 3) := by decide +kernel
theorem dX7_change_4 : decode cX7_change 4 = .ok (.iload_n 1, 1) := by decide +kernel
theorem dX7_change_5 : decode cX7_change 5 = .ok (.bipush 24, 2) := by decide +kernel
theorem dX7_change_7 : decode cX7_change 7 = .ok (.irem, 1) := by decide +kernel
theorem dX7_change_8 : decode cX7_change 8 = .ok (.iaload, 1) := by decide +kernel
theorem dX7_change_9 : decode cX7_change 9 = .ok (.aload_n 0, 1) := by decide +kernel
theorem dX7_change_10 : decode cX7_change 10 = .ok (.getfield 7, 3) := by decide +kernel
theorem dX7_change_13 : decode cX7_change 13 = .ok (.bipush 7, 2) := by decide +kernel
theorem dX7_change_15 : decode cX7_change 15 = .ok (.iaload, 1) := by decide +kernel
theorem dX7_change_16 : decode cX7_change 16 = .ok (.invokestatic 107, 3) := by decide +kernel
theorem dX7_change_19 : decode cX7_change 19 = .ok (.aload_n 0, 1) := by decide +kernel
theorem dX7_change_20 : decode cX7_change 20 = .ok (.getfield 7, 3) := by decide +kernel
theorem dX7_change_23 : decode cX7_change 23 = .ok (.bipush 8, 2) := by decide +kernel
theorem dX7_change_25 : decode cX7_change 25 = .ok (.iaload, 1) := by decide +kernel
theorem dX7_change_26 : decode cX7_change 26 = .ok (.invokestatic 111, 3) := by decide +kernel
theorem dX7_change_29 : decode cX7_change 29 = .ok (.istore_n 2, 1) := by decide +kernel
theorem dX7_change_30 : decode cX7_change 30 = .ok (.aload_n 0, 1) := by decide +kernel
theorem dX7_change_31 : decode cX7_change 31 = .ok (.invokevirtual 114, 3) := by decide +kernel
theorem dX7_change_34 : decode cX7_change 34 = .ok (.aload_n 0, 1) := by decide +kernel
theorem dX7_change_35 : decode cX7_change 35 = .ok (.getfield 26, 3) := by decide +kernel
theorem dX7_change_38 : decode cX7_change 38 = .ok (.iload_n 1, 1) := by decide +kernel
theorem dX7_change_39 : decode cX7_change 39 = .ok (.bipush 24, 2) := by decide +kernel
theorem dX7_change_41 : decode cX7_change 41 = .ok (.irem, 1) := by decide +kernel
theorem dX7_change_42 : decode cX7_change 42 = .ok (.iaload, 1) := by decide +kernel
theorem dX7_change_43 : decode cX7_change 43 = .ok (.aload_n 0, 1) := by decide +kernel
theorem dX7_change_44 : decode cX7_change 44 = .ok (.getfield 7, 3) := by decide +kernel
theorem dX7_change_47 : decode cX7_change 47 = .ok (.bipush 7, 2) := by decide +kernel
theorem dX7_change_49 : decode cX7_change 49 = .ok (.iaload, 1) := by decide +kernel
theorem dX7_change_50 : decode cX7_change 50 = .ok (.invokestatic 107, 3) := by decide +kernel
theorem dX7_change_53 : decode cX7_change 53 = .ok (.invokestatic 107, 3) := by decide +kernel
theorem dX7_change_56 : decode cX7_change 56 = .ok (.aload_n 0, 1) := by decide +kernel
theorem dX7_change_57 : decode cX7_change 57 = .ok (.getfield 7, 3) := by decide +kernel
theorem dX7_change_60 : decode cX7_change 60 = .ok (.bipush 8, 2) := by decide +kernel
theorem dX7_change_62 : decode cX7_change 62 = .ok (.iaload, 1) := by decide +kernel
theorem dX7_change_63 : decode cX7_change 63 = .ok (.invokestatic 111, 3) := by decide +kernel
theorem dX7_change_66 : decode cX7_change 66 = .ok (.istore_n 3, 1) := by decide +kernel
theorem dX7_change_67 : decode cX7_change 67 = .ok (.aload_n 0, 1) := by decide +kernel
theorem dX7_change_68 : decode cX7_change 68 = .ok (.getfield 29, 3) := by decide +kernel
theorem dX7_change_71 : decode cX7_change 71 = .ok (.iconst 5, 1) := by decide +kernel
theorem dX7_change_72 : decode cX7_change 72 = .ok (.iload_n 3, 1) := by decide +kernel
theorem dX7_change_73 : decode cX7_change 73 = .ok (.iastore, 1) := by decide +kernel
theorem dX7_change_74 : decode cX7_change 74 = .ok (.aload_n 0, 1) := by decide +kernel
theorem dX7_change_75 : decode cX7_change 75 = .ok (.invokevirtual 103, 3) := by decide +kernel
theorem dX7_change_78 : decode cX7_change 78 = .ok (.istore 4, 2) := by decide +kernel
theorem dX7_change_80 : decode cX7_change 80 = .ok (.aload_n 0, 1) := by decide +kernel
theorem dX7_change_81 : decode cX7_change 81 = .ok (.getfield 29, 3) := by decide +kernel
theorem dX7_change_84 : decode cX7_change 84 = .ok (.bipush 6, 2) := by decide +kernel
theorem dX7_change_86 : decode cX7_change 86 = .ok (.iaload, 1) := by decide +kernel
theorem dX7_change_87 : decode cX7_change 87 = .ok (.ifCond .lt 26, 3) := by decide +kernel
theorem dX7_change_90 : decode cX7_change 90 = .ok (.iload_n 1, 1) := by decide +kernel
theorem dX7_change_91 : decode cX7_change 91 = .ok (.aload_n 0, 1) := by decide +kernel
theorem dX7_change_92 : decode cX7_change 92 = .ok (.getfield 29, 3) := by decide +kernel
theorem dX7_change_95 : decode cX7_change 95 = .ok (.bipush 6, 2) := by decide +kernel
theorem dX7_change_97 : decode cX7_change 97 = .ok (.iaload, 1) := by decide +kernel
theorem dX7_change_98 : decode cX7_change 98 = .ok (.isub, 1) := by decide +kernel
theorem dX7_change_99 : decode cX7_change 99 = .ok (.aload_n 0, 1) := by decide +kernel
theorem dX7_change_100 : decode cX7_change 100 = .ok (.getfield 7, 3) := by decide +kernel
theorem dX7_change_103 : decode cX7_change 103 = .ok (.bipush 9, 2) := by decide +kernel
theorem dX7_change_105 : decode cX7_change 105 = .ok (.iaload, 1) := by decide +kernel
theorem dX7_change_106 : decode cX7_change 106 = .ok (.if_icmp .ge 7, 3) := by decide +kernel
theorem dX7_change_109 : decode cX7_change 109 = .ok (.iconst 1, 1) := by decide +kernel
theorem dX7_change_110 : decode cX7_change 110 = .ok (.goto 4, 3) := by decide +kernel
theorem dX7_change_113 : decode cX7_change 113 = .ok (.iconst 0, 1) := by decide +kernel
theorem dX7_change_114 : decode cX7_change 114 = .ok (.istore 5, 2) := by decide +kernel
theorem dX7_change_116 : decode cX7_change 116 = .ok (.iload 5, 2) := by decide +kernel
theorem dX7_change_118 : decode cX7_change 118 = .ok (.ifCond .ne 7, 3) := by decide +kernel
theorem dX7_change_121 : decode cX7_change 121 = .ok (.iload_n 3, 1) := by decide +kernel
theorem dX7_change_122 : decode cX7_change 122 = .ok (.goto 15, 3) := by decide +kernel
theorem dX7_change_125 : decode cX7_change 125 = .ok (.iload 4, 2) := by decide +kernel
theorem dX7_change_127 : decode cX7_change 127 = .ok (.iload_n 2, 1) := by decide +kernel
theorem dX7_change_128 : decode cX7_change 128 = .ok (.if_icmp .ge 7, 3) := by decide +kernel
theorem dX7_change_131 : decode cX7_change 131 = .ok (.iload_n 2, 1) := by decide +kernel
theorem dX7_change_132 : decode cX7_change 132 = .ok (.goto 5, 3) := by decide +kernel
theorem dX7_change_135 : decode cX7_change 135 = .ok (.iload 4, 2) := by decide +kernel
theorem dX7_change_137 : decode cX7_change 137 = .ok (.istore 6, 2) := by decide +kernel
theorem dX7_change_139 : decode cX7_change 139 = .ok (.iconst 0, 1) := by decide +kernel
theorem dX7_change_140 : decode cX7_change 140 = .ok (.istore 7, 2) := by decide +kernel
theorem dX7_change_142 : decode cX7_change 142 = .ok (.iload 6, 2) := by decide +kernel
theorem dX7_change_144 : decode cX7_change 144 = .ok (.iload 4, 2) := by decide +kernel
theorem dX7_change_146 : decode cX7_change 146 = .ok (.if_icmp .le 18, 3) := by decide +kernel
theorem dX7_change_149 : decode cX7_change 149 = .ok (.aload_n 0, 1) := by decide +kernel
theorem dX7_change_150 : decode cX7_change 150 = .ok (.iload 6, 2) := by decide +kernel
theorem dX7_change_152 : decode cX7_change 152 = .ok (.iload 4, 2) := by decide +kernel
theorem dX7_change_154 : decode cX7_change 154 = .ok (.isub, 1) := by decide +kernel
theorem dX7_change_155 : decode cX7_change 155 = .ok (.iload_n 1, 1) := by decide +kernel
theorem dX7_change_156 : decode cX7_change 156 = .ok (.invokevirtual 117, 3) := by decide +kernel
theorem dX7_change_159 : decode cX7_change 159 = .ok (.istore 7, 2) := by decide +kernel
theorem dX7_change_161 : decode cX7_change 161 = .ok (.goto 23, 3) := by decide +kernel
theorem dX7_change_164 : decode cX7_change 164 = .ok (.iload 6, 2) := by decide +kernel
theorem dX7_change_166 : decode cX7_change 166 = .ok (.iload 4, 2) := by decide +kernel
theorem dX7_change_168 : decode cX7_change 168 = .ok (.if_icmp .ge 16, 3) := by decide +kernel
theorem dX7_change_171 : decode cX7_change 171 = .ok (.aload_n 0, 1) := by decide +kernel
theorem dX7_change_172 : decode cX7_change 172 = .ok (.iload 4, 2) := by decide +kernel
theorem dX7_change_174 : decode cX7_change 174 = .ok (.iload 6, 2) := by decide +kernel
theorem dX7_change_176 : decode cX7_change 176 = .ok (.isub, 1) := by decide +kernel
theorem dX7_change_177 : decode cX7_change 177 = .ok (.iload_n 1, 1) := by decide +kernel
theorem dX7_change_178 : decode cX7_change 178 = .ok (.invokevirtual 121, 3) := by decide +kernel
theorem dX7_change_181 : decode cX7_change 181 = .ok (.iconst 1, 1) := by decide +kernel
theorem dX7_change_182 : decode cX7_change 182 = .ok (.istore 7, 2) := by decide +kernel
theorem dX7_change_184 : decode cX7_change 184 = .ok (.aload_n 0, 1) := by decide +kernel
theorem dX7_change_185 : decode cX7_change 185 = .ok (.getfield 29, 3) := by decide +kernel
theorem dX7_change_188 : decode cX7_change 188 = .ok (.bipush 6, 2) := by decide +kernel
theorem dX7_change_190 : decode cX7_change 190 = .ok (.iload 7, 2) := by decide +kernel
theorem dX7_change_192 : decode cX7_change 192 = .ok (.ifCond .eq 7, 3) := by decide +kernel
theorem dX7_change_195 : decode cX7_change 195 = .ok (.iload_n 1, 1) := by decide +kernel
theorem dX7_change_196 : decode cX7_change 196 = .ok (.goto 10, 3) := by decide +kernel
theorem dX7_change_199 : decode cX7_change 199 = .ok (.aload_n 0, 1) := by decide +kernel
theorem dX7_change_200 : decode cX7_change 200 = .ok (.getfield 29, 3) := by decide +kernel
theorem dX7_change_203 : decode cX7_change 203 = .ok (.bipush 6, 2) := by decide +kernel
theorem dX7_change_205 : decode cX7_change 205 = .ok (.iaload, 1) := by decide +kernel
theorem dX7_change_206 : decode cX7_change 206 = .ok (.iastore, 1) := by decide +kernel
theorem dX7_change_207 : decode cX7_change 207 = .ok (.return_, 1) := by decide +kernel
set_option maxRecDepth 20000 in
theorem ggX7_serve_X7_least : GoodIn wsX7_serve wsX7_least := goodIn_r _ [6] rfl (by decide +kernel)
set_option maxRecDepth 20000 in
theorem gX7_serve_X7_least : GoodIn wsX7_serve (va_wsS RX7 111 yX7_least wsX7_least) := goodIn_app (goodIn_of _ (by decide +kernel)) ggX7_serve_X7_least
theorem dX7_serve_0 : decode cX7_serve 0 = .ok (.iload_n 1, 1) := by decide +kernel
theorem dX7_serve_1 : decode cX7_serve 1 = .ok (.istore_n 2, 1) := by decide +kernel
theorem dX7_serve_2 : decode cX7_serve 2 = .ok (.iconst 0, 1) := by decide +kernel
theorem dX7_serve_3 : decode cX7_serve 3 = .ok (.istore_n 3, 1) := by decide +kernel
theorem dX7_serve_4 : decode cX7_serve 4 = .ok (.iload_n 3, 1) := by decide +kernel
theorem dX7_serve_5 : decode cX7_serve 5 = .ok (.aload_n 0, 1) := by decide +kernel
theorem dX7_serve_6 : decode cX7_serve 6 = .ok (.getfield 53, 3) := by decide +kernel
theorem dX7_serve_9 : decode cX7_serve 9 = .ok (.iconst 0, 1) := by decide +kernel
theorem dX7_serve_10 : decode cX7_serve 10 = .ok (.iaload, 1) := by decide +kernel
theorem dX7_serve_11 : decode cX7_serve 11 = .ok (.if_icmp .ge 37, 3) := by decide +kernel
theorem dX7_serve_14 : decode cX7_serve 14 = .ok (.iload_n 2, 1) := by decide +kernel
theorem dX7_serve_15 : decode cX7_serve 15 = .ok (.aload_n 0, 1) := by decide +kernel
theorem dX7_serve_16 : decode cX7_serve 16 = .ok (.getfield 44, 3) := by decide +kernel
theorem dX7_serve_19 : decode cX7_serve 19 = .ok (.iload_n 3, 1) := by decide +kernel
theorem dX7_serve_20 : decode cX7_serve 20 = .ok (.iaload, 1) := by decide +kernel
theorem dX7_serve_21 : decode cX7_serve 21 = .ok (.invokestatic 111, 3) := by decide +kernel
theorem dX7_serve_24 : decode cX7_serve 24 = .ok (.istore 4, 2) := by decide +kernel
theorem dX7_serve_26 : decode cX7_serve 26 = .ok (.aload_n 0, 1) := by decide +kernel
theorem dX7_serve_27 : decode cX7_serve 27 = .ok (.getfield 44, 3) := by decide +kernel
theorem dX7_serve_30 : decode cX7_serve 30 = .ok (.iload_n 3, 1) := by decide +kernel
theorem dX7_serve_31 : decode cX7_serve 31 = .ok (.dup2, 1) := by decide +kernel
theorem dX7_serve_32 : decode cX7_serve 32 = .ok (.iaload, 1) := by decide +kernel
theorem dX7_serve_33 : decode cX7_serve 33 = .ok (.iload 4, 2) := by decide +kernel
theorem dX7_serve_35 : decode cX7_serve 35 = .ok (.isub, 1) := by decide +kernel
theorem dX7_serve_36 : decode cX7_serve 36 = .ok (.iastore, 1) := by decide +kernel
theorem dX7_serve_37 : decode cX7_serve 37 = .ok (.iload_n 2, 1) := by decide +kernel
theorem dX7_serve_38 : decode cX7_serve 38 = .ok (.iload 4, 2) := by decide +kernel
theorem dX7_serve_40 : decode cX7_serve 40 = .ok (.isub, 1) := by decide +kernel
theorem dX7_serve_41 : decode cX7_serve 41 = .ok (.istore_n 2, 1) := by decide +kernel
theorem dX7_serve_42 : decode cX7_serve 42 = .ok (.iinc 3 1, 3) := by decide +kernel
theorem dX7_serve_45 : decode cX7_serve 45 = .ok (.goto (-41), 3) := by decide +kernel
theorem dX7_serve_48 : decode cX7_serve 48 = .ok (.iload_n 1, 1) := by decide +kernel
theorem dX7_serve_49 : decode cX7_serve 49 = .ok (.iload_n 2, 1) := by decide +kernel
theorem dX7_serve_50 : decode cX7_serve 50 = .ok (.isub, 1) := by decide +kernel
theorem dX7_serve_51 : decode cX7_serve 51 = .ok (.ireturn, 1) := by decide +kernel
theorem dX7_goAway_0 : decode cX7_goAway 0 = .ok (.iconst 0, 1) := by decide +kernel
theorem dX7_goAway_1 : decode cX7_goAway 1 = .ok (.istore_n 2, 1) := by decide +kernel
theorem dX7_goAway_2 : decode cX7_goAway 2 = .ok (.iconst 0, 1) := by decide +kernel
theorem dX7_goAway_3 : decode cX7_goAway 3 = .ok (.istore_n 3, 1) := by decide +kernel
theorem dX7_goAway_4 : decode cX7_goAway 4 = .ok (.aload_n 0, 1) := by decide +kernel
theorem dX7_goAway_5 : decode cX7_goAway 5 = .ok (.getfield 53, 3) := by decide +kernel
theorem dX7_goAway_8 : decode cX7_goAway 8 = .ok (.iconst 1, 1) := by decide +kernel
theorem dX7_goAway_9 : decode cX7_goAway 9 = .ok (.iconst 0, 1) := by decide +kernel
theorem dX7_goAway_10 : decode cX7_goAway 10 = .ok (.iastore, 1) := by decide +kernel
theorem dX7_goAway_11 : decode cX7_goAway 11 = .ok (.iconst 0, 1) := by decide +kernel
theorem dX7_goAway_12 : decode cX7_goAway 12 = .ok (.istore 4, 2) := by decide +kernel
theorem dX7_goAway_14 : decode cX7_goAway 14 = .ok (.iload 4, 2) := by decide +kernel
theorem dX7_goAway_16 : decode cX7_goAway 16 = .ok (.aload_n 0, 1) := by decide +kernel
theorem dX7_goAway_17 : decode cX7_goAway 17 = .ok (.getfield 53, 3) := by decide +kernel
theorem dX7_goAway_20 : decode cX7_goAway 20 = .ok (.iconst 0, 1) := by decide +kernel
theorem dX7_goAway_21 : decode cX7_goAway 21 = .ok (.iaload, 1) := by decide +kernel
theorem dX7_goAway_22 : decode cX7_goAway 22 = .ok (.if_icmp .ge 188, 3) := by decide +kernel
theorem dX7_goAway_25 : decode cX7_goAway 25 = .ok (.aload_n 0, 1) := by decide +kernel
theorem dX7_goAway_26 : decode cX7_goAway 26 = .ok (.getfield 38, 3) := by decide +kernel
theorem dX7_goAway_29 : decode cX7_goAway 29 = .ok (.iload 4, 2) := by decide +kernel
theorem dX7_goAway_31 : decode cX7_goAway 31 = .ok (.iaload, 1) := by decide +kernel
theorem dX7_goAway_32 : decode cX7_goAway 32 = .ok (.iload_n 1, 1) := by decide +kernel
theorem dX7_goAway_33 : decode cX7_goAway 33 = .ok (.aload_n 0, 1) := by decide +kernel
theorem dX7_goAway_34 : decode cX7_goAway 34 = .ok (.getfield 7, 3) := by decide +kernel
theorem dX7_goAway_37 : decode cX7_goAway 37 = .ok (.iconst 3, 1) := by decide +kernel
theorem dX7_goAway_38 : decode cX7_goAway 38 = .ok (.iaload, 1) := by decide +kernel
theorem dX7_goAway_39 : decode cX7_goAway 39 = .ok (.isub, 1) := by decide +kernel
theorem dX7_goAway_40 : decode cX7_goAway 40 = .ok (.iconst 1, 1) := by decide +kernel
theorem dX7_goAway_41 : decode cX7_goAway 41 = .ok (.iadd, 1) := by decide +kernel
theorem dX7_goAway_42 : decode cX7_goAway 42 = .ok (.if_icmp .gt 7, 3) := by decide +kernel
theorem dX7_goAway_45 : decode cX7_goAway 45 = .ok (.iconst 1, 1) := by decide +kernel
theorem dX7_goAway_46 : decode cX7_goAway 46 = .ok (.goto 4, 3) := by decide +kernel
theorem dX7_goAway_49 : decode cX7_goAway 49 = .ok (.iconst 0, 1) := by decide +kernel
theorem dX7_goAway_50 : decode cX7_goAway 50 = .ok (.istore 5, 2) := by decide +kernel
theorem dX7_goAway_52 : decode cX7_goAway 52 = .ok (.iload 5, 2) := by decide +kernel
theorem dX7_goAway_54 : decode cX7_goAway 54 = .ok (.ifCond .eq 80, 3) := by decide +kernel
theorem dX7_goAway_57 : decode cX7_goAway 57 = .ok (.aload_n 0, 1) := by decide +kernel
theorem dX7_goAway_58 : decode cX7_goAway 58 = .ok (.getfield 41, 3) := by decide +kernel
theorem dX7_goAway_61 : decode cX7_goAway 61 = .ok (.iload 4, 2) := by decide +kernel
theorem dX7_goAway_63 : decode cX7_goAway 63 = .ok (.iaload, 1) := by decide +kernel
theorem dX7_goAway_64 : decode cX7_goAway 64 = .ok (.aload_n 0, 1) := by decide +kernel
theorem dX7_goAway_65 : decode cX7_goAway 65 = .ok (.getfield 7, 3) := by decide +kernel
theorem dX7_goAway_68 : decode cX7_goAway 68 = .ok (.iconst 4, 1) := by decide +kernel
theorem dX7_goAway_69 : decode cX7_goAway 69 = .ok (.iaload, 1) := by decide +kernel
theorem dX7_goAway_70 : decode cX7_goAway 70 = .ok (.if_icmp .ge 64, 3) := by decide +kernel
theorem dX7_goAway_73 : decode cX7_goAway 73 = .ok (.aload_n 0, 1) := by decide +kernel
theorem dX7_goAway_74 : decode cX7_goAway 74 = .ok (.getfield 44, 3) := by decide +kernel
theorem dX7_goAway_77 : decode cX7_goAway 77 = .ok (.iload 4, 2) := by decide +kernel
theorem dX7_goAway_79 : decode cX7_goAway 79 = .ok (.iaload, 1) := by decide +kernel
theorem dX7_goAway_80 : decode cX7_goAway 80 = .ok (.ifCond .le 124, 3) := by decide +kernel
theorem dX7_goAway_83 : decode cX7_goAway 83 = .ok (.aload_n 0, 1) := by decide +kernel
theorem dX7_goAway_84 : decode cX7_goAway 84 = .ok (.getfield 47, 3) := by decide +kernel
theorem dX7_goAway_87 : decode cX7_goAway 87 = .ok (.aload_n 0, 1) := by decide +kernel
theorem dX7_goAway_88 : decode cX7_goAway 88 = .ok (.getfield 53, 3) := by decide +kernel
theorem dX7_goAway_91 : decode cX7_goAway 91 = .ok (.iconst 1, 1) := by decide +kernel
theorem dX7_goAway_92 : decode cX7_goAway 92 = .ok (.iaload, 1) := by decide +kernel
theorem dX7_goAway_93 : decode cX7_goAway 93 = .ok (.aload_n 0, 1) := by decide +kernel
theorem dX7_goAway_94 : decode cX7_goAway 94 = .ok (.getfield 41, 3) := by decide +kernel
theorem dX7_goAway_97 : decode cX7_goAway 97 = .ok (.iload 4, 2) := by decide +kernel
theorem dX7_goAway_99 : decode cX7_goAway 99 = .ok (.iaload, 1) := by decide +kernel
theorem dX7_goAway_100 : decode cX7_goAway 100 = .ok (.iconst 1, 1) := by decide +kernel
theorem dX7_goAway_101 : decode cX7_goAway 101 = .ok (.iadd, 1) := by decide +kernel
theorem dX7_goAway_102 : decode cX7_goAway 102 = .ok (.iastore, 1) := by decide +kernel
theorem dX7_goAway_103 : decode cX7_goAway 103 = .ok (.aload_n 0, 1) := by decide +kernel
theorem dX7_goAway_104 : decode cX7_goAway 104 = .ok (.getfield 50, 3) := by decide +kernel
theorem dX7_goAway_107 : decode cX7_goAway 107 = .ok (.aload_n 0, 1) := by decide +kernel
theorem dX7_goAway_108 : decode cX7_goAway 108 = .ok (.getfield 53, 3) := by decide +kernel
theorem dX7_goAway_111 : decode cX7_goAway 111 = .ok (.iconst 1, 1) := by decide +kernel
theorem dX7_goAway_112 : decode cX7_goAway 112 = .ok (.iaload, 1) := by decide +kernel
theorem dX7_goAway_113 : decode cX7_goAway 113 = .ok (.aload_n 0, 1) := by decide +kernel
theorem dX7_goAway_114 : decode cX7_goAway 114 = .ok (.getfield 44, 3) := by decide +kernel
theorem dX7_goAway_117 : decode cX7_goAway 117 = .ok (.iload 4, 2) := by decide +kernel
theorem dX7_goAway_119 : decode cX7_goAway 119 = .ok (.iaload, 1) := by decide +kernel
theorem dX7_goAway_120 : decode cX7_goAway 120 = .ok (.iastore, 1) := by decide +kernel
theorem dX7_goAway_121 : decode cX7_goAway 121 = .ok (.aload_n 0, 1) := by decide +kernel
theorem dX7_goAway_122 : decode cX7_goAway 122 = .ok (.getfield 53, 3) := by decide +kernel
theorem dX7_goAway_125 : decode cX7_goAway 125 = .ok (.iconst 1, 1) := by decide +kernel
theorem dX7_goAway_126 : decode cX7_goAway 126 = .ok (.dup2, 1) := by decide +kernel
theorem dX7_goAway_127 : decode cX7_goAway 127 = .ok (.iaload, 1) := by decide +kernel
theorem dX7_goAway_128 : decode cX7_goAway 128 = .ok (.iconst 1, 1) := by decide +kernel
theorem dX7_goAway_129 : decode cX7_goAway 129 = .ok (.iadd, 1) := by decide +kernel
theorem dX7_goAway_130 : decode cX7_goAway 130 = .ok (.iastore, 1) := by decide +kernel
theorem dX7_goAway_131 : decode cX7_goAway 131 = .ok (.goto 73, 3) := by decide +kernel
theorem dX7_goAway_134 : decode cX7_goAway 134 = .ok (.iload 5, 2) := by decide +kernel
theorem dX7_goAway_136 : decode cX7_goAway 136 = .ok (.ifCond .eq 16, 3) := by decide +kernel
theorem dX7_goAway_139 : decode cX7_goAway 139 = .ok (.iload_n 2, 1) := by decide +kernel
theorem dX7_goAway_140 : decode cX7_goAway 140 = .ok (.aload_n 0, 1) := by decide +kernel
theorem dX7_goAway_141 : decode cX7_goAway 141 = .ok (.getfield 44, 3) := by decide +kernel
theorem dX7_goAway_144 : decode cX7_goAway 144 = .ok (.iload 4, 2) := by decide +kernel
theorem dX7_goAway_146 : decode cX7_goAway 146 = .ok (.iaload, 1) := by decide +kernel
theorem dX7_goAway_147 : decode cX7_goAway 147 = .ok (.iadd, 1) := by decide +kernel
theorem dX7_goAway_148 : decode cX7_goAway 148 = .ok (.istore_n 2, 1) := by decide +kernel
theorem dX7_goAway_149 : decode cX7_goAway 149 = .ok (.goto 55, 3) := by decide +kernel
theorem dX7_goAway_152 : decode cX7_goAway 152 = .ok (.aload_n 0, 1) := by decide +kernel
theorem dX7_goAway_153 : decode cX7_goAway 153 = .ok (.getfield 44, 3) := by decide +kernel
theorem dX7_goAway_156 : decode cX7_goAway 156 = .ok (.iload 4, 2) := by decide +kernel
theorem dX7_goAway_158 : decode cX7_goAway 158 = .ok (.iaload, 1) := by decide +kernel
theorem dX7_goAway_159 : decode cX7_goAway 159 = .ok (.ifCond .le 45, 3) := by decide +kernel
theorem dX7_goAway_162 : decode cX7_goAway 162 = .ok (.aload_n 0, 1) := by decide +kernel
theorem dX7_goAway_163 : decode cX7_goAway 163 = .ok (.getfield 38, 3) := by decide +kernel
theorem dX7_goAway_166 : decode cX7_goAway 166 = .ok (.iload_n 3, 1) := by decide +kernel
theorem dX7_goAway_167 : decode cX7_goAway 167 = .ok (.aload_n 0, 1) := by decide +kernel
theorem dX7_goAway_168 : decode cX7_goAway 168 = .ok (.getfield 38, 3) := by decide +kernel
theorem dX7_goAway_171 : decode cX7_goAway 171 = .ok (.iload 4, 2) := by decide +kernel
theorem dX7_goAway_173 : decode cX7_goAway 173 = .ok (.iaload, 1) := by decide +kernel
theorem dX7_goAway_174 : decode cX7_goAway 174 = .ok (.iastore, 1) := by decide +kernel
theorem dX7_goAway_175 : decode cX7_goAway 175 = .ok (.aload_n 0, 1) := by decide +kernel
theorem dX7_goAway_176 : decode cX7_goAway 176 = .ok (.getfield 41, 3) := by decide +kernel
theorem dX7_goAway_179 : decode cX7_goAway 179 = .ok (.iload_n 3, 1) := by decide +kernel
theorem dX7_goAway_180 : decode cX7_goAway 180 = .ok (.aload_n 0, 1) := by decide +kernel
theorem dX7_goAway_181 : decode cX7_goAway 181 = .ok (.getfield 41, 3) := by decide +kernel
theorem dX7_goAway_184 : decode cX7_goAway 184 = .ok (.iload 4, 2) := by decide +kernel
theorem dX7_goAway_186 : decode cX7_goAway 186 = .ok (.iaload, 1) := by decide +kernel
theorem dX7_goAway_187 : decode cX7_goAway 187 = .ok (.iastore, 1) := by decide +kernel
theorem dX7_goAway_188 : decode cX7_goAway 188 = .ok (.aload_n 0, 1) := by decide +kernel
theorem dX7_goAway_189 : decode cX7_goAway 189 = .ok (.getfield 44, 3) := by decide +kernel
theorem dX7_goAway_192 : decode cX7_goAway 192 = .ok (.iload_n 3, 1) := by decide +kernel
theorem dX7_goAway_193 : decode cX7_goAway 193 = .ok (.aload_n 0, 1) := by decide +kernel
theorem dX7_goAway_194 : decode cX7_goAway 194 = .ok (.getfield 44, 3) := by decide +kernel
theorem dX7_goAway_197 : decode cX7_goAway 197 = .ok (.iload 4, 2) := by decide +kernel
theorem dX7_goAway_199 : decode cX7_goAway 199 = .ok (.iaload, 1) := by decide +kernel
theorem dX7_goAway_200 : decode cX7_goAway 200 = .ok (.iastore, 1) := by decide +kernel
theorem dX7_goAway_201 : decode cX7_goAway 201 = .ok (.iinc 3 1, 3) := by decide +kernel
theorem dX7_goAway_204 : decode cX7_goAway 204 = .ok (.iinc 4 1, 3) := by decide +kernel
theorem dX7_goAway_207 : decode cX7_goAway 207 = .ok (.goto (-193), 3) := by decide +kernel
theorem dX7_goAway_210 : decode cX7_goAway 210 = .ok (.aload_n 0, 1) := by decide +kernel
theorem dX7_goAway_211 : decode cX7_goAway 211 = .ok (.getfield 53, 3) := by decide +kernel
theorem dX7_goAway_214 : decode cX7_goAway 214 = .ok (.iconst 0, 1) := by decide +kernel
theorem dX7_goAway_215 : decode cX7_goAway 215 = .ok (.iload_n 3, 1) := by decide +kernel
theorem dX7_goAway_216 : decode cX7_goAway 216 = .ok (.iastore, 1) := by decide +kernel
theorem dX7_goAway_217 : decode cX7_goAway 217 = .ok (.iload_n 2, 1) := by decide +kernel
theorem dX7_goAway_218 : decode cX7_goAway 218 = .ok (.ireturn, 1) := by decide +kernel
theorem dX7_join_0 : decode cX7_join 0 = .ok (.iload_n 3, 1) := by decide +kernel
theorem dX7_join_1 : decode cX7_join 1 = .ok (.ifCond .le 49, 3) := by decide +kernel
theorem dX7_join_4 : decode cX7_join 4 = .ok (.aload_n 0, 1) := by decide +kernel
theorem dX7_join_5 : decode cX7_join 5 = .ok (.getfield 38, 3) := by decide +kernel
theorem dX7_join_8 : decode cX7_join 8 = .ok (.aload_n 0, 1) := by decide +kernel
theorem dX7_join_9 : decode cX7_join 9 = .ok (.getfield 53, 3) := by decide +kernel
theorem dX7_join_12 : decode cX7_join 12 = .ok (.iconst 0, 1) := by decide +kernel
theorem dX7_join_13 : decode cX7_join 13 = .ok (.iaload, 1) := by decide +kernel
theorem dX7_join_14 : decode cX7_join 14 = .ok (.iload_n 1, 1) := by decide +kernel
theorem dX7_join_15 : decode cX7_join 15 = .ok (.iastore, 1) := by decide +kernel
theorem dX7_join_16 : decode cX7_join 16 = .ok (.aload_n 0, 1) := by decide +kernel
theorem dX7_join_17 : decode cX7_join 17 = .ok (.getfield 41, 3) := by decide +kernel
theorem dX7_join_20 : decode cX7_join 20 = .ok (.aload_n 0, 1) := by decide +kernel
theorem dX7_join_21 : decode cX7_join 21 = .ok (.getfield 53, 3) := by decide +kernel
theorem dX7_join_24 : decode cX7_join 24 = .ok (.iconst 0, 1) := by decide +kernel
theorem dX7_join_25 : decode cX7_join 25 = .ok (.iaload, 1) := by decide +kernel
theorem dX7_join_26 : decode cX7_join 26 = .ok (.iload_n 2, 1) := by decide +kernel
theorem dX7_join_27 : decode cX7_join 27 = .ok (.iastore, 1) := by decide +kernel
theorem dX7_join_28 : decode cX7_join 28 = .ok (.aload_n 0, 1) := by decide +kernel
theorem dX7_join_29 : decode cX7_join 29 = .ok (.getfield 44, 3) := by decide +kernel
theorem dX7_join_32 : decode cX7_join 32 = .ok (.aload_n 0, 1) := by decide +kernel
theorem dX7_join_33 : decode cX7_join 33 = .ok (.getfield 53, 3) := by decide +kernel
theorem dX7_join_36 : decode cX7_join 36 = .ok (.iconst 0, 1) := by decide +kernel
theorem dX7_join_37 : decode cX7_join 37 = .ok (.iaload, 1) := by decide +kernel
theorem dX7_join_38 : decode cX7_join 38 = .ok (.iload_n 3, 1) := by decide +kernel
theorem dX7_join_39 : decode cX7_join 39 = .ok (.iastore, 1) := by decide +kernel
theorem dX7_join_40 : decode cX7_join 40 = .ok (.aload_n 0, 1) := by decide +kernel
theorem dX7_join_41 : decode cX7_join 41 = .ok (.getfield 53, 3) := by decide +kernel
theorem dX7_join_44 : decode cX7_join 44 = .ok (.iconst 0, 1) := by decide +kernel
theorem dX7_join_45 : decode cX7_join 45 = .ok (.dup2, 1) := by decide +kernel
theorem dX7_join_46 : decode cX7_join 46 = .ok (.iaload, 1) := by decide +kernel
theorem dX7_join_47 : decode cX7_join 47 = .ok (.iconst 1, 1) := by decide +kernel
theorem dX7_join_48 : decode cX7_join 48 = .ok (.iadd, 1) := by decide +kernel
theorem dX7_join_49 : decode cX7_join 49 = .ok (.iastore, 1) := by decide +kernel
theorem dX7_join_50 : decode cX7_join 50 = .ok (.return_, 1) := by decide +kernel
set_option maxRecDepth 20000 in
theorem ggX7_oneTick_X7_join : GoodIn wsX7_oneTick wsX7_join := goodIn_r _ [15, 16, 2, 17, 18, 66, 67, 68, 69, 70, 71, 72, 73, 74, 75, 76, 77, 78, 79, 80, 81, 82, 83, 84, 85, 86, 87] rfl (by decide +kernel)
set_option maxRecDepth 20000 in
theorem gX7_oneTick_X7_join : GoodIn wsX7_oneTick (wsV RX7 125 RX7 yX7_join wsX7_join) := goodIn_app (goodIn_of _ (by decide +kernel)) ggX7_oneTick_X7_join
set_option maxRecDepth 20000 in
theorem ggX7_oneTick_X7_waiting : GoodIn wsX7_oneTick wsX7_waiting := goodIn_r _ [22, 2, 18, 66, 67, 68, 69, 70, 71, 72, 73, 74, 75, 76, 77, 78, 79, 80, 81, 82, 83, 84, 85, 86, 87] rfl (by decide +kernel)
set_option maxRecDepth 20000 in
theorem gX7_oneTick_X7_waiting : GoodIn wsX7_oneTick (wsV RX7 129 RX7 yX7_waiting wsX7_waiting) := goodIn_app (goodIn_of _ (by decide +kernel)) ggX7_oneTick_X7_waiting
set_option maxRecDepth 20000 in
theorem ggX7_oneTick_X7_read : GoodIn wsX7_oneTick wsX7_read := goodIn_r _ [26, 9, 6, 1, 66, 67, 68, 69, 70, 71, 72, 73, 74, 75, 76, 77, 78, 79, 80, 81, 82, 83, 84, 85, 86, 87] rfl (by decide +kernel)
set_option maxRecDepth 20000 in
theorem gX7_oneTick_X7_read : GoodIn wsX7_oneTick (wsV RX7 132 RX7 yX7_read wsX7_read) := goodIn_app (goodIn_of _ (by decide +kernel)) ggX7_oneTick_X7_read
set_option maxRecDepth 20000 in
theorem ggX7_oneTick_X7_change : GoodIn wsX7_oneTick wsX7_change := goodIn_r _ [30, 31, 9, 1, 32, 33, 14, 34, 35, 36, 37, 38, 39, 40, 41, 42, 43, 44, 45, 46, 47, 48, 49, 7, 50, 51, 52, 53, 8, 54, 55, 56, 57, 66, 67, 68, 69, 70, 71, 72, 73, 74, 75, 76, 77, 78, 79, 80, 81, 82, 83, 84, 85, 86, 87] rfl (by decide +kernel)
set_option maxRecDepth 20000 in
theorem gX7_oneTick_X7_change : GoodIn wsX7_oneTick (wsV RX7 136 RX7 yX7_change wsX7_change) := goodIn_app (goodIn_of _ (by decide +kernel)) ggX7_oneTick_X7_change
set_option maxRecDepth 20000 in
theorem ggX7_oneTick_X7_serve : GoodIn wsX7_oneTick wsX7_serve := goodIn_r _ [61, 2, 18, 35, 36, 14, 37, 66, 67, 68, 69, 70, 71, 72, 73, 74, 75, 76, 77, 78, 79, 80, 81, 82, 83, 84, 85, 86, 87] rfl (by decide +kernel)
set_option maxRecDepth 20000 in
theorem gX7_oneTick_X7_serve : GoodIn wsX7_oneTick (wsV RX7 139 RX7 yX7_serve wsX7_serve) := goodIn_app (goodIn_of _ (by decide +kernel)) ggX7_oneTick_X7_serve
set_option maxRecDepth 20000 in
theorem ggX7_oneTick_X7_goAway : GoodIn wsX7_oneTick wsX7_goAway := goodIn_r _ [65, 2, 16, 9, 17, 18, 3, 4, 66, 67, 68, 69, 70, 71, 72, 73, 74, 75, 76, 77, 78, 79, 80, 81, 82, 83, 84, 85, 86, 87] rfl (by decide +kernel)
set_option maxRecDepth 20000 in
theorem gX7_oneTick_X7_goAway : GoodIn wsX7_oneTick (wsV RX7 142 RX7 yX7_goAway wsX7_goAway) := goodIn_app (goodIn_of _ (by decide +kernel)) ggX7_oneTick_X7_goAway
set_option maxRecDepth 20000 in
theorem ggX7_oneTick_X7_up : GoodIn wsX7_oneTick wsX7_up := goodIn_r _ [45, 46, 47, 48, 14, 49, 7, 66, 67, 68, 69, 70, 71, 72, 73, 74, 75, 76, 77, 78, 79, 80, 81, 82, 83, 84, 85, 86, 87] rfl (by decide +kernel)
set_option maxRecDepth 20000 in
theorem gX7_oneTick_X7_up : GoodIn wsX7_oneTick (wsV RX7 103 RX7 yX7_up wsX7_up) := goodIn_app (goodIn_of _ (by decide +kernel)) ggX7_oneTick_X7_up
theorem dX7_oneTick_0 : decode cX7_oneTick 0 = .ok (.aload_n 0, 1) := by decide +kernel
theorem dX7_oneTick_1 : decode cX7_oneTick 1 = .ok (.getfield 29, 3) := by decide +kernel
theorem dX7_oneTick_4 : decode cX7_oneTick 4 = .ok (.iconst 0, 1) := by decide +kernel
theorem dX7_oneTick_5 : decode cX7_oneTick 5 = .ok (.iaload, 1) := by decide +kernel
theorem dX7_oneTick_6 : decode cX7_oneTick 6 = .ok (.istore_n 2, 1) := by decide +kernel
theorem dX7_oneTick_7 : decode cX7_oneTick 7 = .ok (.iconst 0, 1) := by decide +kernel
theorem dX7_oneTick_8 : decode cX7_oneTick 8 = .ok (.istore_n 3, 1) := by decide +kernel
theorem dX7_oneTick_9 : decode cX7_oneTick 9 = .ok (.iload_n 3, 1) := by decide +kernel
theorem dX7_oneTick_10 : decode cX7_oneTick 10 = .ok (.aload_n 0, 1) := by decide +kernel
theorem dX7_oneTick_11 : decode cX7_oneTick 11 = .ok (.getfield 53, 3) := by decide +kernel
theorem dX7_oneTick_14 : decode cX7_oneTick 14 = .ok (.iconst 1, 1) := by decide +kernel
theorem dX7_oneTick_15 : decode cX7_oneTick 15 = .ok (.iaload, 1) := by decide +kernel
theorem dX7_oneTick_16 : decode cX7_oneTick 16 = .ok (.if_icmp .ge 26, 3) := by decide +kernel
theorem dX7_oneTick_19 : decode cX7_oneTick 19 = .ok (.aload_n 0, 1) := by decide +kernel
theorem dX7_oneTick_20 : decode cX7_oneTick 20 = .ok (.iload_n 2, 1) := by decide +kernel
theorem dX7_oneTick_21 : decode cX7_oneTick 21 = .ok (.aload_n 0, 1) := by decide +kernel
theorem dX7_oneTick_22 : decode cX7_oneTick 22 = .ok (.getfield 47, 3) := by decide +kernel
theorem dX7_oneTick_25 : decode cX7_oneTick 25 = .ok (.iload_n 3, 1) := by decide +kernel
theorem dX7_oneTick_26 : decode cX7_oneTick 26 = .ok (.iaload, 1) := by decide +kernel
theorem dX7_oneTick_27 : decode cX7_oneTick 27 = .ok (.aload_n 0, 1) := by decide +kernel
theorem dX7_oneTick_28 : decode cX7_oneTick 28 = .ok (.getfield 50, 3) := by decide +kernel
theorem dX7_oneTick_31 : decode cX7_oneTick 31 = .ok (.iload_n 3, 1) := by decide +kernel
theorem dX7_oneTick_32 : decode cX7_oneTick 32 = .ok (.iaload, 1) := by decide +kernel
theorem dX7_oneTick_33 : decode cX7_oneTick 33 = .ok (.invokevirtual 125, 3) := by decide +kernel
theorem dX7_oneTick_36 : decode cX7_oneTick 36 = .ok (.iinc 3 1, 3) := by decide +kernel
theorem dX7_oneTick_39 : decode cX7_oneTick 39 = .ok (.goto (-30), 3) := by decide +kernel
theorem dX7_oneTick_42 : decode cX7_oneTick 42 = .ok (.aload_n 0, 1) := by decide +kernel
theorem dX7_oneTick_43 : decode cX7_oneTick 43 = .ok (.iload_n 2, 1) := by decide +kernel
theorem dX7_oneTick_44 : decode cX7_oneTick 44 = .ok (.iconst 1, 1) := by decide +kernel
theorem dX7_oneTick_45 : decode cX7_oneTick 45 = .ok (.aload_n 0, 1) := by decide +kernel
theorem dX7_oneTick_46 : decode cX7_oneTick 46 = .ok (.getfield 19, 3) := by decide +kernel
theorem dX7_oneTick_49 : decode cX7_oneTick 49 = .ok (.iload_n 2, 1) := by decide +kernel
theorem dX7_oneTick_50 : decode cX7_oneTick 50 = .ok (.iaload, 1) := by decide +kernel
theorem dX7_oneTick_51 : decode cX7_oneTick 51 = .ok (.invokevirtual 125, 3) := by decide +kernel
theorem dX7_oneTick_54 : decode cX7_oneTick 54 = .ok (.aload_n 0, 1) := by decide +kernel
theorem dX7_oneTick_55 : decode cX7_oneTick 55 = .ok (.getfield 29, 3) := by decide +kernel
theorem dX7_oneTick_58 : decode cX7_oneTick 58 = .ok (.bipush 7, 2) := by decide +kernel
theorem dX7_oneTick_60 : decode cX7_oneTick 60 = .ok (.dup2, 1) := by decide +kernel
theorem dX7_oneTick_61 : decode cX7_oneTick 61 = .ok (.iaload, 1) := by decide +kernel
theorem dX7_oneTick_62 : decode cX7_oneTick 62 = .ok (.aload_n 0, 1) := by decide +kernel
theorem dX7_oneTick_63 : decode cX7_oneTick 63 = .ok (.getfield 19, 3) := by decide +kernel
theorem dX7_oneTick_66 : decode cX7_oneTick 66 = .ok (.iload_n 2, 1) := by decide +kernel
theorem dX7_oneTick_67 : decode cX7_oneTick 67 = .ok (.iaload, 1) := by decide +kernel
theorem dX7_oneTick_68 : decode cX7_oneTick 68 = .ok (.iadd, 1) := by decide +kernel
theorem dX7_oneTick_69 : decode cX7_oneTick 69 = .ok (.iastore, 1) := by decide +kernel
theorem dX7_oneTick_70 : decode cX7_oneTick 70 = .ok (.aload_n 0, 1) := by decide +kernel
theorem dX7_oneTick_71 : decode cX7_oneTick 71 = .ok (.invokevirtual 129, 3) := by decide +kernel
theorem dX7_oneTick_74 : decode cX7_oneTick 74 = .ok (.istore_n 3, 1) := by decide +kernel
theorem dX7_oneTick_75 : decode cX7_oneTick 75 = .ok (.aload_n 0, 1) := by decide +kernel
theorem dX7_oneTick_76 : decode cX7_oneTick 76 = .ok (.getfield 56, 3) := by decide +kernel
theorem dX7_oneTick_79 : decode cX7_oneTick 79 = .ok (.iload_n 2, 1) := by decide +kernel
theorem dX7_oneTick_80 : decode cX7_oneTick 80 = .ok (.iload_n 1, 1) := by decide +kernel
theorem dX7_oneTick_81 : decode cX7_oneTick 81 = .ok (.ifCond .eq 7, 3) := by decide +kernel
theorem dX7_oneTick_84 : decode cX7_oneTick 84 = .ok (.iconst (-1), 1) := by decide +kernel
theorem dX7_oneTick_85 : decode cX7_oneTick 85 = .ok (.goto 4, 3) := by decide +kernel
theorem dX7_oneTick_88 : decode cX7_oneTick 88 = .ok (.iload_n 3, 1) := by decide +kernel
theorem dX7_oneTick_89 : decode cX7_oneTick 89 = .ok (.iastore, 1) := by decide +kernel
theorem dX7_oneTick_90 : decode cX7_oneTick 90 = .ok (.aload_n 0, 1) := by decide +kernel
theorem dX7_oneTick_91 : decode cX7_oneTick 91 = .ok (.iload_n 2, 1) := by decide +kernel
theorem dX7_oneTick_92 : decode cX7_oneTick 92 = .ok (.invokevirtual 132, 3) := by decide +kernel
theorem dX7_oneTick_95 : decode cX7_oneTick 95 = .ok (.aload_n 0, 1) := by decide +kernel
theorem dX7_oneTick_96 : decode cX7_oneTick 96 = .ok (.iload_n 2, 1) := by decide +kernel
theorem dX7_oneTick_97 : decode cX7_oneTick 97 = .ok (.invokevirtual 136, 3) := by decide +kernel
theorem dX7_oneTick_100 : decode cX7_oneTick 100 = .ok (.iconst 0, 1) := by decide +kernel
theorem dX7_oneTick_101 : decode cX7_oneTick 101 = .ok (.istore 4, 2) := by decide +kernel
theorem dX7_oneTick_103 : decode cX7_oneTick 103 = .ok (.iconst 0, 1) := by decide +kernel
theorem dX7_oneTick_104 : decode cX7_oneTick 104 = .ok (.istore 5, 2) := by decide +kernel
theorem dX7_oneTick_106 : decode cX7_oneTick 106 = .ok (.iconst 0, 1) := by decide +kernel
theorem dX7_oneTick_107 : decode cX7_oneTick 107 = .ok (.istore 6, 2) := by decide +kernel
theorem dX7_oneTick_109 : decode cX7_oneTick 109 = .ok (.iload 6, 2) := by decide +kernel
theorem dX7_oneTick_111 : decode cX7_oneTick 111 = .ok (.bipush 12, 2) := by decide +kernel
theorem dX7_oneTick_113 : decode cX7_oneTick 113 = .ok (.if_icmp .ge 131, 3) := by decide +kernel
theorem dX7_oneTick_116 : decode cX7_oneTick 116 = .ok (.aload_n 0, 1) := by decide +kernel
theorem dX7_oneTick_117 : decode cX7_oneTick 117 = .ok (.getfield 32, 3) := by decide +kernel
theorem dX7_oneTick_120 : decode cX7_oneTick 120 = .ok (.iload 6, 2) := by decide +kernel
theorem dX7_oneTick_122 : decode cX7_oneTick 122 = .ok (.aload_n 0, 1) := by decide +kernel
theorem dX7_oneTick_123 : decode cX7_oneTick 123 = .ok (.getfield 32, 3) := by decide +kernel
theorem dX7_oneTick_126 : decode cX7_oneTick 126 = .ok (.iload 6, 2) := by decide +kernel
theorem dX7_oneTick_128 : decode cX7_oneTick 128 = .ok (.iaload, 1) := by decide +kernel
theorem dX7_oneTick_129 : decode cX7_oneTick 129 = .ok (.iconst 1, 1) := by decide +kernel
theorem dX7_oneTick_130 : decode cX7_oneTick 130 = .ok (.if_icmp .ne 25, 3) := by decide +kernel
theorem dX7_oneTick_133 : decode cX7_oneTick 133 = .ok (.iload_n 2, 1) := by decide +kernel
theorem dX7_oneTick_134 : decode cX7_oneTick 134 = .ok (.aload_n 0, 1) := by decide +kernel
theorem dX7_oneTick_135 : decode cX7_oneTick 135 = .ok (.getfield 35, 3) := by decide +kernel
theorem dX7_oneTick_138 : decode cX7_oneTick 138 = .ok (.iload 6, 2) := by decide +kernel
theorem dX7_oneTick_140 : decode cX7_oneTick 140 = .ok (.iaload, 1) := by decide +kernel
theorem dX7_oneTick_141 : decode cX7_oneTick 141 = .ok (.isub, 1) := by decide +kernel
theorem dX7_oneTick_142 : decode cX7_oneTick 142 = .ok (.aload_n 0, 1) := by decide +kernel
theorem dX7_oneTick_143 : decode cX7_oneTick 143 = .ok (.getfield 7, 3) := by decide +kernel
theorem dX7_oneTick_146 : decode cX7_oneTick 146 = .ok (.iconst 0, 1) := by decide +kernel
theorem dX7_oneTick_147 : decode cX7_oneTick 147 = .ok (.iaload, 1) := by decide +kernel
theorem dX7_oneTick_148 : decode cX7_oneTick 148 = .ok (.if_icmp .lt 7, 3) := by decide +kernel
theorem dX7_oneTick_151 : decode cX7_oneTick 151 = .ok (.iconst 2, 1) := by decide +kernel
theorem dX7_oneTick_152 : decode cX7_oneTick 152 = .ok (.goto 10, 3) := by decide +kernel
theorem dX7_oneTick_155 : decode cX7_oneTick 155 = .ok (.aload_n 0, 1) := by decide +kernel
theorem dX7_oneTick_156 : decode cX7_oneTick 156 = .ok (.getfield 32, 3) := by decide +kernel
theorem dX7_oneTick_159 : decode cX7_oneTick 159 = .ok (.iload 6, 2) := by decide +kernel
theorem dX7_oneTick_161 : decode cX7_oneTick 161 = .ok (.iaload, 1) := by decide +kernel
theorem dX7_oneTick_162 : decode cX7_oneTick 162 = .ok (.iastore, 1) := by decide +kernel
theorem dX7_oneTick_163 : decode cX7_oneTick 163 = .ok (.iload 4, 2) := by decide +kernel
theorem dX7_oneTick_165 : decode cX7_oneTick 165 = .ok (.aload_n 0, 1) := by decide +kernel
theorem dX7_oneTick_166 : decode cX7_oneTick 166 = .ok (.getfield 32, 3) := by decide +kernel
theorem dX7_oneTick_169 : decode cX7_oneTick 169 = .ok (.iload 6, 2) := by decide +kernel
theorem dX7_oneTick_171 : decode cX7_oneTick 171 = .ok (.iaload, 1) := by decide +kernel
theorem dX7_oneTick_172 : decode cX7_oneTick 172 = .ok (.iconst 2, 1) := by decide +kernel
theorem dX7_oneTick_173 : decode cX7_oneTick 173 = .ok (.if_icmp .eq 14, 3) := by decide +kernel
theorem dX7_oneTick_176 : decode cX7_oneTick 176 = .ok (.aload_n 0, 1) := by decide +kernel
theorem dX7_oneTick_177 : decode cX7_oneTick 177 = .ok (.getfield 32, 3) := by decide +kernel
theorem dX7_oneTick_180 : decode cX7_oneTick 180 = .ok (.iload 6, 2) := by decide +kernel
theorem dX7_oneTick_182 : decode cX7_oneTick 182 = .ok (.iaload, 1) := by decide +kernel
theorem dX7_oneTick_183 : decode cX7_oneTick 183 = .ok (.iconst 3, 1) := by decide +kernel
theorem dX7_oneTick_184 : decode cX7_oneTick 184 = .ok (.if_icmp .ne 7, 3) := by decide +kernel
theorem dX7_oneTick_187 : decode cX7_oneTick 187 = .ok (.iconst 1, 1) := by decide +kernel
theorem dX7_oneTick_188 : decode cX7_oneTick 188 = .ok (.goto 4, 3) := by decide +kernel
theorem dX7_oneTick_191 : decode cX7_oneTick 191 = .ok (.iconst 0, 1) := by decide +kernel
theorem dX7_oneTick_192 : decode cX7_oneTick 192 = .ok (.iadd, 1) := by decide +kernel
theorem dX7_oneTick_193 : decode cX7_oneTick 193 = .ok (.istore 4, 2) := by decide +kernel
theorem dX7_oneTick_195 : decode cX7_oneTick 195 = .ok (.iload 5, 2) := by decide +kernel
theorem dX7_oneTick_197 : decode cX7_oneTick 197 = .ok (.aload_n 0, 1) := by decide +kernel
theorem dX7_oneTick_198 : decode cX7_oneTick 198 = .ok (.getfield 32, 3) := by decide +kernel
theorem dX7_oneTick_201 : decode cX7_oneTick 201 = .ok (.iload 6, 2) := by decide +kernel
theorem dX7_oneTick_203 : decode cX7_oneTick 203 = .ok (.iaload, 1) := by decide +kernel
theorem dX7_oneTick_204 : decode cX7_oneTick 204 = .ok (.ifCond .ne 7, 3) := by decide +kernel
theorem dX7_oneTick_207 : decode cX7_oneTick 207 = .ok (.iconst 0, 1) := by decide +kernel
theorem dX7_oneTick_208 : decode cX7_oneTick 208 = .ok (.goto 27, 3) := by decide +kernel
theorem dX7_oneTick_211 : decode cX7_oneTick 211 = .ok (.iload 6, 2) := by decide +kernel
theorem dX7_oneTick_213 : decode cX7_oneTick 213 = .ok (.bipush 8, 2) := by decide +kernel
theorem dX7_oneTick_215 : decode cX7_oneTick 215 = .ok (.if_icmp .ge 13, 3) := by decide +kernel
theorem dX7_oneTick_218 : decode cX7_oneTick 218 = .ok (.aload_n 0, 1) := by decide +kernel
theorem dX7_oneTick_219 : decode cX7_oneTick 219 = .ok (.getfield 7, 3) := by decide +kernel
theorem dX7_oneTick_222 : decode cX7_oneTick 222 = .ok (.bipush 16, 2) := by decide +kernel
theorem dX7_oneTick_224 : decode cX7_oneTick 224 = .ok (.iaload, 1) := by decide +kernel
theorem dX7_oneTick_225 : decode cX7_oneTick 225 = .ok (.goto 10, 3) := by decide +kernel
theorem dX7_oneTick_228 : decode cX7_oneTick 228 = .ok (.aload_n 0, 1) := by decide +kernel
theorem dX7_oneTick_229 : decode cX7_oneTick 229 = .ok (.getfield 7, 3) := by decide +kernel
theorem dX7_oneTick_232 : decode cX7_oneTick 232 = .ok (.bipush 17, 2) := by decide +kernel
theorem dX7_oneTick_234 : decode cX7_oneTick 234 = .ok (.iaload, 1) := by decide +kernel
theorem dX7_oneTick_235 : decode cX7_oneTick 235 = .ok (.iadd, 1) := by decide +kernel
theorem dX7_oneTick_236 : decode cX7_oneTick 236 = .ok (.istore 5, 2) := by decide +kernel
theorem dX7_oneTick_238 : decode cX7_oneTick 238 = .ok (.iinc 6 1, 3) := by decide +kernel
theorem dX7_oneTick_241 : decode cX7_oneTick 241 = .ok (.goto (-132), 3) := by decide +kernel
theorem dX7_oneTick_244 : decode cX7_oneTick 244 = .ok (.aload_n 0, 1) := by decide +kernel
theorem dX7_oneTick_245 : decode cX7_oneTick 245 = .ok (.iload 4, 2) := by decide +kernel
theorem dX7_oneTick_247 : decode cX7_oneTick 247 = .ok (.aload_n 0, 1) := by decide +kernel
theorem dX7_oneTick_248 : decode cX7_oneTick 248 = .ok (.getfield 7, 3) := by decide +kernel
theorem dX7_oneTick_251 : decode cX7_oneTick 251 = .ok (.iconst 2, 1) := by decide +kernel
theorem dX7_oneTick_252 : decode cX7_oneTick 252 = .ok (.iaload, 1) := by decide +kernel
theorem dX7_oneTick_253 : decode cX7_oneTick 253 = .ok (.imul, 1) := by decide +kernel
theorem dX7_oneTick_254 : decode cX7_oneTick 254 = .ok (.invokevirtual 139, 3) := by decide +kernel
theorem dX7_oneTick_257 : decode cX7_oneTick 257 = .ok (.istore 6, 2) := by decide +kernel
theorem dX7_oneTick_259 : decode cX7_oneTick 259 = .ok (.iconst 0, 1) := by decide +kernel
theorem dX7_oneTick_260 : decode cX7_oneTick 260 = .ok (.istore 7, 2) := by decide +kernel
theorem dX7_oneTick_262 : decode cX7_oneTick 262 = .ok (.iload 7, 2) := by decide +kernel
theorem dX7_oneTick_264 : decode cX7_oneTick 264 = .ok (.bipush 12, 2) := by decide +kernel
theorem dX7_oneTick_266 : decode cX7_oneTick 266 = .ok (.if_icmp .ge 56, 3) := by decide +kernel
theorem dX7_oneTick_269 : decode cX7_oneTick 269 = .ok (.aload_n 0, 1) := by decide +kernel
theorem dX7_oneTick_270 : decode cX7_oneTick 270 = .ok (.getfield 32, 3) := by decide +kernel
theorem dX7_oneTick_273 : decode cX7_oneTick 273 = .ok (.iload 7, 2) := by decide +kernel
theorem dX7_oneTick_275 : decode cX7_oneTick 275 = .ok (.aload_n 0, 1) := by decide +kernel
theorem dX7_oneTick_276 : decode cX7_oneTick 276 = .ok (.getfield 32, 3) := by decide +kernel
theorem dX7_oneTick_279 : decode cX7_oneTick 279 = .ok (.iload 7, 2) := by decide +kernel
theorem dX7_oneTick_281 : decode cX7_oneTick 281 = .ok (.iaload, 1) := by decide +kernel
theorem dX7_oneTick_282 : decode cX7_oneTick 282 = .ok (.iconst 3, 1) := by decide +kernel
theorem dX7_oneTick_283 : decode cX7_oneTick 283 = .ok (.if_icmp .ne 25, 3) := by decide +kernel
theorem dX7_oneTick_286 : decode cX7_oneTick 286 = .ok (.iload_n 2, 1) := by decide +kernel
theorem dX7_oneTick_287 : decode cX7_oneTick 287 = .ok (.aload_n 0, 1) := by decide +kernel
theorem dX7_oneTick_288 : decode cX7_oneTick 288 = .ok (.getfield 35, 3) := by decide +kernel
theorem dX7_oneTick_291 : decode cX7_oneTick 291 = .ok (.iload 7, 2) := by decide +kernel
theorem dX7_oneTick_293 : decode cX7_oneTick 293 = .ok (.iaload, 1) := by decide +kernel
theorem dX7_oneTick_294 : decode cX7_oneTick 294 = .ok (.isub, 1) := by decide +kernel
theorem dX7_oneTick_295 : decode cX7_oneTick 295 = .ok (.aload_n 0, 1) := by decide +kernel
theorem dX7_oneTick_296 : decode cX7_oneTick 296 = .ok (.getfield 7, 3) := by decide +kernel
theorem dX7_oneTick_299 : decode cX7_oneTick 299 = .ok (.iconst 1, 1) := by decide +kernel
theorem dX7_oneTick_300 : decode cX7_oneTick 300 = .ok (.iaload, 1) := by decide +kernel
theorem dX7_oneTick_301 : decode cX7_oneTick 301 = .ok (.if_icmp .lt 7, 3) := by decide +kernel
theorem dX7_oneTick_304 : decode cX7_oneTick 304 = .ok (.iconst 0, 1) := by decide +kernel
theorem dX7_oneTick_305 : decode cX7_oneTick 305 = .ok (.goto 10, 3) := by decide +kernel
theorem dX7_oneTick_308 : decode cX7_oneTick 308 = .ok (.aload_n 0, 1) := by decide +kernel
theorem dX7_oneTick_309 : decode cX7_oneTick 309 = .ok (.getfield 32, 3) := by decide +kernel
theorem dX7_oneTick_312 : decode cX7_oneTick 312 = .ok (.iload 7, 2) := by decide +kernel
theorem dX7_oneTick_314 : decode cX7_oneTick 314 = .ok (.iaload, 1) := by decide +kernel
theorem dX7_oneTick_315 : decode cX7_oneTick 315 = .ok (.iastore, 1) := by decide +kernel
theorem dX7_oneTick_316 : decode cX7_oneTick 316 = .ok (.iinc 7 1, 3) := by decide +kernel
theorem dX7_oneTick_319 : decode cX7_oneTick 319 = .ok (.goto (-57), 3) := by decide +kernel
theorem dX7_oneTick_322 : decode cX7_oneTick 322 = .ok (.aload_n 0, 1) := by decide +kernel
theorem dX7_oneTick_323 : decode cX7_oneTick 323 = .ok (.iload_n 2, 1) := by decide +kernel
theorem dX7_oneTick_324 : decode cX7_oneTick 324 = .ok (.invokevirtual 142, 3) := by decide +kernel
theorem dX7_oneTick_327 : decode cX7_oneTick 327 = .ok (.istore 7, 2) := by decide +kernel
theorem dX7_oneTick_329 : decode cX7_oneTick 329 = .ok (.iload 5, 2) := by decide +kernel
theorem dX7_oneTick_331 : decode cX7_oneTick 331 = .ok (.iload 7, 2) := by decide +kernel
theorem dX7_oneTick_333 : decode cX7_oneTick 333 = .ok (.aload_n 0, 1) := by decide +kernel
theorem dX7_oneTick_334 : decode cX7_oneTick 334 = .ok (.getfield 7, 3) := by decide +kernel
theorem dX7_oneTick_337 : decode cX7_oneTick 337 = .ok (.bipush 18, 2) := by decide +kernel
theorem dX7_oneTick_339 : decode cX7_oneTick 339 = .ok (.iaload, 1) := by decide +kernel
theorem dX7_oneTick_340 : decode cX7_oneTick 340 = .ok (.imul, 1) := by decide +kernel
theorem dX7_oneTick_341 : decode cX7_oneTick 341 = .ok (.iadd, 1) := by decide +kernel
theorem dX7_oneTick_342 : decode cX7_oneTick 342 = .ok (.istore 5, 2) := by decide +kernel
theorem dX7_oneTick_344 : decode cX7_oneTick 344 = .ok (.aload_n 0, 1) := by decide +kernel
theorem dX7_oneTick_345 : decode cX7_oneTick 345 = .ok (.getfield 29, 3) := by decide +kernel
theorem dX7_oneTick_348 : decode cX7_oneTick 348 = .ok (.iconst 1, 1) := by decide +kernel
theorem dX7_oneTick_349 : decode cX7_oneTick 349 = .ok (.dup2, 1) := by decide +kernel
theorem dX7_oneTick_350 : decode cX7_oneTick 350 = .ok (.iaload, 1) := by decide +kernel
theorem dX7_oneTick_351 : decode cX7_oneTick 351 = .ok (.iload 6, 2) := by decide +kernel
theorem dX7_oneTick_353 : decode cX7_oneTick 353 = .ok (.iadd, 1) := by decide +kernel
theorem dX7_oneTick_354 : decode cX7_oneTick 354 = .ok (.iastore, 1) := by decide +kernel
theorem dX7_oneTick_355 : decode cX7_oneTick 355 = .ok (.aload_n 0, 1) := by decide +kernel
theorem dX7_oneTick_356 : decode cX7_oneTick 356 = .ok (.getfield 29, 3) := by decide +kernel
theorem dX7_oneTick_359 : decode cX7_oneTick 359 = .ok (.iconst 2, 1) := by decide +kernel
theorem dX7_oneTick_360 : decode cX7_oneTick 360 = .ok (.dup2, 1) := by decide +kernel
theorem dX7_oneTick_361 : decode cX7_oneTick 361 = .ok (.iaload, 1) := by decide +kernel
theorem dX7_oneTick_362 : decode cX7_oneTick 362 = .ok (.iload 7, 2) := by decide +kernel
theorem dX7_oneTick_364 : decode cX7_oneTick 364 = .ok (.iadd, 1) := by decide +kernel
theorem dX7_oneTick_365 : decode cX7_oneTick 365 = .ok (.iastore, 1) := by decide +kernel
theorem dX7_oneTick_366 : decode cX7_oneTick 366 = .ok (.aload_n 0, 1) := by decide +kernel
theorem dX7_oneTick_367 : decode cX7_oneTick 367 = .ok (.getfield 29, 3) := by decide +kernel
theorem dX7_oneTick_370 : decode cX7_oneTick 370 = .ok (.iconst 3, 1) := by decide +kernel
theorem dX7_oneTick_371 : decode cX7_oneTick 371 = .ok (.dup2, 1) := by decide +kernel
theorem dX7_oneTick_372 : decode cX7_oneTick 372 = .ok (.iaload, 1) := by decide +kernel
theorem dX7_oneTick_373 : decode cX7_oneTick 373 = .ok (.iload 5, 2) := by decide +kernel
theorem dX7_oneTick_375 : decode cX7_oneTick 375 = .ok (.iadd, 1) := by decide +kernel
theorem dX7_oneTick_376 : decode cX7_oneTick 376 = .ok (.iastore, 1) := by decide +kernel
theorem dX7_oneTick_377 : decode cX7_oneTick 377 = .ok (.aload_n 0, 1) := by decide +kernel
theorem dX7_oneTick_378 : decode cX7_oneTick 378 = .ok (.getfield 59, 3) := by decide +kernel
theorem dX7_oneTick_381 : decode cX7_oneTick 381 = .ok (.bipush 6, 2) := by decide +kernel
theorem dX7_oneTick_383 : decode cX7_oneTick 383 = .ok (.iload_n 2, 1) := by decide +kernel
theorem dX7_oneTick_384 : decode cX7_oneTick 384 = .ok (.imul, 1) := by decide +kernel
theorem dX7_oneTick_385 : decode cX7_oneTick 385 = .ok (.iload_n 3, 1) := by decide +kernel
theorem dX7_oneTick_386 : decode cX7_oneTick 386 = .ok (.iastore, 1) := by decide +kernel
theorem dX7_oneTick_387 : decode cX7_oneTick 387 = .ok (.aload_n 0, 1) := by decide +kernel
theorem dX7_oneTick_388 : decode cX7_oneTick 388 = .ok (.getfield 59, 3) := by decide +kernel
theorem dX7_oneTick_391 : decode cX7_oneTick 391 = .ok (.bipush 6, 2) := by decide +kernel
theorem dX7_oneTick_393 : decode cX7_oneTick 393 = .ok (.iload_n 2, 1) := by decide +kernel
theorem dX7_oneTick_394 : decode cX7_oneTick 394 = .ok (.imul, 1) := by decide +kernel
theorem dX7_oneTick_395 : decode cX7_oneTick 395 = .ok (.iconst 1, 1) := by decide +kernel
theorem dX7_oneTick_396 : decode cX7_oneTick 396 = .ok (.iadd, 1) := by decide +kernel
theorem dX7_oneTick_397 : decode cX7_oneTick 397 = .ok (.iload 6, 2) := by decide +kernel
theorem dX7_oneTick_399 : decode cX7_oneTick 399 = .ok (.iastore, 1) := by decide +kernel
theorem dX7_oneTick_400 : decode cX7_oneTick 400 = .ok (.aload_n 0, 1) := by decide +kernel
theorem dX7_oneTick_401 : decode cX7_oneTick 401 = .ok (.getfield 59, 3) := by decide +kernel
theorem dX7_oneTick_404 : decode cX7_oneTick 404 = .ok (.bipush 6, 2) := by decide +kernel
theorem dX7_oneTick_406 : decode cX7_oneTick 406 = .ok (.iload_n 2, 1) := by decide +kernel
theorem dX7_oneTick_407 : decode cX7_oneTick 407 = .ok (.imul, 1) := by decide +kernel
theorem dX7_oneTick_408 : decode cX7_oneTick 408 = .ok (.iconst 2, 1) := by decide +kernel
theorem dX7_oneTick_409 : decode cX7_oneTick 409 = .ok (.iadd, 1) := by decide +kernel
theorem dX7_oneTick_410 : decode cX7_oneTick 410 = .ok (.iload 7, 2) := by decide +kernel
theorem dX7_oneTick_412 : decode cX7_oneTick 412 = .ok (.iastore, 1) := by decide +kernel
theorem dX7_oneTick_413 : decode cX7_oneTick 413 = .ok (.aload_n 0, 1) := by decide +kernel
theorem dX7_oneTick_414 : decode cX7_oneTick 414 = .ok (.getfield 59, 3) := by decide +kernel
theorem dX7_oneTick_417 : decode cX7_oneTick 417 = .ok (.bipush 6, 2) := by decide +kernel
theorem dX7_oneTick_419 : decode cX7_oneTick 419 = .ok (.iload_n 2, 1) := by decide +kernel
theorem dX7_oneTick_420 : decode cX7_oneTick 420 = .ok (.imul, 1) := by decide +kernel
theorem dX7_oneTick_421 : decode cX7_oneTick 421 = .ok (.iconst 3, 1) := by decide +kernel
theorem dX7_oneTick_422 : decode cX7_oneTick 422 = .ok (.iadd, 1) := by decide +kernel
theorem dX7_oneTick_423 : decode cX7_oneTick 423 = .ok (.aload_n 0, 1) := by decide +kernel
theorem dX7_oneTick_424 : decode cX7_oneTick 424 = .ok (.invokevirtual 103, 3) := by decide +kernel
theorem dX7_oneTick_427 : decode cX7_oneTick 427 = .ok (.iastore, 1) := by decide +kernel
theorem dX7_oneTick_428 : decode cX7_oneTick 428 = .ok (.aload_n 0, 1) := by decide +kernel
theorem dX7_oneTick_429 : decode cX7_oneTick 429 = .ok (.getfield 59, 3) := by decide +kernel
theorem dX7_oneTick_432 : decode cX7_oneTick 432 = .ok (.bipush 6, 2) := by decide +kernel
theorem dX7_oneTick_434 : decode cX7_oneTick 434 = .ok (.iload_n 2, 1) := by decide +kernel
theorem dX7_oneTick_435 : decode cX7_oneTick 435 = .ok (.imul, 1) := by decide +kernel
theorem dX7_oneTick_436 : decode cX7_oneTick 436 = .ok (.iconst 4, 1) := by decide +kernel
theorem dX7_oneTick_437 : decode cX7_oneTick 437 = .ok (.iadd, 1) := by decide +kernel
theorem dX7_oneTick_438 : decode cX7_oneTick 438 = .ok (.aload_n 0, 1) := by decide +kernel
theorem dX7_oneTick_439 : decode cX7_oneTick 439 = .ok (.getfield 29, 3) := by decide +kernel
theorem dX7_oneTick_442 : decode cX7_oneTick 442 = .ok (.iconst 5, 1) := by decide +kernel
theorem dX7_oneTick_443 : decode cX7_oneTick 443 = .ok (.iaload, 1) := by decide +kernel
theorem dX7_oneTick_444 : decode cX7_oneTick 444 = .ok (.iastore, 1) := by decide +kernel
theorem dX7_oneTick_445 : decode cX7_oneTick 445 = .ok (.aload_n 0, 1) := by decide +kernel
theorem dX7_oneTick_446 : decode cX7_oneTick 446 = .ok (.getfield 59, 3) := by decide +kernel
theorem dX7_oneTick_449 : decode cX7_oneTick 449 = .ok (.bipush 6, 2) := by decide +kernel
theorem dX7_oneTick_451 : decode cX7_oneTick 451 = .ok (.iload_n 2, 1) := by decide +kernel
theorem dX7_oneTick_452 : decode cX7_oneTick 452 = .ok (.imul, 1) := by decide +kernel
theorem dX7_oneTick_453 : decode cX7_oneTick 453 = .ok (.iconst 5, 1) := by decide +kernel
theorem dX7_oneTick_454 : decode cX7_oneTick 454 = .ok (.iadd, 1) := by decide +kernel
theorem dX7_oneTick_455 : decode cX7_oneTick 455 = .ok (.iload 5, 2) := by decide +kernel
theorem dX7_oneTick_457 : decode cX7_oneTick 457 = .ok (.iastore, 1) := by decide +kernel
theorem dX7_oneTick_458 : decode cX7_oneTick 458 = .ok (.aload_n 0, 1) := by decide +kernel
theorem dX7_oneTick_459 : decode cX7_oneTick 459 = .ok (.getfield 29, 3) := by decide +kernel
theorem dX7_oneTick_462 : decode cX7_oneTick 462 = .ok (.iconst 0, 1) := by decide +kernel
theorem dX7_oneTick_463 : decode cX7_oneTick 463 = .ok (.dup2, 1) := by decide +kernel
theorem dX7_oneTick_464 : decode cX7_oneTick 464 = .ok (.iaload, 1) := by decide +kernel
theorem dX7_oneTick_465 : decode cX7_oneTick 465 = .ok (.iconst 1, 1) := by decide +kernel
theorem dX7_oneTick_466 : decode cX7_oneTick 466 = .ok (.iadd, 1) := by decide +kernel
theorem dX7_oneTick_467 : decode cX7_oneTick 467 = .ok (.iastore, 1) := by decide +kernel
theorem dX7_oneTick_468 : decode cX7_oneTick 468 = .ok (.return_, 1) := by decide +kernel
set_option maxRecDepth 20000 in
theorem ggX7_tick_X7_in : GoodIn wsX7_tick wsX7_in := goodIn_r _ [7] rfl (by decide +kernel)
set_option maxRecDepth 20000 in
theorem gX7_tick_X7_in : GoodIn wsX7_tick (va_wsS RX7 83 yX7_in wsX7_in) := goodIn_app (goodIn_of _ (by decide +kernel)) ggX7_tick_X7_in
set_option maxRecDepth 20000 in
theorem ggX7_tick_X7_oneTick : GoodIn wsX7_tick wsX7_oneTick := goodIn_r _ [11, 2, 12, 13, 14, 15, 16, 17, 18, 19, 20, 21, 22, 23, 6, 24, 25, 26, 27, 28, 29, 30, 31, 32, 33, 34, 35, 36, 37, 38, 39, 40, 41, 42, 43, 44, 45, 46, 47, 48, 49, 50, 51, 52, 53, 54, 55, 56, 57, 58, 59, 60, 61, 62, 63, 64, 65, 66, 67, 68, 69, 70, 71, 72, 73, 74, 75, 76, 77, 78, 79, 80, 81, 82, 83, 84, 85, 86, 87, 88, 89, 90, 91, 92, 93, 94, 95, 96] rfl (by decide +kernel)
set_option maxRecDepth 20000 in
theorem gX7_tick_X7_oneTick : GoodIn wsX7_tick (wsV RX7 147 RX7 yX7_oneTick wsX7_oneTick) := goodIn_app (goodIn_of _ (by decide +kernel)) ggX7_tick_X7_oneTick
theorem dX7_tick_0 : decode cX7_tick 0 = .ok (.iload_n 1, 1) := by decide +kernel
theorem dX7_tick_1 : decode cX7_tick 1 = .ok (.i2l, 1) := by decide +kernel
theorem dX7_tick_2 : decode cX7_tick 2 = .ok (.lconst 0, 1) := by decide +kernel
theorem dX7_tick_3 : decode cX7_tick 3 = .ok (.ldc2_w 145, 3) := by decide +kernel
theorem dX7_tick_6 : decode cX7_tick 6 = .ok (.invokestatic 83, 3) := by decide +kernel
theorem dX7_tick_9 : decode cX7_tick 9 = .ok (.ifCond .ne 7, 3) := by decide +kernel
theorem dX7_tick_12 : decode cX7_tick 12 = .ok (.sipush (-1002), 3) := by decide +kernel
theorem dX7_tick_15 : decode cX7_tick 15 = .ok (.ireturn, 1) := by decide +kernel
theorem dX7_tick_16 : decode cX7_tick 16 = .ok (.aload_n 0, 1) := by decide +kernel
theorem dX7_tick_17 : decode cX7_tick 17 = .ok (.getfield 29, 3) := by decide +kernel
theorem dX7_tick_20 : decode cX7_tick 20 = .ok (.iconst 0, 1) := by decide +kernel
theorem dX7_tick_21 : decode cX7_tick 21 = .ok (.iaload, 1) := by decide +kernel
theorem dX7_tick_22 : decode cX7_tick 22 = .ok (.iload_n 1, 1) := by decide +kernel
theorem dX7_tick_23 : decode cX7_tick 23 = .ok (.iadd, 1) := by decide +kernel
theorem dX7_tick_24 : decode cX7_tick 24 = .ok (.sipush 200, 3) := by decide +kernel
theorem dX7_tick_27 : decode cX7_tick 27 = .ok (.if_icmp .le 7, 3) := by decide +kernel
theorem dX7_tick_30 : decode cX7_tick 30 = .ok (.sipush (-1003), 3) := by decide +kernel
theorem dX7_tick_33 : decode cX7_tick 33 = .ok (.ireturn, 1) := by decide +kernel
theorem dX7_tick_34 : decode cX7_tick 34 = .ok (.iconst 0, 1) := by decide +kernel
theorem dX7_tick_35 : decode cX7_tick 35 = .ok (.istore_n 2, 1) := by decide +kernel
theorem dX7_tick_36 : decode cX7_tick 36 = .ok (.iload_n 2, 1) := by decide +kernel
theorem dX7_tick_37 : decode cX7_tick 37 = .ok (.iload_n 1, 1) := by decide +kernel
theorem dX7_tick_38 : decode cX7_tick 38 = .ok (.if_icmp .ge 24, 3) := by decide +kernel
theorem dX7_tick_41 : decode cX7_tick 41 = .ok (.aload_n 0, 1) := by decide +kernel
theorem dX7_tick_42 : decode cX7_tick 42 = .ok (.aload_n 0, 1) := by decide +kernel
theorem dX7_tick_43 : decode cX7_tick 43 = .ok (.getfield 22, 3) := by decide +kernel
theorem dX7_tick_46 : decode cX7_tick 46 = .ok (.aload_n 0, 1) := by decide +kernel
theorem dX7_tick_47 : decode cX7_tick 47 = .ok (.getfield 29, 3) := by decide +kernel
theorem dX7_tick_50 : decode cX7_tick 50 = .ok (.iconst 0, 1) := by decide +kernel
theorem dX7_tick_51 : decode cX7_tick 51 = .ok (.iaload, 1) := by decide +kernel
theorem dX7_tick_52 : decode cX7_tick 52 = .ok (.baload, 1) := by decide +kernel
theorem dX7_tick_53 : decode cX7_tick 53 = .ok (.invokevirtual 147, 3) := by decide +kernel
theorem dX7_tick_56 : decode cX7_tick 56 = .ok (.iinc 2 1, 3) := by decide +kernel
theorem dX7_tick_59 : decode cX7_tick 59 = .ok (.goto (-23), 3) := by decide +kernel
theorem dX7_tick_62 : decode cX7_tick 62 = .ok (.aload_n 0, 1) := by decide +kernel
theorem dX7_tick_63 : decode cX7_tick 63 = .ok (.getfield 29, 3) := by decide +kernel
theorem dX7_tick_66 : decode cX7_tick 66 = .ok (.iconst 0, 1) := by decide +kernel
theorem dX7_tick_67 : decode cX7_tick 67 = .ok (.iaload, 1) := by decide +kernel
theorem dX7_tick_68 : decode cX7_tick 68 = .ok (.ireturn, 1) := by decide +kernel
set_option maxRecDepth 20000 in
theorem ggX7_fail_X7_in : GoodIn wsX7_fail wsX7_in := goodIn_r _ [6] rfl (by decide +kernel)
set_option maxRecDepth 20000 in
theorem gX7_fail_X7_in : GoodIn wsX7_fail (va_wsS RX7 83 yX7_in wsX7_in) := goodIn_app (goodIn_of _ (by decide +kernel)) ggX7_fail_X7_in
