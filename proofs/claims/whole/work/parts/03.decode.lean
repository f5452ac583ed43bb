theorem dX0_init_0 : decode cX0_init 0 = .ok (.aload_n 0, 1) := by decide +kernel
theorem dX0_init_1 : decode cX0_init 1 = .ok (.invokespecial 3, 3) := by decide +kernel
theorem dX0_init_4 : decode cX0_init 4 = .ok (.aload_n 0, 1) := by decide +kernel
theorem dX0_init_5 : decode cX0_init 5 = .ok (.bipush 13, 2) := by decide +kernel
theorem dX0_init_7 : decode cX0_init 7 = .ok (.sipush 541, 3) := by decide +kernel
theorem dX0_init_10 : decode cX0_init 10 = .ok (.multianewarray 11 2, 4) := by decide +kernel
theorem dX0_init_14 : decode cX0_init 14 = .ok (.putfield 13, 3) := by decide +kernel
theorem dX0_init_17 : decode cX0_init 17 = .ok (.aload_n 0, 1) := by decide +kernel
theorem dX0_init_18 : decode cX0_init 18 = .ok (.bipush 13, 2) := by decide +kernel
theorem dX0_init_20 : decode cX0_init 20 = .ok (.sipush 541, 3) := by decide +kernel
theorem dX0_init_23 : decode cX0_init 23 = .ok (.multianewarray 11 2, 4) := by decide +kernel
theorem dX0_init_27 : decode cX0_init 27 = .ok (.putfield 16, 3) := by decide +kernel
theorem dX0_init_30 : decode cX0_init 30 = .ok (.return_, 1) := by decide +kernel
set_option maxRecDepth 20000 in
theorem ggX0_leastBill_X0_forget : GoodIn wsX0_leastBill wsX0_forget := goodIn_r _ [11, 3] (by decide +kernel) (by decide +kernel)
set_option maxRecDepth 20000 in
theorem gX0_leastBill_X0_forget : GoodIn wsX0_leastBill (va_wsS RX0 19 yX0_forget wsX0_forget) := goodIn_app (goodIn_of _ (by decide +kernel)) ggX0_leastBill_X0_forget
set_option maxRecDepth 20000 in
theorem ggX0_leastBill_X0_allowAnyNumber : GoodIn wsX0_leastBill wsX0_allowAnyNumber := goodIn_r _ [15, 1, 16, 17, 10, 18, 4, 5, 6, 7, 44, 45] (by decide +kernel) (by decide +kernel)
set_option maxRecDepth 20000 in
theorem gX0_leastBill_X0_allowAnyNumber : GoodIn wsX0_leastBill (wsV RX0 23 RX0 yX0_allowAnyNumber wsX0_allowAnyNumber) := goodIn_app (goodIn_of _ (by decide +kernel)) ggX0_leastBill_X0_allowAnyNumber
set_option maxRecDepth 20000 in
theorem ggX0_leastBill_X5_value : GoodIn wsX0_leastBill wsX5_value := goodIn_r _ [23, 24, 25, 26, 27, 46, 47] (by decide +kernel) (by decide +kernel)
set_option maxRecDepth 20000 in
theorem gX0_leastBill_X5_value : GoodIn wsX0_leastBill (wsV RX0 29 RX5 yX5_value wsX5_value) := goodIn_app (goodIn_of _ (by decide +kernel)) ggX0_leastBill_X5_value
set_option maxRecDepth 20000 in
theorem ggX0_leastBill_X0_stillPatient : GoodIn wsX0_leastBill wsX0_stillPatient := goodIn_r _ [30, 31, 32, 6, 33, 4, 5, 7, 34, 35, 36, 37, 38, 39, 25, 26, 27, 48, 49, 50, 51, 52, 53, 54, 55, 56, 57, 58, 59, 60, 61] (by decide +kernel) (by decide +kernel)
set_option maxRecDepth 20000 in
theorem gX0_leastBill_X0_stillPatient : GoodIn wsX0_leastBill (va_wsS RX0 33 yX0_stillPatient wsX0_stillPatient) := goodIn_app (goodIn_of _ (by decide +kernel)) ggX0_leastBill_X0_stillPatient
set_option maxRecDepth 20000 in
theorem ggX0_leastBill_X4_loadOf : GoodIn wsX0_leastBill wsX4_loadOf := goodIn_r _ [38, 39, 25, 26, 27, 48, 49, 50, 51, 52, 53, 54, 55, 56, 57, 58, 59, 60, 61] (by decide +kernel) (by decide +kernel)
set_option maxRecDepth 20000 in
theorem gX0_leastBill_X4_loadOf : GoodIn wsX0_leastBill (wsV RX0 37 RX4 yX4_loadOf wsX4_loadOf) := goodIn_app (goodIn_of _ (by decide +kernel)) ggX0_leastBill_X4_loadOf
set_option maxRecDepth 20000 in
theorem ggX0_leastBill_X0_goOn : GoodIn wsX0_leastBill wsX0_goOn := goodIn_r _ [43, 4, 5, 6, 7, 31, 32, 33, 1, 2, 19, 20, 21, 22, 23, 24, 25, 26, 27, 44, 45, 46, 47] (by decide +kernel) (by decide +kernel)
set_option maxRecDepth 20000 in
theorem gX0_leastBill_X0_goOn : GoodIn wsX0_leastBill (wsV RX0 42 RX0 yX0_goOn wsX0_goOn) := goodIn_app (goodIn_of _ (by decide +kernel)) ggX0_leastBill_X0_goOn
theorem dX0_leastBill_0 : decode cX0_leastBill 0 = .ok (.iconst 0, 1) := by decide +kernel
theorem dX0_leastBill_1 : decode cX0_leastBill 1 = .ok (.istore 4, 2) := by decide +kernel
theorem dX0_leastBill_3 : decode cX0_leastBill 3 = .ok (.aload_n 0, 1) := by decide +kernel
theorem dX0_leastBill_4 : decode cX0_leastBill 4 = .ok (.getfield 13, 3) := by decide +kernel
theorem dX0_leastBill_7 : decode cX0_leastBill 7 = .ok (.iload 4, 2) := by decide +kernel
theorem dX0_leastBill_9 : decode cX0_leastBill 9 = .ok (.invokestatic 19, 3) := by decide +kernel
theorem dX0_leastBill_12 : decode cX0_leastBill 12 = .ok (.aload_n 0, 1) := by decide +kernel
theorem dX0_leastBill_13 : decode cX0_leastBill 13 = .ok (.getfield 13, 3) := by decide +kernel
theorem dX0_leastBill_16 : decode cX0_leastBill 16 = .ok (.iconst 0, 1) := by decide +kernel
theorem dX0_leastBill_17 : decode cX0_leastBill 17 = .ok (.aaload, 1) := by decide +kernel
theorem dX0_leastBill_18 : decode cX0_leastBill 18 = .ok (.iconst 0, 1) := by decide +kernel
theorem dX0_leastBill_19 : decode cX0_leastBill 19 = .ok (.iconst 0, 1) := by decide +kernel
theorem dX0_leastBill_20 : decode cX0_leastBill 20 = .ok (.iastore, 1) := by decide +kernel
theorem dX0_leastBill_21 : decode cX0_leastBill 21 = .ok (.iconst 0, 1) := by decide +kernel
theorem dX0_leastBill_22 : decode cX0_leastBill 22 = .ok (.istore 5, 2) := by decide +kernel
theorem dX0_leastBill_24 : decode cX0_leastBill 24 = .ok (.iload 5, 2) := by decide +kernel
theorem dX0_leastBill_26 : decode cX0_leastBill 26 = .ok (.iload_n 3, 1) := by decide +kernel
theorem dX0_leastBill_27 : decode cX0_leastBill 27 = .ok (.if_icmp .ge 76, 3) := by decide +kernel
theorem dX0_leastBill_30 : decode cX0_leastBill 30 = .ok (.aload_n 0, 1) := by decide +kernel
theorem dX0_leastBill_31 : decode cX0_leastBill 31 = .ok (.iload 4, 2) := by decide +kernel
theorem dX0_leastBill_33 : decode cX0_leastBill 33 = .ok (.invokevirtual 23, 3) := by decide +kernel
theorem dX0_leastBill_36 : decode cX0_leastBill 36 = .ok (.aload_n 2, 1) := by decide +kernel
theorem dX0_leastBill_37 : decode cX0_leastBill 37 = .ok (.iload 5, 2) := by decide +kernel
theorem dX0_leastBill_39 : decode cX0_leastBill 39 = .ok (.aload_n 1, 1) := by decide +kernel
theorem dX0_leastBill_40 : decode cX0_leastBill 40 = .ok (.iconst 3, 1) := by decide +kernel
theorem dX0_leastBill_41 : decode cX0_leastBill 41 = .ok (.invokevirtual 29, 3) := by decide +kernel
theorem dX0_leastBill_44 : decode cX0_leastBill 44 = .ok (.invokestatic 33, 3) := by decide +kernel
theorem dX0_leastBill_47 : decode cX0_leastBill 47 = .ok (.istore 6, 2) := by decide +kernel
theorem dX0_leastBill_49 : decode cX0_leastBill 49 = .ok (.aload_n 0, 1) := by decide +kernel
theorem dX0_leastBill_50 : decode cX0_leastBill 50 = .ok (.getfield 16, 3) := by decide +kernel
theorem dX0_leastBill_53 : decode cX0_leastBill 53 = .ok (.iload 6, 2) := by decide +kernel
theorem dX0_leastBill_55 : decode cX0_leastBill 55 = .ok (.invokestatic 19, 3) := by decide +kernel
theorem dX0_leastBill_58 : decode cX0_leastBill 58 = .ok (.aload_n 0, 1) := by decide +kernel
theorem dX0_leastBill_59 : decode cX0_leastBill 59 = .ok (.aload_n 1, 1) := by decide +kernel
theorem dX0_leastBill_60 : decode cX0_leastBill 60 = .ok (.aload_n 2, 1) := by decide +kernel
theorem dX0_leastBill_61 : decode cX0_leastBill 61 = .ok (.iload 5, 2) := by decide +kernel
theorem dX0_leastBill_63 : decode cX0_leastBill 63 = .ok (.invokevirtual 37, 3) := by decide +kernel
theorem dX0_leastBill_66 : decode cX0_leastBill 66 = .ok (.iload 4, 2) := by decide +kernel
theorem dX0_leastBill_68 : decode cX0_leastBill 68 = .ok (.iload 6, 2) := by decide +kernel
theorem dX0_leastBill_70 : decode cX0_leastBill 70 = .ok (.invokevirtual 42, 3) := by decide +kernel
theorem dX0_leastBill_73 : decode cX0_leastBill 73 = .ok (.aload_n 0, 1) := by decide +kernel
theorem dX0_leastBill_74 : decode cX0_leastBill 74 = .ok (.getfield 13, 3) := by decide +kernel
theorem dX0_leastBill_77 : decode cX0_leastBill 77 = .ok (.astore 7, 2) := by decide +kernel
theorem dX0_leastBill_79 : decode cX0_leastBill 79 = .ok (.aload_n 0, 1) := by decide +kernel
theorem dX0_leastBill_80 : decode cX0_leastBill 80 = .ok (.aload_n 0, 1) := by decide +kernel
theorem dX0_leastBill_81 : decode cX0_leastBill 81 = .ok (.getfield 16, 3) := by decide +kernel
theorem dX0_leastBill_84 : decode cX0_leastBill 84 = .ok (.putfield 13, 3) := by decide +kernel
theorem dX0_leastBill_87 : decode cX0_leastBill 87 = .ok (.aload_n 0, 1) := by decide +kernel
theorem dX0_leastBill_88 : decode cX0_leastBill 88 = .ok (.aload 7, 2) := by decide +kernel
theorem dX0_leastBill_90 : decode cX0_leastBill 90 = .ok (.putfield 16, 3) := by decide +kernel
theorem dX0_leastBill_93 : decode cX0_leastBill 93 = .ok (.iload 6, 2) := by decide +kernel
theorem dX0_leastBill_95 : decode cX0_leastBill 95 = .ok (.istore 4, 2) := by decide +kernel
theorem dX0_leastBill_97 : decode cX0_leastBill 97 = .ok (.iinc 5 1, 3) := by decide +kernel
theorem dX0_leastBill_100 : decode cX0_leastBill 100 = .ok (.goto (-76), 3) := by decide +kernel
theorem dX0_leastBill_103 : decode cX0_leastBill 103 = .ok (.aload_n 0, 1) := by decide +kernel
theorem dX0_leastBill_104 : decode cX0_leastBill 104 = .ok (.iload 4, 2) := by decide +kernel
theorem dX0_leastBill_106 : decode cX0_leastBill 106 = .ok (.invokevirtual 23, 3) := by decide +kernel
theorem dX0_leastBill_109 : decode cX0_leastBill 109 = .ok (.ldc 46, 2) := by decide +kernel
theorem dX0_leastBill_111 : decode cX0_leastBill 111 = .ok (.istore 5, 2) := by decide +kernel
theorem dX0_leastBill_113 : decode cX0_leastBill 113 = .ok (.iconst 0, 1) := by decide +kernel
theorem dX0_leastBill_114 : decode cX0_leastBill 114 = .ok (.istore 6, 2) := by decide +kernel
theorem dX0_leastBill_116 : decode cX0_leastBill 116 = .ok (.iload 6, 2) := by decide +kernel
theorem dX0_leastBill_118 : decode cX0_leastBill 118 = .ok (.iload 4, 2) := by decide +kernel
theorem dX0_leastBill_120 : decode cX0_leastBill 120 = .ok (.if_icmp .gt 33, 3) := by decide +kernel
theorem dX0_leastBill_123 : decode cX0_leastBill 123 = .ok (.iload 6, 2) := by decide +kernel
theorem dX0_leastBill_125 : decode cX0_leastBill 125 = .ok (.sipush 541, 3) := by decide +kernel
theorem dX0_leastBill_128 : decode cX0_leastBill 128 = .ok (.if_icmp .ge 25, 3) := by decide +kernel
theorem dX0_leastBill_131 : decode cX0_leastBill 131 = .ok (.iload 5, 2) := by decide +kernel
theorem dX0_leastBill_133 : decode cX0_leastBill 133 = .ok (.aload_n 0, 1) := by decide +kernel
theorem dX0_leastBill_134 : decode cX0_leastBill 134 = .ok (.getfield 13, 3) := by decide +kernel
theorem dX0_leastBill_137 : decode cX0_leastBill 137 = .ok (.iconst 0, 1) := by decide +kernel
theorem dX0_leastBill_138 : decode cX0_leastBill 138 = .ok (.aaload, 1) := by decide +kernel
theorem dX0_leastBill_139 : decode cX0_leastBill 139 = .ok (.iload 6, 2) := by decide +kernel
theorem dX0_leastBill_141 : decode cX0_leastBill 141 = .ok (.iaload, 1) := by decide +kernel
theorem dX0_leastBill_142 : decode cX0_leastBill 142 = .ok (.invokestatic 47, 3) := by decide +kernel
theorem dX0_leastBill_145 : decode cX0_leastBill 145 = .ok (.istore 5, 2) := by decide +kernel
theorem dX0_leastBill_147 : decode cX0_leastBill 147 = .ok (.iinc 6 1, 3) := by decide +kernel
theorem dX0_leastBill_150 : decode cX0_leastBill 150 = .ok (.goto (-34), 3) := by decide +kernel
theorem dX0_leastBill_153 : decode cX0_leastBill 153 = .ok (.iload 5, 2) := by decide +kernel
theorem dX0_leastBill_155 : decode cX0_leastBill 155 = .ok (.ldc 46, 2) := by decide +kernel
theorem dX0_leastBill_157 : decode cX0_leastBill 157 = .ok (.if_icmp .ge 15, 3) := by decide +kernel
theorem dX0_leastBill_160 : decode cX0_leastBill 160 = .ok (.iload 5, 2) := by decide +kernel
theorem dX0_leastBill_162 : decode cX0_leastBill 162 = .ok (.aload_n 1, 1) := by decide +kernel
theorem dX0_leastBill_163 : decode cX0_leastBill 163 = .ok (.bipush 16, 2) := by decide +kernel
theorem dX0_leastBill_165 : decode cX0_leastBill 165 = .ok (.invokevirtual 29, 3) := by decide +kernel
theorem dX0_leastBill_168 : decode cX0_leastBill 168 = .ok (.imul, 1) := by decide +kernel
theorem dX0_leastBill_169 : decode cX0_leastBill 169 = .ok (.goto 4, 3) := by decide +kernel
theorem dX0_leastBill_172 : decode cX0_leastBill 172 = .ok (.iconst (-1), 1) := by decide +kernel
theorem dX0_leastBill_173 : decode cX0_leastBill 173 = .ok (.ireturn, 1) := by decide +kernel
theorem dX0_forget_0 : decode cX0_forget 0 = .ok (.iconst 0, 1) := by decide +kernel
theorem dX0_forget_1 : decode cX0_forget 1 = .ok (.istore_n 2, 1) := by decide +kernel
theorem dX0_forget_2 : decode cX0_forget 2 = .ok (.iload_n 2, 1) := by decide +kernel
theorem dX0_forget_3 : decode cX0_forget 3 = .ok (.bipush 12, 2) := by decide +kernel
theorem dX0_forget_5 : decode cX0_forget 5 = .ok (.if_icmp .gt 36, 3) := by decide +kernel
theorem dX0_forget_8 : decode cX0_forget 8 = .ok (.iconst 0, 1) := by decide +kernel
theorem dX0_forget_9 : decode cX0_forget 9 = .ok (.istore_n 3, 1) := by decide +kernel
theorem dX0_forget_10 : decode cX0_forget 10 = .ok (.iload_n 3, 1) := by decide +kernel
theorem dX0_forget_11 : decode cX0_forget 11 = .ok (.iload_n 1, 1) := by decide +kernel
theorem dX0_forget_12 : decode cX0_forget 12 = .ok (.if_icmp .gt 23, 3) := by decide +kernel
theorem dX0_forget_15 : decode cX0_forget 15 = .ok (.iload_n 3, 1) := by decide +kernel
theorem dX0_forget_16 : decode cX0_forget 16 = .ok (.sipush 541, 3) := by decide +kernel
theorem dX0_forget_19 : decode cX0_forget 19 = .ok (.if_icmp .ge 16, 3) := by decide +kernel
theorem dX0_forget_22 : decode cX0_forget 22 = .ok (.aload_n 0, 1) := by decide +kernel
theorem dX0_forget_23 : decode cX0_forget 23 = .ok (.iload_n 2, 1) := by decide +kernel
theorem dX0_forget_24 : decode cX0_forget 24 = .ok (.aaload, 1) := by decide +kernel
theorem dX0_forget_25 : decode cX0_forget 25 = .ok (.iload_n 3, 1) := by decide +kernel
theorem dX0_forget_26 : decode cX0_forget 26 = .ok (.ldc 46, 2) := by decide +kernel
theorem dX0_forget_28 : decode cX0_forget 28 = .ok (.iastore, 1) := by decide +kernel
theorem dX0_forget_29 : decode cX0_forget 29 = .ok (.iinc 3 1, 3) := by decide +kernel
theorem dX0_forget_32 : decode cX0_forget 32 = .ok (.goto (-22), 3) := by decide +kernel
theorem dX0_forget_35 : decode cX0_forget 35 = .ok (.iinc 2 1, 3) := by decide +kernel
theorem dX0_forget_38 : decode cX0_forget 38 = .ok (.goto (-36), 3) := by decide +kernel
theorem dX0_forget_41 : decode cX0_forget 41 = .ok (.return_, 1) := by decide +kernel
set_option maxRecDepth 20000 in
theorem ggX0_stillPatient_X4_loadOf : GoodIn wsX0_stillPatient wsX4_loadOf := goodIn_r _ [12, 13, 14, 15, 16, 17, 18, 19, 20, 21, 22, 23, 24, 25, 26, 27, 28, 29, 30] (by decide +kernel) (by decide +kernel)
set_option maxRecDepth 20000 in
theorem gX0_stillPatient_X4_loadOf : GoodIn wsX0_stillPatient (wsV RX0 37 RX4 yX4_loadOf wsX4_loadOf) := goodIn_app (goodIn_of _ (by decide +kernel)) ggX0_stillPatient_X4_loadOf
theorem dX0_stillPatient_0 : decode cX0_stillPatient 0 = .ok (.iconst 0, 1) := by decide +kernel
theorem dX0_stillPatient_1 : decode cX0_stillPatient 1 = .ok (.istore_n 3, 1) := by decide +kernel
theorem dX0_stillPatient_2 : decode cX0_stillPatient 2 = .ok (.iload_n 1, 1) := by decide +kernel
theorem dX0_stillPatient_3 : decode cX0_stillPatient 3 = .ok (.iload_n 2, 1) := by decide +kernel
theorem dX0_stillPatient_4 : decode cX0_stillPatient 4 = .ok (.isub, 1) := by decide +kernel
theorem dX0_stillPatient_5 : decode cX0_stillPatient 5 = .ok (.iconst 2, 1) := by decide +kernel
theorem dX0_stillPatient_6 : decode cX0_stillPatient 6 = .ok (.iadd, 1) := by decide +kernel
theorem dX0_stillPatient_7 : decode cX0_stillPatient 7 = .ok (.iconst 0, 1) := by decide +kernel
theorem dX0_stillPatient_8 : decode cX0_stillPatient 8 = .ok (.invokestatic 53, 3) := by decide +kernel
theorem dX0_stillPatient_11 : decode cX0_stillPatient 11 = .ok (.istore 4, 2) := by decide +kernel
theorem dX0_stillPatient_13 : decode cX0_stillPatient 13 = .ok (.iload 4, 2) := by decide +kernel
theorem dX0_stillPatient_15 : decode cX0_stillPatient 15 = .ok (.iload_n 1, 1) := by decide +kernel
theorem dX0_stillPatient_16 : decode cX0_stillPatient 16 = .ok (.if_icmp .gt 18, 3) := by decide +kernel
theorem dX0_stillPatient_19 : decode cX0_stillPatient 19 = .ok (.iload_n 3, 1) := by decide +kernel
theorem dX0_stillPatient_20 : decode cX0_stillPatient 20 = .ok (.aload_n 0, 1) := by decide +kernel
theorem dX0_stillPatient_21 : decode cX0_stillPatient 21 = .ok (.iload 4, 2) := by decide +kernel
theorem dX0_stillPatient_23 : decode cX0_stillPatient 23 = .ok (.invokevirtual 37, 3) := by decide +kernel
theorem dX0_stillPatient_26 : decode cX0_stillPatient 26 = .ok (.iadd, 1) := by decide +kernel
theorem dX0_stillPatient_27 : decode cX0_stillPatient 27 = .ok (.istore_n 3, 1) := by decide +kernel
theorem dX0_stillPatient_28 : decode cX0_stillPatient 28 = .ok (.iinc 4 1, 3) := by decide +kernel
theorem dX0_stillPatient_31 : decode cX0_stillPatient 31 = .ok (.goto (-18), 3) := by decide +kernel
theorem dX0_stillPatient_34 : decode cX0_stillPatient 34 = .ok (.iload_n 3, 1) := by decide +kernel
theorem dX0_stillPatient_35 : decode cX0_stillPatient 35 = .ok (.sipush 540, 3) := by decide +kernel
theorem dX0_stillPatient_38 : decode cX0_stillPatient 38 = .ok (.invokestatic 47, 3) := by decide +kernel
theorem dX0_stillPatient_41 : decode cX0_stillPatient 41 = .ok (.ireturn, 1) := by decide +kernel
set_option maxRecDepth 20000 in
theorem ggX0_allowAnyNumber_X0_lower : GoodIn wsX0_allowAnyNumber wsX0_lower := goodIn_r _ [5, 6, 7, 8, 9] (by decide +kernel) (by decide +kernel)
set_option maxRecDepth 20000 in
theorem gX0_allowAnyNumber_X0_lower : GoodIn wsX0_allowAnyNumber (va_wsS RX0 56 yX0_lower wsX0_lower) := goodIn_app (goodIn_of _ (by decide +kernel)) ggX0_allowAnyNumber_X0_lower
theorem dX0_allowAnyNumber_0 : decode cX0_allowAnyNumber 0 = .ok (.bipush 11, 2) := by decide +kernel
theorem dX0_allowAnyNumber_2 : decode cX0_allowAnyNumber 2 = .ok (.istore_n 2, 1) := by decide +kernel
theorem dX0_allowAnyNumber_3 : decode cX0_allowAnyNumber 3 = .ok (.iload_n 2, 1) := by decide +kernel
theorem dX0_allowAnyNumber_4 : decode cX0_allowAnyNumber 4 = .ok (.ifCond .lt 28, 3) := by decide +kernel
theorem dX0_allowAnyNumber_7 : decode cX0_allowAnyNumber 7 = .ok (.aload_n 0, 1) := by decide +kernel
theorem dX0_allowAnyNumber_8 : decode cX0_allowAnyNumber 8 = .ok (.getfield 13, 3) := by decide +kernel
theorem dX0_allowAnyNumber_11 : decode cX0_allowAnyNumber 11 = .ok (.iload_n 2, 1) := by decide +kernel
theorem dX0_allowAnyNumber_12 : decode cX0_allowAnyNumber 12 = .ok (.aaload, 1) := by decide +kernel
theorem dX0_allowAnyNumber_13 : decode cX0_allowAnyNumber 13 = .ok (.aload_n 0, 1) := by decide +kernel
theorem dX0_allowAnyNumber_14 : decode cX0_allowAnyNumber 14 = .ok (.getfield 13, 3) := by decide +kernel
theorem dX0_allowAnyNumber_17 : decode cX0_allowAnyNumber 17 = .ok (.iload_n 2, 1) := by decide +kernel
theorem dX0_allowAnyNumber_18 : decode cX0_allowAnyNumber 18 = .ok (.iconst 1, 1) := by decide +kernel
theorem dX0_allowAnyNumber_19 : decode cX0_allowAnyNumber 19 = .ok (.iadd, 1) := by decide +kernel
theorem dX0_allowAnyNumber_20 : decode cX0_allowAnyNumber 20 = .ok (.aaload, 1) := by decide +kernel
theorem dX0_allowAnyNumber_21 : decode cX0_allowAnyNumber 21 = .ok (.iconst 0, 1) := by decide +kernel
theorem dX0_allowAnyNumber_22 : decode cX0_allowAnyNumber 22 = .ok (.iload_n 1, 1) := by decide +kernel
theorem dX0_allowAnyNumber_23 : decode cX0_allowAnyNumber 23 = .ok (.invokestatic 56, 3) := by decide +kernel
theorem dX0_allowAnyNumber_26 : decode cX0_allowAnyNumber 26 = .ok (.iinc 2 (-1), 3) := by decide +kernel
theorem dX0_allowAnyNumber_29 : decode cX0_allowAnyNumber 29 = .ok (.goto (-26), 3) := by decide +kernel
theorem dX0_allowAnyNumber_32 : decode cX0_allowAnyNumber 32 = .ok (.iconst 1, 1) := by decide +kernel
theorem dX0_allowAnyNumber_33 : decode cX0_allowAnyNumber 33 = .ok (.istore_n 2, 1) := by decide +kernel
theorem dX0_allowAnyNumber_34 : decode cX0_allowAnyNumber 34 = .ok (.iload_n 2, 1) := by decide +kernel
theorem dX0_allowAnyNumber_35 : decode cX0_allowAnyNumber 35 = .ok (.bipush 12, 2) := by decide +kernel
theorem dX0_allowAnyNumber_37 : decode cX0_allowAnyNumber 37 = .ok (.if_icmp .gt 28, 3) := by decide +kernel
theorem dX0_allowAnyNumber_40 : decode cX0_allowAnyNumber 40 = .ok (.aload_n 0, 1) := by decide +kernel
theorem dX0_allowAnyNumber_41 : decode cX0_allowAnyNumber 41 = .ok (.getfield 13, 3) := by decide +kernel
theorem dX0_allowAnyNumber_44 : decode cX0_allowAnyNumber 44 = .ok (.iload_n 2, 1) := by decide +kernel
theorem dX0_allowAnyNumber_45 : decode cX0_allowAnyNumber 45 = .ok (.aaload, 1) := by decide +kernel
theorem dX0_allowAnyNumber_46 : decode cX0_allowAnyNumber 46 = .ok (.aload_n 0, 1) := by decide +kernel
theorem dX0_allowAnyNumber_47 : decode cX0_allowAnyNumber 47 = .ok (.getfield 13, 3) := by decide +kernel
theorem dX0_allowAnyNumber_50 : decode cX0_allowAnyNumber 50 = .ok (.iload_n 2, 1) := by decide +kernel
theorem dX0_allowAnyNumber_51 : decode cX0_allowAnyNumber 51 = .ok (.iconst 1, 1) := by decide +kernel
theorem dX0_allowAnyNumber_52 : decode cX0_allowAnyNumber 52 = .ok (.isub, 1) := by decide +kernel
theorem dX0_allowAnyNumber_53 : decode cX0_allowAnyNumber 53 = .ok (.aaload, 1) := by decide +kernel
theorem dX0_allowAnyNumber_54 : decode cX0_allowAnyNumber 54 = .ok (.iconst 1, 1) := by decide +kernel
theorem dX0_allowAnyNumber_55 : decode cX0_allowAnyNumber 55 = .ok (.iload_n 1, 1) := by decide +kernel
theorem dX0_allowAnyNumber_56 : decode cX0_allowAnyNumber 56 = .ok (.invokestatic 56, 3) := by decide +kernel
theorem dX0_allowAnyNumber_59 : decode cX0_allowAnyNumber 59 = .ok (.iinc 2 1, 3) := by decide +kernel
theorem dX0_allowAnyNumber_62 : decode cX0_allowAnyNumber 62 = .ok (.goto (-28), 3) := by decide +kernel
theorem dX0_allowAnyNumber_65 : decode cX0_allowAnyNumber 65 = .ok (.return_, 1) := by decide +kernel
theorem dX0_lower_0 : decode cX0_lower 0 = .ok (.iconst 0, 1) := by decide +kernel
theorem dX0_lower_1 : decode cX0_lower 1 = .ok (.istore 4, 2) := by decide +kernel
theorem dX0_lower_3 : decode cX0_lower 3 = .ok (.iload 4, 2) := by decide +kernel
theorem dX0_lower_5 : decode cX0_lower 5 = .ok (.iload_n 3, 1) := by decide +kernel
theorem dX0_lower_6 : decode cX0_lower 6 = .ok (.if_icmp .gt 34, 3) := by decide +kernel
theorem dX0_lower_9 : decode cX0_lower 9 = .ok (.iload 4, 2) := by decide +kernel
theorem dX0_lower_11 : decode cX0_lower 11 = .ok (.sipush 541, 3) := by decide +kernel
theorem dX0_lower_14 : decode cX0_lower 14 = .ok (.if_icmp .ge 26, 3) := by decide +kernel
theorem dX0_lower_17 : decode cX0_lower 17 = .ok (.aload_n 0, 1) := by decide +kernel
theorem dX0_lower_18 : decode cX0_lower 18 = .ok (.iload 4, 2) := by decide +kernel
theorem dX0_lower_20 : decode cX0_lower 20 = .ok (.aload_n 0, 1) := by decide +kernel
theorem dX0_lower_21 : decode cX0_lower 21 = .ok (.iload 4, 2) := by decide +kernel
theorem dX0_lower_23 : decode cX0_lower 23 = .ok (.iaload, 1) := by decide +kernel
theorem dX0_lower_24 : decode cX0_lower 24 = .ok (.aload_n 1, 1) := by decide +kernel
theorem dX0_lower_25 : decode cX0_lower 25 = .ok (.iload 4, 2) := by decide +kernel
theorem dX0_lower_27 : decode cX0_lower 27 = .ok (.iaload, 1) := by decide +kernel
theorem dX0_lower_28 : decode cX0_lower 28 = .ok (.iload_n 2, 1) := by decide +kernel
theorem dX0_lower_29 : decode cX0_lower 29 = .ok (.iadd, 1) := by decide +kernel
theorem dX0_lower_30 : decode cX0_lower 30 = .ok (.invokestatic 47, 3) := by decide +kernel
theorem dX0_lower_33 : decode cX0_lower 33 = .ok (.iastore, 1) := by decide +kernel
theorem dX0_lower_34 : decode cX0_lower 34 = .ok (.iinc 4 1, 3) := by decide +kernel
theorem dX0_lower_37 : decode cX0_lower 37 = .ok (.goto (-34), 3) := by decide +kernel
theorem dX0_lower_40 : decode cX0_lower 40 = .ok (.return_, 1) := by decide +kernel
set_option maxRecDepth 20000 in
theorem ggX0_goOn_X5_value : GoodIn wsX0_goOn wsX5_value := goodIn_r _ [14, 15, 16, 17, 18, 21, 22] (by decide +kernel) (by decide +kernel)
set_option maxRecDepth 20000 in
theorem gX0_goOn_X5_value : GoodIn wsX0_goOn (wsV RX0 29 RX5 yX5_value wsX5_value) := goodIn_app (goodIn_of _ (by decide +kernel)) ggX0_goOn_X5_value
theorem dX0_goOn_0 : decode cX0_goOn 0 = .ok (.aload_n 1, 1) := by decide +kernel
theorem dX0_goOn_1 : decode cX0_goOn 1 = .ok (.bipush 8, 2) := by decide +kernel
theorem dX0_goOn_3 : decode cX0_goOn 3 = .ok (.invokevirtual 29, 3) := by decide +kernel
theorem dX0_goOn_6 : decode cX0_goOn 6 = .ok (.bipush 12, 2) := by decide +kernel
theorem dX0_goOn_8 : decode cX0_goOn 8 = .ok (.invokestatic 47, 3) := by decide +kernel
theorem dX0_goOn_11 : decode cX0_goOn 11 = .ok (.istore 5, 2) := by decide +kernel
theorem dX0_goOn_13 : decode cX0_goOn 13 = .ok (.iload 4, 2) := by decide +kernel
theorem dX0_goOn_15 : decode cX0_goOn 15 = .ok (.sipush 540, 3) := by decide +kernel
theorem dX0_goOn_18 : decode cX0_goOn 18 = .ok (.invokestatic 47, 3) := by decide +kernel
theorem dX0_goOn_21 : decode cX0_goOn 21 = .ok (.istore 6, 2) := by decide +kernel
theorem dX0_goOn_23 : decode cX0_goOn 23 = .ok (.aload_n 1, 1) := by decide +kernel
theorem dX0_goOn_24 : decode cX0_goOn 24 = .ok (.bipush 7, 2) := by decide +kernel
theorem dX0_goOn_26 : decode cX0_goOn 26 = .ok (.invokevirtual 29, 3) := by decide +kernel
theorem dX0_goOn_29 : decode cX0_goOn 29 = .ok (.iconst 0, 1) := by decide +kernel
theorem dX0_goOn_30 : decode cX0_goOn 30 = .ok (.invokestatic 53, 3) := by decide +kernel
theorem dX0_goOn_33 : decode cX0_goOn 33 = .ok (.istore 7, 2) := by decide +kernel
theorem dX0_goOn_35 : decode cX0_goOn 35 = .ok (.iload 7, 2) := by decide +kernel
theorem dX0_goOn_37 : decode cX0_goOn 37 = .ok (.iload 5, 2) := by decide +kernel
theorem dX0_goOn_39 : decode cX0_goOn 39 = .ok (.if_icmp .gt 104, 3) := by decide +kernel
theorem dX0_goOn_42 : decode cX0_goOn 42 = .ok (.aload_n 0, 1) := by decide +kernel
theorem dX0_goOn_43 : decode cX0_goOn 43 = .ok (.getfield 13, 3) := by decide +kernel
theorem dX0_goOn_46 : decode cX0_goOn 46 = .ok (.iload 7, 2) := by decide +kernel
theorem dX0_goOn_48 : decode cX0_goOn 48 = .ok (.aaload, 1) := by decide +kernel
theorem dX0_goOn_49 : decode cX0_goOn 49 = .ok (.astore 8, 2) := by decide +kernel
theorem dX0_goOn_51 : decode cX0_goOn 51 = .ok (.aload_n 0, 1) := by decide +kernel
theorem dX0_goOn_52 : decode cX0_goOn 52 = .ok (.getfield 16, 3) := by decide +kernel
theorem dX0_goOn_55 : decode cX0_goOn 55 = .ok (.iload 7, 2) := by decide +kernel
theorem dX0_goOn_57 : decode cX0_goOn 57 = .ok (.aaload, 1) := by decide +kernel
theorem dX0_goOn_58 : decode cX0_goOn 58 = .ok (.astore 9, 2) := by decide +kernel
theorem dX0_goOn_60 : decode cX0_goOn 60 = .ok (.iload_n 2, 1) := by decide +kernel
theorem dX0_goOn_61 : decode cX0_goOn 61 = .ok (.iload 7, 2) := by decide +kernel
theorem dX0_goOn_63 : decode cX0_goOn 63 = .ok (.aload_n 1, 1) := by decide +kernel
theorem dX0_goOn_64 : decode cX0_goOn 64 = .ok (.iconst 2, 1) := by decide +kernel
theorem dX0_goOn_65 : decode cX0_goOn 65 = .ok (.invokevirtual 29, 3) := by decide +kernel
theorem dX0_goOn_68 : decode cX0_goOn 68 = .ok (.imul, 1) := by decide +kernel
theorem dX0_goOn_69 : decode cX0_goOn 69 = .ok (.isub, 1) := by decide +kernel
theorem dX0_goOn_70 : decode cX0_goOn 70 = .ok (.istore 10, 2) := by decide +kernel
theorem dX0_goOn_72 : decode cX0_goOn 72 = .ok (.iconst 0, 1) := by decide +kernel
theorem dX0_goOn_73 : decode cX0_goOn 73 = .ok (.istore 11, 2) := by decide +kernel
theorem dX0_goOn_75 : decode cX0_goOn 75 = .ok (.iload 11, 2) := by decide +kernel
theorem dX0_goOn_77 : decode cX0_goOn 77 = .ok (.iload_n 3, 1) := by decide +kernel
theorem dX0_goOn_78 : decode cX0_goOn 78 = .ok (.if_icmp .gt 59, 3) := by decide +kernel
theorem dX0_goOn_81 : decode cX0_goOn 81 = .ok (.iload 11, 2) := by decide +kernel
theorem dX0_goOn_83 : decode cX0_goOn 83 = .ok (.sipush 541, 3) := by decide +kernel
theorem dX0_goOn_86 : decode cX0_goOn 86 = .ok (.if_icmp .ge 51, 3) := by decide +kernel
theorem dX0_goOn_89 : decode cX0_goOn 89 = .ok (.iload 11, 2) := by decide +kernel
theorem dX0_goOn_91 : decode cX0_goOn 91 = .ok (.iload 10, 2) := by decide +kernel
theorem dX0_goOn_93 : decode cX0_goOn 93 = .ok (.iadd, 1) := by decide +kernel
theorem dX0_goOn_94 : decode cX0_goOn 94 = .ok (.iload 6, 2) := by decide +kernel
theorem dX0_goOn_96 : decode cX0_goOn 96 = .ok (.if_icmp .gt 41, 3) := by decide +kernel
theorem dX0_goOn_99 : decode cX0_goOn 99 = .ok (.iload 11, 2) := by decide +kernel
theorem dX0_goOn_101 : decode cX0_goOn 101 = .ok (.iload 10, 2) := by decide +kernel
theorem dX0_goOn_103 : decode cX0_goOn 103 = .ok (.iadd, 1) := by decide +kernel
theorem dX0_goOn_104 : decode cX0_goOn 104 = .ok (.iconst 0, 1) := by decide +kernel
theorem dX0_goOn_105 : decode cX0_goOn 105 = .ok (.invokestatic 53, 3) := by decide +kernel
theorem dX0_goOn_108 : decode cX0_goOn 108 = .ok (.istore 12, 2) := by decide +kernel
theorem dX0_goOn_110 : decode cX0_goOn 110 = .ok (.aload 9, 2) := by decide +kernel
theorem dX0_goOn_112 : decode cX0_goOn 112 = .ok (.iload 12, 2) := by decide +kernel
theorem dX0_goOn_114 : decode cX0_goOn 114 = .ok (.aload 9, 2) := by decide +kernel
theorem dX0_goOn_116 : decode cX0_goOn 116 = .ok (.iload 12, 2) := by decide +kernel
theorem dX0_goOn_118 : decode cX0_goOn 118 = .ok (.iaload, 1) := by decide +kernel
theorem dX0_goOn_119 : decode cX0_goOn 119 = .ok (.aload 8, 2) := by decide +kernel
theorem dX0_goOn_121 : decode cX0_goOn 121 = .ok (.iload 11, 2) := by decide +kernel
theorem dX0_goOn_123 : decode cX0_goOn 123 = .ok (.iaload, 1) := by decide +kernel
theorem dX0_goOn_124 : decode cX0_goOn 124 = .ok (.iload 7, 2) := by decide +kernel
theorem dX0_goOn_126 : decode cX0_goOn 126 = .ok (.iadd, 1) := by decide +kernel
theorem dX0_goOn_127 : decode cX0_goOn 127 = .ok (.invokestatic 47, 3) := by decide +kernel
theorem dX0_goOn_130 : decode cX0_goOn 130 = .ok (.iastore, 1) := by decide +kernel
theorem dX0_goOn_131 : decode cX0_goOn 131 = .ok (.iinc 11 1, 3) := by decide +kernel
theorem dX0_goOn_134 : decode cX0_goOn 134 = .ok (.goto (-59), 3) := by decide +kernel
theorem dX0_goOn_137 : decode cX0_goOn 137 = .ok (.iinc 7 1, 3) := by decide +kernel
theorem dX0_goOn_140 : decode cX0_goOn 140 = .ok (.goto (-105), 3) := by decide +kernel
theorem dX0_goOn_143 : decode cX0_goOn 143 = .ok (.return_, 1) := by decide +kernel
theorem dX1_init_0 : decode cX1_init 0 = .ok (.aload_n 0, 1) := by decide +kernel
theorem dX1_init_1 : decode cX1_init 1 = .ok (.invokespecial 3, 3) := by decide +kernel
theorem dX1_init_4 : decode cX1_init 4 = .ok (.aload_n 0, 1) := by decide +kernel
theorem dX1_init_5 : decode cX1_init 5 = .ok (.sipush 200, 3) := by decide +kernel
theorem dX1_init_8 : decode cX1_init 8 = .ok (.newarray .int, 2) := by decide +kernel
theorem dX1_init_10 : decode cX1_init 10 = .ok (.putfield 9, 3) := by decide +kernel
theorem dX1_init_13 : decode cX1_init 13 = .ok (.return_, 1) := by decide +kernel
theorem dX1_begin_0 : decode cX1_begin 0 = .ok (.aload_n 0, 1) := by decide +kernel
theorem dX1_begin_1 : decode cX1_begin 1 = .ok (.iconst 0, 1) := by decide +kernel
theorem dX1_begin_2 : decode cX1_begin 2 = .ok (.putfield 15, 3) := by decide +kernel
theorem dX1_begin_5 : decode cX1_begin 5 = .ok (.return_, 1) := by decide +kernel
set_option maxRecDepth 20000 in
theorem ggX1_note_X6_within : GoodIn wsX1_note wsX6_within := goodIn_r _ [4] (by decide +kernel) (by decide +kernel)
set_option maxRecDepth 20000 in
theorem gX1_note_X6_within_n19 : GoodIn wsX1_note (wsX6_within) := ggX1_note_X6_within
theorem dX1_note_0 : decode cX1_note 0 = .ok (.iload_n 1, 1) := by decide +kernel
theorem dX1_note_1 : decode cX1_note 1 = .ok (.iconst 0, 1) := by decide +kernel
theorem dX1_note_2 : decode cX1_note 2 = .ok (.sipush 199, 3) := by decide +kernel
theorem dX1_note_5 : decode cX1_note 5 = .ok (.invokestatic 19, 3) := by decide +kernel
theorem dX1_note_8 : decode cX1_note 8 = .ok (.ifCond .eq 10, 3) := by decide +kernel
theorem dX1_note_11 : decode cX1_note 11 = .ok (.aload_n 0, 1) := by decide +kernel
theorem dX1_note_12 : decode cX1_note 12 = .ok (.getfield 9, 3) := by decide +kernel
theorem dX1_note_15 : decode cX1_note 15 = .ok (.iload_n 1, 1) := by decide +kernel
theorem dX1_note_16 : decode cX1_note 16 = .ok (.iload_n 2, 1) := by decide +kernel
theorem dX1_note_17 : decode cX1_note 17 = .ok (.iastore, 1) := by decide +kernel
theorem dX1_note_18 : decode cX1_note 18 = .ok (.return_, 1) := by decide +kernel
theorem dX1_read_0 : decode cX1_read 0 = .ok (.iconst 0, 1) := by decide +kernel
theorem dX1_read_1 : decode cX1_read 1 = .ok (.istore_n 3, 1) := by decide +kernel
theorem dX1_read_2 : decode cX1_read 2 = .ok (.iconst 0, 1) := by decide +kernel
theorem dX1_read_3 : decode cX1_read 3 = .ok (.istore 4, 2) := by decide +kernel
theorem dX1_read_5 : decode cX1_read 5 = .ok (.iload_n 1, 1) := by decide +kernel
theorem dX1_read_6 : decode cX1_read 6 = .ok (.iload_n 2, 1) := by decide +kernel
theorem dX1_read_7 : decode cX1_read 7 = .ok (.isub, 1) := by decide +kernel
theorem dX1_read_8 : decode cX1_read 8 = .ok (.iconst 1, 1) := by decide +kernel
theorem dX1_read_9 : decode cX1_read 9 = .ok (.iadd, 1) := by decide +kernel
theorem dX1_read_10 : decode cX1_read 10 = .ok (.iconst 0, 1) := by decide +kernel
theorem dX1_read_11 : decode cX1_read 11 = .ok (.invokestatic 23, 3) := by decide +kernel
theorem dX1_read_14 : decode cX1_read 14 = .ok (.istore 5, 2) := by decide +kernel
theorem dX1_read_16 : decode cX1_read 16 = .ok (.iload 5, 2) := by decide +kernel
theorem dX1_read_18 : decode cX1_read 18 = .ok (.iload_n 1, 1) := by decide +kernel
theorem dX1_read_19 : decode cX1_read 19 = .ok (.if_icmp .gt 41, 3) := by decide +kernel
theorem dX1_read_22 : decode cX1_read 22 = .ok (.iload 5, 2) := by decide +kernel
theorem dX1_read_24 : decode cX1_read 24 = .ok (.sipush 200, 3) := by decide +kernel
theorem dX1_read_27 : decode cX1_read 27 = .ok (.if_icmp .ge 33, 3) := by decide +kernel
theorem dX1_read_30 : decode cX1_read 30 = .ok (.aload_n 0, 1) := by decide +kernel
theorem dX1_read_31 : decode cX1_read 31 = .ok (.getfield 9, 3) := by decide +kernel
theorem dX1_read_34 : decode cX1_read 34 = .ok (.iload 5, 2) := by decide +kernel
theorem dX1_read_36 : decode cX1_read 36 = .ok (.iaload, 1) := by decide +kernel
theorem dX1_read_37 : decode cX1_read 37 = .ok (.iconst (-1), 1) := by decide +kernel
theorem dX1_read_38 : decode cX1_read 38 = .ok (.if_icmp .eq 16, 3) := by decide +kernel
theorem dX1_read_41 : decode cX1_read 41 = .ok (.iload_n 3, 1) := by decide +kernel
theorem dX1_read_42 : decode cX1_read 42 = .ok (.aload_n 0, 1) := by decide +kernel
theorem dX1_read_43 : decode cX1_read 43 = .ok (.getfield 9, 3) := by decide +kernel
theorem dX1_read_46 : decode cX1_read 46 = .ok (.iload 5, 2) := by decide +kernel
theorem dX1_read_48 : decode cX1_read 48 = .ok (.iaload, 1) := by decide +kernel
theorem dX1_read_49 : decode cX1_read 49 = .ok (.iadd, 1) := by decide +kernel
theorem dX1_read_50 : decode cX1_read 50 = .ok (.istore_n 3, 1) := by decide +kernel
theorem dX1_read_51 : decode cX1_read 51 = .ok (.iinc 4 1, 3) := by decide +kernel
theorem dX1_read_54 : decode cX1_read 54 = .ok (.iinc 5 1, 3) := by decide +kernel
theorem dX1_read_57 : decode cX1_read 57 = .ok (.goto (-41), 3) := by decide +kernel
theorem dX1_read_60 : decode cX1_read 60 = .ok (.iload 4, 2) := by decide +kernel
theorem dX1_read_62 : decode cX1_read 62 = .ok (.ifCond .le 11, 3) := by decide +kernel
theorem dX1_read_65 : decode cX1_read 65 = .ok (.aload_n 0, 1) := by decide +kernel
theorem dX1_read_66 : decode cX1_read 66 = .ok (.iload_n 3, 1) := by decide +kernel
theorem dX1_read_67 : decode cX1_read 67 = .ok (.iload 4, 2) := by decide +kernel
theorem dX1_read_69 : decode cX1_read 69 = .ok (.idiv, 1) := by decide +kernel
theorem dX1_read_70 : decode cX1_read 70 = .ok (.putfield 15, 3) := by decide +kernel
theorem dX1_read_73 : decode cX1_read 73 = .ok (.return_, 1) := by decide +kernel
theorem dX2_init_0 : decode cX2_init 0 = .ok (.aload_n 0, 1) := by decide +kernel
theorem dX2_init_1 : decode cX2_init 1 = .ok (.invokespecial 3, 3) := by decide +kernel
theorem dX2_init_4 : decode cX2_init 4 = .ok (.aload_n 0, 1) := by decide +kernel
theorem dX2_init_5 : decode cX2_init 5 = .ok (.sipush 200, 3) := by decide +kernel
theorem dX2_init_8 : decode cX2_init 8 = .ok (.newarray .int, 2) := by decide +kernel
theorem dX2_init_10 : decode cX2_init 10 = .ok (.putfield 9, 3) := by decide +kernel
theorem dX2_init_13 : decode cX2_init 13 = .ok (.aload_n 0, 1) := by decide +kernel
theorem dX2_init_14 : decode cX2_init 14 = .ok (.sipush 200, 3) := by decide +kernel
theorem dX2_init_17 : decode cX2_init 17 = .ok (.newarray .int, 2) := by decide +kernel
theorem dX2_init_19 : decode cX2_init 19 = .ok (.putfield 15, 3) := by decide +kernel
theorem dX2_init_22 : decode cX2_init 22 = .ok (.aload_n 0, 1) := by decide +kernel
theorem dX2_init_23 : decode cX2_init 23 = .ok (.sipush 200, 3) := by decide +kernel
theorem dX2_init_26 : decode cX2_init 26 = .ok (.newarray .int, 2) := by decide +kernel
theorem dX2_init_28 : decode cX2_init 28 = .ok (.putfield 18, 3) := by decide +kernel
theorem dX2_init_31 : decode cX2_init 31 = .ok (.aload_n 0, 1) := by decide +kernel
theorem dX2_init_32 : decode cX2_init 32 = .ok (.sipush 200, 3) := by decide +kernel
theorem dX2_init_35 : decode cX2_init 35 = .ok (.newarray .int, 2) := by decide +kernel
theorem dX2_init_37 : decode cX2_init 37 = .ok (.putfield 21, 3) := by decide +kernel
theorem dX2_init_40 : decode cX2_init 40 = .ok (.return_, 1) := by decide +kernel
theorem dX2_begin_0 : decode cX2_begin 0 = .ok (.aload_n 0, 1) := by decide +kernel
theorem dX2_begin_1 : decode cX2_begin 1 = .ok (.iconst 0, 1) := by decide +kernel
theorem dX2_begin_2 : decode cX2_begin 2 = .ok (.putfield 24, 3) := by decide +kernel
theorem dX2_begin_5 : decode cX2_begin 5 = .ok (.aload_n 0, 1) := by decide +kernel
theorem dX2_begin_6 : decode cX2_begin 6 = .ok (.iconst 0, 1) := by decide +kernel
theorem dX2_begin_7 : decode cX2_begin 7 = .ok (.putfield 28, 3) := by decide +kernel
theorem dX2_begin_10 : decode cX2_begin 10 = .ok (.aload_n 0, 1) := by decide +kernel
theorem dX2_begin_11 : decode cX2_begin 11 = .ok (.iconst 0, 1) := by decide +kernel
theorem dX2_begin_12 : decode cX2_begin 12 = .ok (.putfield 31, 3) := by decide +kernel
theorem dX2_begin_15 : decode cX2_begin 15 = .ok (.aload_n 0, 1) := by decide +kernel
theorem dX2_begin_16 : decode cX2_begin 16 = .ok (.iconst 0, 1) := by decide +kernel
theorem dX2_begin_17 : decode cX2_begin 17 = .ok (.putfield 34, 3) := by decide +kernel
theorem dX2_begin_20 : decode cX2_begin 20 = .ok (.return_, 1) := by decide +kernel
set_option maxRecDepth 20000 in
theorem ggX2_come_X6_within : GoodIn wsX2_come wsX6_within := goodIn_r _ [8] (by decide +kernel) (by decide +kernel)
set_option maxRecDepth 20000 in
theorem gX2_come_X6_within_n37 : GoodIn wsX2_come (wsX6_within) := ggX2_come_X6_within
set_option maxRecDepth 20000 in
theorem ggX2_come_X2_append : GoodIn wsX2_come wsX2_append := goodIn_r _ [13, 14, 15, 16, 17, 18, 19, 20, 21, 22, 23, 24, 25, 26, 27, 28] (by decide +kernel) (by decide +kernel)
set_option maxRecDepth 20000 in
theorem gX2_come_X2_append : GoodIn wsX2_come (wsV RX2 41 RX2 yX2_append wsX2_append) := goodIn_app (goodIn_of _ (by decide +kernel)) ggX2_come_X2_append
theorem dX2_come_0 : decode cX2_come 0 = .ok (.aload_n 0, 1) := by decide +kernel
theorem dX2_come_1 : decode cX2_come 1 = .ok (.dup, 1) := by decide +kernel
theorem dX2_come_2 : decode cX2_come 2 = .ok (.getfield 31, 3) := by decide +kernel
theorem dX2_come_5 : decode cX2_come 5 = .ok (.aload_n 0, 1) := by decide +kernel
theorem dX2_come_6 : decode cX2_come 6 = .ok (.getfield 34, 3) := by decide +kernel
theorem dX2_come_9 : decode cX2_come 9 = .ok (.iadd, 1) := by decide +kernel
theorem dX2_come_10 : decode cX2_come 10 = .ok (.putfield 31, 3) := by decide +kernel
theorem dX2_come_13 : decode cX2_come 13 = .ok (.aload_n 0, 1) := by decide +kernel
theorem dX2_come_14 : decode cX2_come 14 = .ok (.iconst 0, 1) := by decide +kernel
theorem dX2_come_15 : decode cX2_come 15 = .ok (.putfield 34, 3) := by decide +kernel
theorem dX2_come_18 : decode cX2_come 18 = .ok (.iload_n 1, 1) := by decide +kernel
theorem dX2_come_19 : decode cX2_come 19 = .ok (.iconst 0, 1) := by decide +kernel
theorem dX2_come_20 : decode cX2_come 20 = .ok (.sipush 199, 3) := by decide +kernel
theorem dX2_come_23 : decode cX2_come 23 = .ok (.invokestatic 37, 3) := by decide +kernel
theorem dX2_come_26 : decode cX2_come 26 = .ok (.ifCond .eq 43, 3) := by decide +kernel
theorem dX2_come_29 : decode cX2_come 29 = .ok (.iload_n 2, 1) := by decide +kernel
theorem dX2_come_30 : decode cX2_come 30 = .ok (.ifCond .le 39, 3) := by decide +kernel
theorem dX2_come_33 : decode cX2_come 33 = .ok (.aload_n 0, 1) := by decide +kernel
theorem dX2_come_34 : decode cX2_come 34 = .ok (.getfield 9, 3) := by decide +kernel
theorem dX2_come_37 : decode cX2_come 37 = .ok (.iload_n 1, 1) := by decide +kernel
theorem dX2_come_38 : decode cX2_come 38 = .ok (.iload_n 2, 1) := by decide +kernel
theorem dX2_come_39 : decode cX2_come 39 = .ok (.iastore, 1) := by decide +kernel
theorem dX2_come_40 : decode cX2_come 40 = .ok (.aload_n 0, 1) := by decide +kernel
theorem dX2_come_41 : decode cX2_come 41 = .ok (.getfield 15, 3) := by decide +kernel
theorem dX2_come_44 : decode cX2_come 44 = .ok (.iload_n 1, 1) := by decide +kernel
theorem dX2_come_45 : decode cX2_come 45 = .ok (.iconst 1, 1) := by decide +kernel
theorem dX2_come_46 : decode cX2_come 46 = .ok (.iastore, 1) := by decide +kernel
theorem dX2_come_47 : decode cX2_come 47 = .ok (.aload_n 0, 1) := by decide +kernel
theorem dX2_come_48 : decode cX2_come 48 = .ok (.getfield 18, 3) := by decide +kernel
theorem dX2_come_51 : decode cX2_come 51 = .ok (.iload_n 1, 1) := by decide +kernel
theorem dX2_come_52 : decode cX2_come 52 = .ok (.iload_n 1, 1) := by decide +kernel
theorem dX2_come_53 : decode cX2_come 53 = .ok (.iastore, 1) := by decide +kernel
theorem dX2_come_54 : decode cX2_come 54 = .ok (.aload_n 0, 1) := by decide +kernel
theorem dX2_come_55 : decode cX2_come 55 = .ok (.iload_n 1, 1) := by decide +kernel
theorem dX2_come_56 : decode cX2_come 56 = .ok (.invokevirtual 41, 3) := by decide +kernel
theorem dX2_come_59 : decode cX2_come 59 = .ok (.aload_n 0, 1) := by decide +kernel
theorem dX2_come_60 : decode cX2_come 60 = .ok (.dup, 1) := by decide +kernel
theorem dX2_come_61 : decode cX2_come 61 = .ok (.getfield 31, 3) := by decide +kernel
theorem dX2_come_64 : decode cX2_come 64 = .ok (.iload_n 2, 1) := by decide +kernel
theorem dX2_come_65 : decode cX2_come 65 = .ok (.iadd, 1) := by decide +kernel
theorem dX2_come_66 : decode cX2_come 66 = .ok (.putfield 31, 3) := by decide +kernel
theorem dX2_come_69 : decode cX2_come 69 = .ok (.return_, 1) := by decide +kernel
set_option maxRecDepth 20000 in
theorem ggX2_serve_X2_first : GoodIn wsX2_serve wsX2_first := goodIn_r _ [12, 13, 14, 15, 16, 17, 18, 19, 20, 21, 26, 27, 28, 29, 30, 31, 32, 33] (by decide +kernel) (by decide +kernel)
set_option maxRecDepth 20000 in
theorem gX2_serve_X2_first : GoodIn wsX2_serve (wsV RX2 45 RX2 yX2_first wsX2_first) := goodIn_app (goodIn_of _ (by decide +kernel)) ggX2_serve_X2_first
set_option maxRecDepth 20000 in
theorem ggX2_serve_X2_removeFirst : GoodIn wsX2_serve wsX2_removeFirst := goodIn_r _ [25, 13, 1, 26, 27, 28, 29, 30, 31, 32, 33] (by decide +kernel) (by decide +kernel)
set_option maxRecDepth 20000 in
theorem gX2_serve_X2_removeFirst : GoodIn wsX2_serve (wsV RX2 55 RX2 yX2_removeFirst wsX2_removeFirst) := goodIn_app (goodIn_of _ (by decide +kernel)) ggX2_serve_X2_removeFirst
theorem dX2_serve_0 : decode cX2_serve 0 = .ok (.iload_n 1, 1) := by decide +kernel
theorem dX2_serve_1 : decode cX2_serve 1 = .ok (.istore_n 2, 1) := by decide +kernel
theorem dX2_serve_2 : decode cX2_serve 2 = .ok (.aload_n 0, 1) := by decide +kernel
theorem dX2_serve_3 : decode cX2_serve 3 = .ok (.getfield 28, 3) := by decide +kernel
theorem dX2_serve_6 : decode cX2_serve 6 = .ok (.istore_n 3, 1) := by decide +kernel
theorem dX2_serve_7 : decode cX2_serve 7 = .ok (.iload_n 3, 1) := by decide +kernel
theorem dX2_serve_8 : decode cX2_serve 8 = .ok (.ifCond .le 63, 3) := by decide +kernel
theorem dX2_serve_11 : decode cX2_serve 11 = .ok (.iload_n 2, 1) := by decide +kernel
theorem dX2_serve_12 : decode cX2_serve 12 = .ok (.ifCond .le 59, 3) := by decide +kernel
theorem dX2_serve_15 : decode cX2_serve 15 = .ok (.aload_n 0, 1) := by decide +kernel
theorem dX2_serve_16 : decode cX2_serve 16 = .ok (.invokevirtual 45, 3) := by decide +kernel
theorem dX2_serve_19 : decode cX2_serve 19 = .ok (.istore 4, 2) := by decide +kernel
theorem dX2_serve_21 : decode cX2_serve 21 = .ok (.aload_n 0, 1) := by decide +kernel
theorem dX2_serve_22 : decode cX2_serve 22 = .ok (.getfield 9, 3) := by decide +kernel
theorem dX2_serve_25 : decode cX2_serve 25 = .ok (.iload 4, 2) := by decide +kernel
theorem dX2_serve_27 : decode cX2_serve 27 = .ok (.iaload, 1) := by decide +kernel
theorem dX2_serve_28 : decode cX2_serve 28 = .ok (.iload_n 2, 1) := by decide +kernel
theorem dX2_serve_29 : decode cX2_serve 29 = .ok (.invokestatic 49, 3) := by decide +kernel
theorem dX2_serve_32 : decode cX2_serve 32 = .ok (.istore 5, 2) := by decide +kernel
theorem dX2_serve_34 : decode cX2_serve 34 = .ok (.aload_n 0, 1) := by decide +kernel
theorem dX2_serve_35 : decode cX2_serve 35 = .ok (.getfield 9, 3) := by decide +kernel
theorem dX2_serve_38 : decode cX2_serve 38 = .ok (.iload 4, 2) := by decide +kernel
theorem dX2_serve_40 : decode cX2_serve 40 = .ok (.dup2, 1) := by decide +kernel
theorem dX2_serve_41 : decode cX2_serve 41 = .ok (.iaload, 1) := by decide +kernel
theorem dX2_serve_42 : decode cX2_serve 42 = .ok (.iload 5, 2) := by decide +kernel
theorem dX2_serve_44 : decode cX2_serve 44 = .ok (.isub, 1) := by decide +kernel
theorem dX2_serve_45 : decode cX2_serve 45 = .ok (.iastore, 1) := by decide +kernel
theorem dX2_serve_46 : decode cX2_serve 46 = .ok (.iload_n 2, 1) := by decide +kernel
theorem dX2_serve_47 : decode cX2_serve 47 = .ok (.iload 5, 2) := by decide +kernel
theorem dX2_serve_49 : decode cX2_serve 49 = .ok (.isub, 1) := by decide +kernel
theorem dX2_serve_50 : decode cX2_serve 50 = .ok (.istore_n 2, 1) := by decide +kernel
theorem dX2_serve_51 : decode cX2_serve 51 = .ok (.aload_n 0, 1) := by decide +kernel
theorem dX2_serve_52 : decode cX2_serve 52 = .ok (.getfield 9, 3) := by decide +kernel
theorem dX2_serve_55 : decode cX2_serve 55 = .ok (.iload 4, 2) := by decide +kernel
theorem dX2_serve_57 : decode cX2_serve 57 = .ok (.iaload, 1) := by decide +kernel
theorem dX2_serve_58 : decode cX2_serve 58 = .ok (.ifCond .ne 7, 3) := by decide +kernel
theorem dX2_serve_61 : decode cX2_serve 61 = .ok (.aload_n 0, 1) := by decide +kernel
theorem dX2_serve_62 : decode cX2_serve 62 = .ok (.invokevirtual 55, 3) := by decide +kernel
theorem dX2_serve_65 : decode cX2_serve 65 = .ok (.iinc 3 (-1), 3) := by decide +kernel
theorem dX2_serve_68 : decode cX2_serve 68 = .ok (.goto (-61), 3) := by decide +kernel
theorem dX2_serve_71 : decode cX2_serve 71 = .ok (.aload_n 0, 1) := by decide +kernel
theorem dX2_serve_72 : decode cX2_serve 72 = .ok (.dup, 1) := by decide +kernel
theorem dX2_serve_73 : decode cX2_serve 73 = .ok (.getfield 31, 3) := by decide +kernel
theorem dX2_serve_76 : decode cX2_serve 76 = .ok (.iload_n 1, 1) := by decide +kernel
theorem dX2_serve_77 : decode cX2_serve 77 = .ok (.iload_n 2, 1) := by decide +kernel
theorem dX2_serve_78 : decode cX2_serve 78 = .ok (.isub, 1) := by decide +kernel
theorem dX2_serve_79 : decode cX2_serve 79 = .ok (.isub, 1) := by decide +kernel
theorem dX2_serve_80 : decode cX2_serve 80 = .ok (.putfield 31, 3) := by decide +kernel
theorem dX2_serve_83 : decode cX2_serve 83 = .ok (.iload_n 1, 1) := by decide +kernel
theorem dX2_serve_84 : decode cX2_serve 84 = .ok (.iload_n 2, 1) := by decide +kernel
theorem dX2_serve_85 : decode cX2_serve 85 = .ok (.isub, 1) := by decide +kernel
theorem dX2_serve_86 : decode cX2_serve 86 = .ok (.ireturn, 1) := by decide +kernel
set_option maxRecDepth 20000 in
theorem ggX2_leave_X2_first : GoodIn wsX2_leave wsX2_first := goodIn_r _ [11, 12, 13, 14, 15, 16, 17, 18, 19, 20, 29, 30, 31, 32, 33, 34, 35, 36] (by decide +kernel) (by decide +kernel)
set_option maxRecDepth 20000 in
theorem gX2_leave_X2_first : GoodIn wsX2_leave (wsV RX2 45 RX2 yX2_first wsX2_first) := goodIn_app (goodIn_of _ (by decide +kernel)) ggX2_leave_X2_first
set_option maxRecDepth 20000 in
theorem ggX2_leave_X2_removeFirst : GoodIn wsX2_leave wsX2_removeFirst := goodIn_r _ [24, 12, 1, 29, 30, 31, 32, 33, 34, 35, 36] (by decide +kernel) (by decide +kernel)
set_option maxRecDepth 20000 in
theorem gX2_leave_X2_removeFirst : GoodIn wsX2_leave (wsV RX2 55 RX2 yX2_removeFirst wsX2_removeFirst) := goodIn_app (goodIn_of _ (by decide +kernel)) ggX2_leave_X2_removeFirst
set_option maxRecDepth 20000 in
theorem ggX2_leave_X2_append : GoodIn wsX2_leave wsX2_append := goodIn_r _ [28, 12, 1, 13, 17, 18, 19, 20, 29, 30, 31, 32, 33, 34, 35, 36] (by decide +kernel) (by decide +kernel)
set_option maxRecDepth 20000 in
theorem gX2_leave_X2_append : GoodIn wsX2_leave (wsV RX2 41 RX2 yX2_append wsX2_append) := goodIn_app (goodIn_of _ (by decide +kernel)) ggX2_leave_X2_append
theorem dX2_leave_0 : decode cX2_leave 0 = .ok (.iconst 0, 1) := by decide +kernel
theorem dX2_leave_1 : decode cX2_leave 1 = .ok (.istore 4, 2) := by decide +kernel
theorem dX2_leave_3 : decode cX2_leave 3 = .ok (.aload_n 0, 1) := by decide +kernel
theorem dX2_leave_4 : decode cX2_leave 4 = .ok (.getfield 28, 3) := by decide +kernel
theorem dX2_leave_7 : decode cX2_leave 7 = .ok (.istore 5, 2) := by decide +kernel
theorem dX2_leave_9 : decode cX2_leave 9 = .ok (.iload 5, 2) := by decide +kernel
theorem dX2_leave_11 : decode cX2_leave 11 = .ok (.ifCond .le 121, 3) := by decide +kernel
theorem dX2_leave_14 : decode cX2_leave 14 = .ok (.iload_n 1, 1) := by decide +kernel
theorem dX2_leave_15 : decode cX2_leave 15 = .ok (.aload_n 0, 1) := by decide +kernel
theorem dX2_leave_16 : decode cX2_leave 16 = .ok (.getfield 18, 3) := by decide +kernel
theorem dX2_leave_19 : decode cX2_leave 19 = .ok (.aload_n 0, 1) := by decide +kernel
theorem dX2_leave_20 : decode cX2_leave 20 = .ok (.invokevirtual 45, 3) := by decide +kernel
theorem dX2_leave_23 : decode cX2_leave 23 = .ok (.iaload, 1) := by decide +kernel
theorem dX2_leave_24 : decode cX2_leave 24 = .ok (.isub, 1) := by decide +kernel
theorem dX2_leave_25 : decode cX2_leave 25 = .ok (.iconst 1, 1) := by decide +kernel
theorem dX2_leave_26 : decode cX2_leave 26 = .ok (.iadd, 1) := by decide +kernel
theorem dX2_leave_27 : decode cX2_leave 27 = .ok (.iload_n 2, 1) := by decide +kernel
theorem dX2_leave_28 : decode cX2_leave 28 = .ok (.if_icmp .lt 104, 3) := by decide +kernel
theorem dX2_leave_31 : decode cX2_leave 31 = .ok (.aload_n 0, 1) := by decide +kernel
theorem dX2_leave_32 : decode cX2_leave 32 = .ok (.invokevirtual 45, 3) := by decide +kernel
theorem dX2_leave_35 : decode cX2_leave 35 = .ok (.istore 6, 2) := by decide +kernel
theorem dX2_leave_37 : decode cX2_leave 37 = .ok (.aload_n 0, 1) := by decide +kernel
theorem dX2_leave_38 : decode cX2_leave 38 = .ok (.invokevirtual 55, 3) := by decide +kernel
theorem dX2_leave_41 : decode cX2_leave 41 = .ok (.aload_n 0, 1) := by decide +kernel
theorem dX2_leave_42 : decode cX2_leave 42 = .ok (.dup, 1) := by decide +kernel
theorem dX2_leave_43 : decode cX2_leave 43 = .ok (.getfield 31, 3) := by decide +kernel
theorem dX2_leave_46 : decode cX2_leave 46 = .ok (.aload_n 0, 1) := by decide +kernel
theorem dX2_leave_47 : decode cX2_leave 47 = .ok (.getfield 9, 3) := by decide +kernel
theorem dX2_leave_50 : decode cX2_leave 50 = .ok (.iload 6, 2) := by decide +kernel
theorem dX2_leave_52 : decode cX2_leave 52 = .ok (.iaload, 1) := by decide +kernel
theorem dX2_leave_53 : decode cX2_leave 53 = .ok (.isub, 1) := by decide +kernel
theorem dX2_leave_54 : decode cX2_leave 54 = .ok (.putfield 31, 3) := by decide +kernel
theorem dX2_leave_57 : decode cX2_leave 57 = .ok (.aload_n 0, 1) := by decide +kernel
theorem dX2_leave_58 : decode cX2_leave 58 = .ok (.getfield 15, 3) := by decide +kernel
theorem dX2_leave_61 : decode cX2_leave 61 = .ok (.iload 6, 2) := by decide +kernel
theorem dX2_leave_63 : decode cX2_leave 63 = .ok (.iaload, 1) := by decide +kernel
theorem dX2_leave_64 : decode cX2_leave 64 = .ok (.iload_n 3, 1) := by decide +kernel
theorem dX2_leave_65 : decode cX2_leave 65 = .ok (.if_icmp .ge 49, 3) := by decide +kernel
theorem dX2_leave_68 : decode cX2_leave 68 = .ok (.aload_n 0, 1) := by decide +kernel
theorem dX2_leave_69 : decode cX2_leave 69 = .ok (.getfield 15, 3) := by decide +kernel
theorem dX2_leave_72 : decode cX2_leave 72 = .ok (.iload 6, 2) := by decide +kernel
theorem dX2_leave_74 : decode cX2_leave 74 = .ok (.dup2, 1) := by decide +kernel
theorem dX2_leave_75 : decode cX2_leave 75 = .ok (.iaload, 1) := by decide +kernel
theorem dX2_leave_76 : decode cX2_leave 76 = .ok (.iconst 1, 1) := by decide +kernel
theorem dX2_leave_77 : decode cX2_leave 77 = .ok (.iadd, 1) := by decide +kernel
theorem dX2_leave_78 : decode cX2_leave 78 = .ok (.iastore, 1) := by decide +kernel
theorem dX2_leave_79 : decode cX2_leave 79 = .ok (.aload_n 0, 1) := by decide +kernel
theorem dX2_leave_80 : decode cX2_leave 80 = .ok (.getfield 18, 3) := by decide +kernel
theorem dX2_leave_83 : decode cX2_leave 83 = .ok (.iload 6, 2) := by decide +kernel
theorem dX2_leave_85 : decode cX2_leave 85 = .ok (.iload_n 1, 1) := by decide +kernel
theorem dX2_leave_86 : decode cX2_leave 86 = .ok (.iconst 1, 1) := by decide +kernel
theorem dX2_leave_87 : decode cX2_leave 87 = .ok (.iadd, 1) := by decide +kernel
theorem dX2_leave_88 : decode cX2_leave 88 = .ok (.iastore, 1) := by decide +kernel
theorem dX2_leave_89 : decode cX2_leave 89 = .ok (.aload_n 0, 1) := by decide +kernel
theorem dX2_leave_90 : decode cX2_leave 90 = .ok (.iload 6, 2) := by decide +kernel
theorem dX2_leave_92 : decode cX2_leave 92 = .ok (.invokevirtual 41, 3) := by decide +kernel
theorem dX2_leave_95 : decode cX2_leave 95 = .ok (.aload_n 0, 1) := by decide +kernel
theorem dX2_leave_96 : decode cX2_leave 96 = .ok (.dup, 1) := by decide +kernel
theorem dX2_leave_97 : decode cX2_leave 97 = .ok (.getfield 34, 3) := by decide +kernel
theorem dX2_leave_100 : decode cX2_leave 100 = .ok (.aload_n 0, 1) := by decide +kernel
theorem dX2_leave_101 : decode cX2_leave 101 = .ok (.getfield 9, 3) := by decide +kernel
theorem dX2_leave_104 : decode cX2_leave 104 = .ok (.iload 6, 2) := by decide +kernel
theorem dX2_leave_106 : decode cX2_leave 106 = .ok (.iaload, 1) := by decide +kernel
theorem dX2_leave_107 : decode cX2_leave 107 = .ok (.iadd, 1) := by decide +kernel
theorem dX2_leave_108 : decode cX2_leave 108 = .ok (.putfield 34, 3) := by decide +kernel
theorem dX2_leave_111 : decode cX2_leave 111 = .ok (.goto 15, 3) := by decide +kernel
theorem dX2_leave_114 : decode cX2_leave 114 = .ok (.iload 4, 2) := by decide +kernel
theorem dX2_leave_116 : decode cX2_leave 116 = .ok (.aload_n 0, 1) := by decide +kernel
theorem dX2_leave_117 : decode cX2_leave 117 = .ok (.getfield 9, 3) := by decide +kernel
theorem dX2_leave_120 : decode cX2_leave 120 = .ok (.iload 6, 2) := by decide +kernel
theorem dX2_leave_122 : decode cX2_leave 122 = .ok (.iaload, 1) := by decide +kernel
theorem dX2_leave_123 : decode cX2_leave 123 = .ok (.iadd, 1) := by decide +kernel
theorem dX2_leave_124 : decode cX2_leave 124 = .ok (.istore 4, 2) := by decide +kernel
theorem dX2_leave_126 : decode cX2_leave 126 = .ok (.iinc 5 (-1), 3) := by decide +kernel
theorem dX2_leave_129 : decode cX2_leave 129 = .ok (.goto (-120), 3) := by decide +kernel
theorem dX2_leave_132 : decode cX2_leave 132 = .ok (.iload 4, 2) := by decide +kernel
theorem dX2_leave_134 : decode cX2_leave 134 = .ok (.ireturn, 1) := by decide +kernel
set_option maxRecDepth 20000 in
theorem ggX2_first_X6_within : GoodIn wsX2_first wsX6_within := goodIn_r _ [5] (by decide +kernel) (by decide +kernel)
set_option maxRecDepth 20000 in
theorem gX2_first_X6_within_n37 : GoodIn wsX2_first (wsX6_within) := ggX2_first_X6_within
set_option maxRecDepth 20000 in
theorem ggX2_first_J9_floorMod_7cf53 : GoodIn wsX2_first wsJ9_floorMod_7cf53 := goodIn_r _ [9] (by decide +kernel) (by decide +kernel)
set_option maxRecDepth 20000 in
theorem gX2_first_J9_floorMod_7cf53 : GoodIn wsX2_first (va_wsS RX2 58 yJ9_floorMod_7cf53 wsJ9_floorMod_7cf53) := goodIn_app (goodIn_of _ (by decide +kernel)) ggX2_first_J9_floorMod_7cf53
theorem dX2_first_0 : decode cX2_first 0 = .ok (.aload_n 0, 1) := by decide +kernel
theorem dX2_first_1 : decode cX2_first 1 = .ok (.getfield 24, 3) := by decide +kernel
theorem dX2_first_4 : decode cX2_first 4 = .ok (.iconst 0, 1) := by decide +kernel
theorem dX2_first_5 : decode cX2_first 5 = .ok (.sipush 199, 3) := by decide +kernel
theorem dX2_first_8 : decode cX2_first 8 = .ok (.invokestatic 37, 3) := by decide +kernel
theorem dX2_first_11 : decode cX2_first 11 = .ok (.ifCond .eq 21, 3) := by decide +kernel
theorem dX2_first_14 : decode cX2_first 14 = .ok (.aload_n 0, 1) := by decide +kernel
theorem dX2_first_15 : decode cX2_first 15 = .ok (.getfield 21, 3) := by decide +kernel
theorem dX2_first_18 : decode cX2_first 18 = .ok (.aload_n 0, 1) := by decide +kernel
theorem dX2_first_19 : decode cX2_first 19 = .ok (.getfield 24, 3) := by decide +kernel
theorem dX2_first_22 : decode cX2_first 22 = .ok (.iaload, 1) := by decide +kernel
theorem dX2_first_23 : decode cX2_first 23 = .ok (.sipush 200, 3) := by decide +kernel
theorem dX2_first_26 : decode cX2_first 26 = .ok (.invokestatic 58, 3) := by decide +kernel
theorem dX2_first_29 : decode cX2_first 29 = .ok (.goto 4, 3) := by decide +kernel
theorem dX2_first_32 : decode cX2_first 32 = .ok (.iconst 0, 1) := by decide +kernel
theorem dX2_first_33 : decode cX2_first 33 = .ok (.ireturn, 1) := by decide +kernel
theorem dX2_removeFirst_0 : decode cX2_removeFirst 0 = .ok (.aload_n 0, 1) := by decide +kernel
theorem dX2_removeFirst_1 : decode cX2_removeFirst 1 = .ok (.aload_n 0, 1) := by decide +kernel
theorem dX2_removeFirst_2 : decode cX2_removeFirst 2 = .ok (.getfield 24, 3) := by decide +kernel
theorem dX2_removeFirst_5 : decode cX2_removeFirst 5 = .ok (.iconst 1, 1) := by decide +kernel
theorem dX2_removeFirst_6 : decode cX2_removeFirst 6 = .ok (.iadd, 1) := by decide +kernel
theorem dX2_removeFirst_7 : decode cX2_removeFirst 7 = .ok (.sipush 200, 3) := by decide +kernel
theorem dX2_removeFirst_10 : decode cX2_removeFirst 10 = .ok (.irem, 1) := by decide +kernel
theorem dX2_removeFirst_11 : decode cX2_removeFirst 11 = .ok (.putfield 24, 3) := by decide +kernel
theorem dX2_removeFirst_14 : decode cX2_removeFirst 14 = .ok (.aload_n 0, 1) := by decide +kernel
theorem dX2_removeFirst_15 : decode cX2_removeFirst 15 = .ok (.dup, 1) := by decide +kernel
theorem dX2_removeFirst_16 : decode cX2_removeFirst 16 = .ok (.getfield 28, 3) := by decide +kernel
theorem dX2_removeFirst_19 : decode cX2_removeFirst 19 = .ok (.iconst 1, 1) := by decide +kernel
theorem dX2_removeFirst_20 : decode cX2_removeFirst 20 = .ok (.isub, 1) := by decide +kernel
theorem dX2_removeFirst_21 : decode cX2_removeFirst 21 = .ok (.putfield 28, 3) := by decide +kernel
theorem dX2_removeFirst_24 : decode cX2_removeFirst 24 = .ok (.return_, 1) := by decide +kernel
set_option maxRecDepth 20000 in
theorem ggX2_append_J9_floorMod_7cf53 : GoodIn wsX2_append wsJ9_floorMod_7cf53 := goodIn_r _ [7] (by decide +kernel) (by decide +kernel)
set_option maxRecDepth 20000 in
theorem gX2_append_J9_floorMod_7cf53 : GoodIn wsX2_append (va_wsS RX2 58 yJ9_floorMod_7cf53 wsJ9_floorMod_7cf53) := goodIn_app (goodIn_of _ (by decide +kernel)) ggX2_append_J9_floorMod_7cf53
theorem dX2_append_0 : decode cX2_append 0 = .ok (.aload_n 0, 1) := by decide +kernel
theorem dX2_append_1 : decode cX2_append 1 = .ok (.getfield 24, 3) := by decide +kernel
theorem dX2_append_4 : decode cX2_append 4 = .ok (.aload_n 0, 1) := by decide +kernel
theorem dX2_append_5 : decode cX2_append 5 = .ok (.getfield 28, 3) := by decide +kernel
theorem dX2_append_8 : decode cX2_append 8 = .ok (.iadd, 1) := by decide +kernel
theorem dX2_append_9 : decode cX2_append 9 = .ok (.sipush 200, 3) := by decide +kernel
theorem dX2_append_12 : decode cX2_append 12 = .ok (.invokestatic 58, 3) := by decide +kernel
theorem dX2_append_15 : decode cX2_append 15 = .ok (.istore_n 2, 1) := by decide +kernel
theorem dX2_append_16 : decode cX2_append 16 = .ok (.aload_n 0, 1) := by decide +kernel
theorem dX2_append_17 : decode cX2_append 17 = .ok (.getfield 21, 3) := by decide +kernel
theorem dX2_append_20 : decode cX2_append 20 = .ok (.iload_n 2, 1) := by decide +kernel
theorem dX2_append_21 : decode cX2_append 21 = .ok (.iload_n 1, 1) := by decide +kernel
theorem dX2_append_22 : decode cX2_append 22 = .ok (.iastore, 1) := by decide +kernel
theorem dX2_append_23 : decode cX2_append 23 = .ok (.aload_n 0, 1) := by decide +kernel
theorem dX2_append_24 : decode cX2_append 24 = .ok (.dup, 1) := by decide +kernel
theorem dX2_append_25 : decode cX2_append 25 = .ok (.getfield 28, 3) := by decide +kernel
theorem dX2_append_28 : decode cX2_append 28 = .ok (.iconst 1, 1) := by decide +kernel
theorem dX2_append_29 : decode cX2_append 29 = .ok (.iadd, 1) := by decide +kernel
theorem dX2_append_30 : decode cX2_append 30 = .ok (.putfield 28, 3) := by decide +kernel
theorem dX2_append_33 : decode cX2_append 33 = .ok (.return_, 1) := by decide +kernel
theorem dX3_init_0 : decode cX3_init 0 = .ok (.aload_n 0, 1) := by decide +kernel
theorem dX3_init_1 : decode cX3_init 1 = .ok (.invokespecial 3, 3) := by decide +kernel
theorem dX3_init_4 : decode cX3_init 4 = .ok (.aload_n 0, 1) := by decide +kernel
theorem dX3_init_5 : decode cX3_init 5 = .ok (.bipush 12, 2) := by decide +kernel
theorem dX3_init_7 : decode cX3_init 7 = .ok (.newarray .int, 2) := by decide +kernel
theorem dX3_init_9 : decode cX3_init 9 = .ok (.putfield 9, 3) := by decide +kernel
theorem dX3_init_12 : decode cX3_init 12 = .ok (.aload_n 0, 1) := by decide +kernel
theorem dX3_init_13 : decode cX3_init 13 = .ok (.bipush 12, 2) := by decide +kernel
theorem dX3_init_15 : decode cX3_init 15 = .ok (.newarray .int, 2) := by decide +kernel
theorem dX3_init_17 : decode cX3_init 17 = .ok (.putfield 15, 3) := by decide +kernel
theorem dX3_init_20 : decode cX3_init 20 = .ok (.return_, 1) := by decide +kernel
theorem dX3_begin_0 : decode cX3_begin 0 = .ok (.iconst 0, 1) := by decide +kernel
theorem dX3_begin_1 : decode cX3_begin 1 = .ok (.istore_n 1, 1) := by decide +kernel
theorem dX3_begin_2 : decode cX3_begin 2 = .ok (.iload_n 1, 1) := by decide +kernel
theorem dX3_begin_3 : decode cX3_begin 3 = .ok (.bipush 12, 2) := by decide +kernel
theorem dX3_begin_5 : decode cX3_begin 5 = .ok (.if_icmp .ge 16, 3) := by decide +kernel
theorem dX3_begin_8 : decode cX3_begin 8 = .ok (.aload_n 0, 1) := by decide +kernel
theorem dX3_begin_9 : decode cX3_begin 9 = .ok (.getfield 9, 3) := by decide +kernel
theorem dX3_begin_12 : decode cX3_begin 12 = .ok (.iload_n 1, 1) := by decide +kernel
theorem dX3_begin_13 : decode cX3_begin 13 = .ok (.iconst 0, 1) := by decide +kernel
theorem dX3_begin_14 : decode cX3_begin 14 = .ok (.iastore, 1) := by decide +kernel
theorem dX3_begin_15 : decode cX3_begin 15 = .ok (.iinc 1 1, 3) := by decide +kernel
theorem dX3_begin_18 : decode cX3_begin 18 = .ok (.goto (-16), 3) := by decide +kernel
theorem dX3_begin_21 : decode cX3_begin 21 = .ok (.return_, 1) := by decide +kernel
set_option maxRecDepth 20000 in
theorem ggX3_stateOf_X6_within : GoodIn wsX3_stateOf wsX6_within := goodIn_r _ [4] (by decide +kernel) (by decide +kernel)
set_option maxRecDepth 20000 in
theorem gX3_stateOf_X6_within_n18 : GoodIn wsX3_stateOf (wsX6_within) := ggX3_stateOf_X6_within
theorem dX3_stateOf_0 : decode cX3_stateOf 0 = .ok (.iload_n 1, 1) := by decide +kernel
theorem dX3_stateOf_1 : decode cX3_stateOf 1 = .ok (.iconst 0, 1) := by decide +kernel
theorem dX3_stateOf_2 : decode cX3_stateOf 2 = .ok (.bipush 11, 2) := by decide +kernel
theorem dX3_stateOf_4 : decode cX3_stateOf 4 = .ok (.invokestatic 18, 3) := by decide +kernel
theorem dX3_stateOf_7 : decode cX3_stateOf 7 = .ok (.ifCond .eq 12, 3) := by decide +kernel
theorem dX3_stateOf_10 : decode cX3_stateOf 10 = .ok (.aload_n 0, 1) := by decide +kernel
theorem dX3_stateOf_11 : decode cX3_stateOf 11 = .ok (.getfield 9, 3) := by decide +kernel
theorem dX3_stateOf_14 : decode cX3_stateOf 14 = .ok (.iload_n 1, 1) := by decide +kernel
theorem dX3_stateOf_15 : decode cX3_stateOf 15 = .ok (.iaload, 1) := by decide +kernel
theorem dX3_stateOf_16 : decode cX3_stateOf 16 = .ok (.goto 6, 3) := by decide +kernel
theorem dX3_stateOf_19 : decode cX3_stateOf 19 = .ok (.sipush (-1001), 3) := by decide +kernel
theorem dX3_stateOf_22 : decode cX3_stateOf 22 = .ok (.ireturn, 1) := by decide +kernel
set_option maxRecDepth 20000 in
theorem ggX3_ticksBehind_X6_within : GoodIn wsX3_ticksBehind wsX6_within := goodIn_r _ [5] (by decide +kernel) (by decide +kernel)
set_option maxRecDepth 20000 in
theorem gX3_ticksBehind_X6_within_n18 : GoodIn wsX3_ticksBehind (wsX6_within) := ggX3_ticksBehind_X6_within
theorem dX3_ticksBehind_0 : decode cX3_ticksBehind 0 = .ok (.iload_n 1, 1) := by decide +kernel
theorem dX3_ticksBehind_1 : decode cX3_ticksBehind 1 = .ok (.iconst 0, 1) := by decide +kernel
theorem dX3_ticksBehind_2 : decode cX3_ticksBehind 2 = .ok (.bipush 11, 2) := by decide +kernel
theorem dX3_ticksBehind_4 : decode cX3_ticksBehind 4 = .ok (.invokestatic 18, 3) := by decide +kernel
theorem dX3_ticksBehind_7 : decode cX3_ticksBehind 7 = .ok (.ifCond .ne 7, 3) := by decide +kernel
theorem dX3_ticksBehind_10 : decode cX3_ticksBehind 10 = .ok (.sipush (-1001), 3) := by decide +kernel
theorem dX3_ticksBehind_13 : decode cX3_ticksBehind 13 = .ok (.ireturn, 1) := by decide +kernel
theorem dX3_ticksBehind_14 : decode cX3_ticksBehind 14 = .ok (.aload_n 0, 1) := by decide +kernel
theorem dX3_ticksBehind_15 : decode cX3_ticksBehind 15 = .ok (.getfield 9, 3) := by decide +kernel
theorem dX3_ticksBehind_18 : decode cX3_ticksBehind 18 = .ok (.iload_n 1, 1) := by decide +kernel
theorem dX3_ticksBehind_19 : decode cX3_ticksBehind 19 = .ok (.iaload, 1) := by decide +kernel
theorem dX3_ticksBehind_20 : decode cX3_ticksBehind 20 = .ok (.iconst 1, 1) := by decide +kernel
theorem dX3_ticksBehind_21 : decode cX3_ticksBehind 21 = .ok (.if_icmp .eq 13, 3) := by decide +kernel
theorem dX3_ticksBehind_24 : decode cX3_ticksBehind 24 = .ok (.aload_n 0, 1) := by decide +kernel
theorem dX3_ticksBehind_25 : decode cX3_ticksBehind 25 = .ok (.getfield 9, 3) := by decide +kernel
theorem dX3_ticksBehind_28 : decode cX3_ticksBehind 28 = .ok (.iload_n 1, 1) := by decide +kernel
theorem dX3_ticksBehind_29 : decode cX3_ticksBehind 29 = .ok (.iaload, 1) := by decide +kernel
theorem dX3_ticksBehind_30 : decode cX3_ticksBehind 30 = .ok (.iconst 3, 1) := by decide +kernel
theorem dX3_ticksBehind_31 : decode cX3_ticksBehind 31 = .ok (.if_icmp .ne 7, 3) := by decide +kernel
theorem dX3_ticksBehind_34 : decode cX3_ticksBehind 34 = .ok (.iconst 1, 1) := by decide +kernel
theorem dX3_ticksBehind_35 : decode cX3_ticksBehind 35 = .ok (.goto 4, 3) := by decide +kernel
theorem dX3_ticksBehind_38 : decode cX3_ticksBehind 38 = .ok (.iconst 0, 1) := by decide +kernel
theorem dX3_ticksBehind_39 : decode cX3_ticksBehind 39 = .ok (.istore_n 3, 1) := by decide +kernel
theorem dX3_ticksBehind_40 : decode cX3_ticksBehind 40 = .ok (.iload_n 3, 1) := by decide +kernel
theorem dX3_ticksBehind_41 : decode cX3_ticksBehind 41 = .ok (.ifCond .eq 16, 3) := by decide +kernel
theorem dX3_ticksBehind_44 : decode cX3_ticksBehind 44 = .ok (.iload_n 2, 1) := by decide +kernel
theorem dX3_ticksBehind_45 : decode cX3_ticksBehind 45 = .ok (.iconst 1, 1) := by decide +kernel
theorem dX3_ticksBehind_46 : decode cX3_ticksBehind 46 = .ok (.isub, 1) := by decide +kernel
theorem dX3_ticksBehind_47 : decode cX3_ticksBehind 47 = .ok (.aload_n 0, 1) := by decide +kernel
theorem dX3_ticksBehind_48 : decode cX3_ticksBehind 48 = .ok (.getfield 15, 3) := by decide +kernel
theorem dX3_ticksBehind_51 : decode cX3_ticksBehind 51 = .ok (.iload_n 1, 1) := by decide +kernel
theorem dX3_ticksBehind_52 : decode cX3_ticksBehind 52 = .ok (.iaload, 1) := by decide +kernel
theorem dX3_ticksBehind_53 : decode cX3_ticksBehind 53 = .ok (.isub, 1) := by decide +kernel
theorem dX3_ticksBehind_54 : decode cX3_ticksBehind 54 = .ok (.goto 4, 3) := by decide +kernel
theorem dX3_ticksBehind_57 : decode cX3_ticksBehind 57 = .ok (.iconst 0, 1) := by decide +kernel
theorem dX3_ticksBehind_58 : decode cX3_ticksBehind 58 = .ok (.ireturn, 1) := by decide +kernel
set_option maxRecDepth 20000 in
theorem ggX3_takeOut_X6_within : GoodIn wsX3_takeOut wsX6_within := goodIn_r _ [4] (by decide +kernel) (by decide +kernel)
set_option maxRecDepth 20000 in
theorem gX3_takeOut_X6_within_n18 : GoodIn wsX3_takeOut (wsX6_within) := ggX3_takeOut_X6_within
theorem dX3_takeOut_0 : decode cX3_takeOut 0 = .ok (.iload_n 1, 1) := by decide +kernel
theorem dX3_takeOut_1 : decode cX3_takeOut 1 = .ok (.iconst 0, 1) := by decide +kernel
theorem dX3_takeOut_2 : decode cX3_takeOut 2 = .ok (.bipush 11, 2) := by decide +kernel
theorem dX3_takeOut_4 : decode cX3_takeOut 4 = .ok (.invokestatic 18, 3) := by decide +kernel
theorem dX3_takeOut_7 : decode cX3_takeOut 7 = .ok (.ifCond .ne 7, 3) := by decide +kernel
theorem dX3_takeOut_10 : decode cX3_takeOut 10 = .ok (.sipush (-1001), 3) := by decide +kernel
theorem dX3_takeOut_13 : decode cX3_takeOut 13 = .ok (.ireturn, 1) := by decide +kernel
theorem dX3_takeOut_14 : decode cX3_takeOut 14 = .ok (.aload_n 0, 1) := by decide +kernel
theorem dX3_takeOut_15 : decode cX3_takeOut 15 = .ok (.getfield 9, 3) := by decide +kernel
theorem dX3_takeOut_18 : decode cX3_takeOut 18 = .ok (.iload_n 1, 1) := by decide +kernel
theorem dX3_takeOut_19 : decode cX3_takeOut 19 = .ok (.iaload, 1) := by decide +kernel
theorem dX3_takeOut_20 : decode cX3_takeOut 20 = .ok (.istore_n 2, 1) := by decide +kernel
theorem dX3_takeOut_21 : decode cX3_takeOut 21 = .ok (.aload_n 0, 1) := by decide +kernel
theorem dX3_takeOut_22 : decode cX3_takeOut 22 = .ok (.getfield 9, 3) := by decide +kernel
theorem dX3_takeOut_25 : decode cX3_takeOut 25 = .ok (.iload_n 1, 1) := by decide +kernel
theorem dX3_takeOut_26 : decode cX3_takeOut 26 = .ok (.iconst 0, 1) := by decide +kernel
theorem dX3_takeOut_27 : decode cX3_takeOut 27 = .ok (.iastore, 1) := by decide +kernel
theorem dX3_takeOut_28 : decode cX3_takeOut 28 = .ok (.iload_n 2, 1) := by decide +kernel
theorem dX3_takeOut_29 : decode cX3_takeOut 29 = .ok (.ireturn, 1) := by decide +kernel
theorem dX3_count_0 : decode cX3_count 0 = .ok (.iconst 0, 1) := by decide +kernel
theorem dX3_count_1 : decode cX3_count 1 = .ok (.istore_n 2, 1) := by decide +kernel
theorem dX3_count_2 : decode cX3_count 2 = .ok (.iconst 0, 1) := by decide +kernel
theorem dX3_count_3 : decode cX3_count 3 = .ok (.istore_n 3, 1) := by decide +kernel
theorem dX3_count_4 : decode cX3_count 4 = .ok (.iload_n 3, 1) := by decide +kernel
theorem dX3_count_5 : decode cX3_count 5 = .ok (.bipush 12, 2) := by decide +kernel
theorem dX3_count_7 : decode cX3_count 7 = .ok (.if_icmp .ge 22, 3) := by decide +kernel
theorem dX3_count_10 : decode cX3_count 10 = .ok (.aload_n 0, 1) := by decide +kernel
theorem dX3_count_11 : decode cX3_count 11 = .ok (.getfield 9, 3) := by decide +kernel
theorem dX3_count_14 : decode cX3_count 14 = .ok (.iload_n 3, 1) := by decide +kernel
theorem dX3_count_15 : decode cX3_count 15 = .ok (.iaload, 1) := by decide +kernel
theorem dX3_count_16 : decode cX3_count 16 = .ok (.iload_n 1, 1) := by decide +kernel
theorem dX3_count_17 : decode cX3_count 17 = .ok (.if_icmp .ne 6, 3) := by decide +kernel
theorem dX3_count_20 : decode cX3_count 20 = .ok (.iinc 2 1, 3) := by decide +kernel
theorem dX3_count_23 : decode cX3_count 23 = .ok (.iinc 3 1, 3) := by decide +kernel
theorem dX3_count_26 : decode cX3_count 26 = .ok (.goto (-22), 3) := by decide +kernel
theorem dX3_count_29 : decode cX3_count 29 = .ok (.iload_n 2, 1) := by decide +kernel
theorem dX3_count_30 : decode cX3_count 30 = .ok (.ireturn, 1) := by decide +kernel
set_option maxRecDepth 20000 in
theorem ggX3_up_X3_count : GoodIn wsX3_up wsX3_count := goodIn_r _ [5, 6, 7, 8] (by decide +kernel) (by decide +kernel)
set_option maxRecDepth 20000 in
theorem gX3_up_X3_count : GoodIn wsX3_up (wsV RX3 22 RX3 yX3_count wsX3_count) := goodIn_app (goodIn_of _ (by decide +kernel)) ggX3_up_X3_count
theorem dX3_up_0 : decode cX3_up 0 = .ok (.aload_n 0, 1) := by decide +kernel
theorem dX3_up_1 : decode cX3_up 1 = .ok (.iconst 1, 1) := by decide +kernel
theorem dX3_up_2 : decode cX3_up 2 = .ok (.invokevirtual 22, 3) := by decide +kernel
theorem dX3_up_5 : decode cX3_up 5 = .ok (.aload_n 0, 1) := by decide +kernel
theorem dX3_up_6 : decode cX3_up 6 = .ok (.iconst 2, 1) := by decide +kernel
theorem dX3_up_7 : decode cX3_up 7 = .ok (.invokevirtual 22, 3) := by decide +kernel
theorem dX3_up_10 : decode cX3_up 10 = .ok (.iadd, 1) := by decide +kernel
theorem dX3_up_11 : decode cX3_up 11 = .ok (.ireturn, 1) := by decide +kernel
set_option maxRecDepth 20000 in
theorem ggX3_working_X3_count : GoodIn wsX3_working wsX3_count := goodIn_r _ [5, 6, 7, 8] (by decide +kernel) (by decide +kernel)
set_option maxRecDepth 20000 in
theorem gX3_working_X3_count : GoodIn wsX3_working (wsV RX3 22 RX3 yX3_count wsX3_count) := goodIn_app (goodIn_of _ (by decide +kernel)) ggX3_working_X3_count
theorem dX3_working_0 : decode cX3_working 0 = .ok (.aload_n 0, 1) := by decide +kernel
theorem dX3_working_1 : decode cX3_working 1 = .ok (.iconst 2, 1) := by decide +kernel
theorem dX3_working_2 : decode cX3_working 2 = .ok (.invokevirtual 22, 3) := by decide +kernel
theorem dX3_working_5 : decode cX3_working 5 = .ok (.aload_n 0, 1) := by decide +kernel
theorem dX3_working_6 : decode cX3_working 6 = .ok (.iconst 3, 1) := by decide +kernel
theorem dX3_working_7 : decode cX3_working 7 = .ok (.invokevirtual 22, 3) := by decide +kernel
theorem dX3_working_10 : decode cX3_working 10 = .ok (.iadd, 1) := by decide +kernel
theorem dX3_working_11 : decode cX3_working 11 = .ok (.ireturn, 1) := by decide +kernel
theorem dX3_start_0 : decode cX3_start 0 = .ok (.iconst 0, 1) := by decide +kernel
theorem dX3_start_1 : decode cX3_start 1 = .ok (.istore_n 3, 1) := by decide +kernel
theorem dX3_start_2 : decode cX3_start 2 = .ok (.iconst 0, 1) := by decide +kernel
theorem dX3_start_3 : decode cX3_start 3 = .ok (.istore 4, 2) := by decide +kernel
theorem dX3_start_5 : decode cX3_start 5 = .ok (.iload 4, 2) := by decide +kernel
theorem dX3_start_7 : decode cX3_start 7 = .ok (.bipush 12, 2) := by decide +kernel
theorem dX3_start_9 : decode cX3_start 9 = .ok (.if_icmp .ge 43, 3) := by decide +kernel
theorem dX3_start_12 : decode cX3_start 12 = .ok (.iload_n 3, 1) := by decide +kernel
theorem dX3_start_13 : decode cX3_start 13 = .ok (.iload_n 1, 1) := by decide +kernel
theorem dX3_start_14 : decode cX3_start 14 = .ok (.if_icmp .ge 38, 3) := by decide +kernel
theorem dX3_start_17 : decode cX3_start 17 = .ok (.aload_n 0, 1) := by decide +kernel
theorem dX3_start_18 : decode cX3_start 18 = .ok (.getfield 9, 3) := by decide +kernel
theorem dX3_start_21 : decode cX3_start 21 = .ok (.iload 4, 2) := by decide +kernel
theorem dX3_start_23 : decode cX3_start 23 = .ok (.iaload, 1) := by decide +kernel
theorem dX3_start_24 : decode cX3_start 24 = .ok (.ifCond .ne 22, 3) := by decide +kernel
theorem dX3_start_27 : decode cX3_start 27 = .ok (.aload_n 0, 1) := by decide +kernel
theorem dX3_start_28 : decode cX3_start 28 = .ok (.getfield 9, 3) := by decide +kernel
theorem dX3_start_31 : decode cX3_start 31 = .ok (.iload 4, 2) := by decide +kernel
theorem dX3_start_33 : decode cX3_start 33 = .ok (.iconst 1, 1) := by decide +kernel
theorem dX3_start_34 : decode cX3_start 34 = .ok (.iastore, 1) := by decide +kernel
theorem dX3_start_35 : decode cX3_start 35 = .ok (.aload_n 0, 1) := by decide +kernel
theorem dX3_start_36 : decode cX3_start 36 = .ok (.getfield 15, 3) := by decide +kernel
theorem dX3_start_39 : decode cX3_start 39 = .ok (.iload 4, 2) := by decide +kernel
theorem dX3_start_41 : decode cX3_start 41 = .ok (.iload_n 2, 1) := by decide +kernel
theorem dX3_start_42 : decode cX3_start 42 = .ok (.iastore, 1) := by decide +kernel
theorem dX3_start_43 : decode cX3_start 43 = .ok (.iinc 3 1, 3) := by decide +kernel
theorem dX3_start_46 : decode cX3_start 46 = .ok (.iinc 4 1, 3) := by decide +kernel
theorem dX3_start_49 : decode cX3_start 49 = .ok (.goto (-44), 3) := by decide +kernel
theorem dX3_start_52 : decode cX3_start 52 = .ok (.iload_n 3, 1) := by decide +kernel
theorem dX3_start_53 : decode cX3_start 53 = .ok (.ireturn, 1) := by decide +kernel
set_option maxRecDepth 20000 in
theorem ggX3_shed_X3_turnHighest : GoodIn wsX3_shed wsX3_turnHighest := goodIn_r _ [5, 6, 7, 8, 9] (by decide +kernel) (by decide +kernel)
set_option maxRecDepth 20000 in
theorem gX3_shed_X3_turnHighest : GoodIn wsX3_shed (wsV RX3 26 RX3 yX3_turnHighest wsX3_turnHighest) := goodIn_app (goodIn_of _ (by decide +kernel)) ggX3_shed_X3_turnHighest
theorem dX3_shed_0 : decode cX3_shed 0 = .ok (.aload_n 0, 1) := by decide +kernel
theorem dX3_shed_1 : decode cX3_shed 1 = .ok (.iconst 1, 1) := by decide +kernel
theorem dX3_shed_2 : decode cX3_shed 2 = .ok (.iconst 0, 1) := by decide +kernel
theorem dX3_shed_3 : decode cX3_shed 3 = .ok (.iload_n 1, 1) := by decide +kernel
theorem dX3_shed_4 : decode cX3_shed 4 = .ok (.iload_n 2, 1) := by decide +kernel
theorem dX3_shed_5 : decode cX3_shed 5 = .ok (.invokevirtual 26, 3) := by decide +kernel
theorem dX3_shed_8 : decode cX3_shed 8 = .ok (.istore_n 3, 1) := by decide +kernel
theorem dX3_shed_9 : decode cX3_shed 9 = .ok (.iload_n 3, 1) := by decide +kernel
theorem dX3_shed_10 : decode cX3_shed 10 = .ok (.aload_n 0, 1) := by decide +kernel
theorem dX3_shed_11 : decode cX3_shed 11 = .ok (.iconst 2, 1) := by decide +kernel
theorem dX3_shed_12 : decode cX3_shed 12 = .ok (.iconst 3, 1) := by decide +kernel
theorem dX3_shed_13 : decode cX3_shed 13 = .ok (.iload_n 1, 1) := by decide +kernel
theorem dX3_shed_14 : decode cX3_shed 14 = .ok (.iload_n 3, 1) := by decide +kernel
theorem dX3_shed_15 : decode cX3_shed 15 = .ok (.isub, 1) := by decide +kernel
theorem dX3_shed_16 : decode cX3_shed 16 = .ok (.iload_n 2, 1) := by decide +kernel
theorem dX3_shed_17 : decode cX3_shed 17 = .ok (.invokevirtual 26, 3) := by decide +kernel
theorem dX3_shed_20 : decode cX3_shed 20 = .ok (.iadd, 1) := by decide +kernel
theorem dX3_shed_21 : decode cX3_shed 21 = .ok (.ireturn, 1) := by decide +kernel
theorem dX3_turnHighest_0 : decode cX3_turnHighest 0 = .ok (.iconst 0, 1) := by decide +kernel
theorem dX3_turnHighest_1 : decode cX3_turnHighest 1 = .ok (.istore 5, 2) := by decide +kernel
theorem dX3_turnHighest_3 : decode cX3_turnHighest 3 = .ok (.bipush 11, 2) := by decide +kernel
theorem dX3_turnHighest_5 : decode cX3_turnHighest 5 = .ok (.istore 6, 2) := by decide +kernel
theorem dX3_turnHighest_7 : decode cX3_turnHighest 7 = .ok (.iload 6, 2) := by decide +kernel
theorem dX3_turnHighest_9 : decode cX3_turnHighest 9 = .ok (.ifCond .lt 46, 3) := by decide +kernel
theorem dX3_turnHighest_12 : decode cX3_turnHighest 12 = .ok (.iload 5, 2) := by decide +kernel
theorem dX3_turnHighest_14 : decode cX3_turnHighest 14 = .ok (.iload_n 3, 1) := by decide +kernel
theorem dX3_turnHighest_15 : decode cX3_turnHighest 15 = .ok (.if_icmp .ge 40, 3) := by decide +kernel
theorem dX3_turnHighest_18 : decode cX3_turnHighest 18 = .ok (.aload_n 0, 1) := by decide +kernel
theorem dX3_turnHighest_19 : decode cX3_turnHighest 19 = .ok (.getfield 9, 3) := by decide +kernel
theorem dX3_turnHighest_22 : decode cX3_turnHighest 22 = .ok (.iload 6, 2) := by decide +kernel
theorem dX3_turnHighest_24 : decode cX3_turnHighest 24 = .ok (.iaload, 1) := by decide +kernel
theorem dX3_turnHighest_25 : decode cX3_turnHighest 25 = .ok (.iload_n 1, 1) := by decide +kernel
theorem dX3_turnHighest_26 : decode cX3_turnHighest 26 = .ok (.if_icmp .ne 23, 3) := by decide +kernel
theorem dX3_turnHighest_29 : decode cX3_turnHighest 29 = .ok (.aload_n 0, 1) := by decide +kernel
theorem dX3_turnHighest_30 : decode cX3_turnHighest 30 = .ok (.getfield 9, 3) := by decide +kernel
theorem dX3_turnHighest_33 : decode cX3_turnHighest 33 = .ok (.iload 6, 2) := by decide +kernel
theorem dX3_turnHighest_35 : decode cX3_turnHighest 35 = .ok (.iload_n 2, 1) := by decide +kernel
theorem dX3_turnHighest_36 : decode cX3_turnHighest 36 = .ok (.iastore, 1) := by decide +kernel
theorem dX3_turnHighest_37 : decode cX3_turnHighest 37 = .ok (.aload_n 0, 1) := by decide +kernel
theorem dX3_turnHighest_38 : decode cX3_turnHighest 38 = .ok (.getfield 15, 3) := by decide +kernel
theorem dX3_turnHighest_41 : decode cX3_turnHighest 41 = .ok (.iload 6, 2) := by decide +kernel
theorem dX3_turnHighest_43 : decode cX3_turnHighest 43 = .ok (.iload 4, 2) := by decide +kernel
theorem dX3_turnHighest_45 : decode cX3_turnHighest 45 = .ok (.iastore, 1) := by decide +kernel
theorem dX3_turnHighest_46 : decode cX3_turnHighest 46 = .ok (.iinc 5 1, 3) := by decide +kernel
theorem dX3_turnHighest_49 : decode cX3_turnHighest 49 = .ok (.iinc 6 (-1), 3) := by decide +kernel
theorem dX3_turnHighest_52 : decode cX3_turnHighest 52 = .ok (.goto (-45), 3) := by decide +kernel
theorem dX3_turnHighest_55 : decode cX3_turnHighest 55 = .ok (.iload 5, 2) := by decide +kernel
theorem dX3_turnHighest_57 : decode cX3_turnHighest 57 = .ok (.ireturn, 1) := by decide +kernel
set_option maxRecDepth 20000 in
theorem ggX3_endWarming_X3_endThose : GoodIn wsX3_endWarming wsX3_endThose := goodIn_r _ [5, 6, 7, 8, 9] (by decide +kernel) (by decide +kernel)
set_option maxRecDepth 20000 in
theorem gX3_endWarming_X3_endThose : GoodIn wsX3_endWarming (wsV RX3 30 RX3 yX3_endThose wsX3_endThose) := goodIn_app (goodIn_of _ (by decide +kernel)) ggX3_endWarming_X3_endThose
theorem dX3_endWarming_0 : decode cX3_endWarming 0 = .ok (.aload_n 0, 1) := by decide +kernel
theorem dX3_endWarming_1 : decode cX3_endWarming 1 = .ok (.iconst 1, 1) := by decide +kernel
theorem dX3_endWarming_2 : decode cX3_endWarming 2 = .ok (.iconst 2, 1) := by decide +kernel
theorem dX3_endWarming_3 : decode cX3_endWarming 3 = .ok (.iload_n 1, 1) := by decide +kernel
theorem dX3_endWarming_4 : decode cX3_endWarming 4 = .ok (.invokevirtual 30, 3) := by decide +kernel
theorem dX3_endWarming_7 : decode cX3_endWarming 7 = .ok (.return_, 1) := by decide +kernel
set_option maxRecDepth 20000 in
theorem ggX3_endDraining_X3_endThose : GoodIn wsX3_endDraining wsX3_endThose := goodIn_r _ [5, 6, 7, 8, 9] (by decide +kernel) (by decide +kernel)
set_option maxRecDepth 20000 in
theorem gX3_endDraining_X3_endThose : GoodIn wsX3_endDraining (wsV RX3 30 RX3 yX3_endThose wsX3_endThose) := goodIn_app (goodIn_of _ (by decide +kernel)) ggX3_endDraining_X3_endThose
theorem dX3_endDraining_0 : decode cX3_endDraining 0 = .ok (.aload_n 0, 1) := by decide +kernel
theorem dX3_endDraining_1 : decode cX3_endDraining 1 = .ok (.iconst 3, 1) := by decide +kernel
theorem dX3_endDraining_2 : decode cX3_endDraining 2 = .ok (.iconst 0, 1) := by decide +kernel
theorem dX3_endDraining_3 : decode cX3_endDraining 3 = .ok (.iload_n 1, 1) := by decide +kernel
theorem dX3_endDraining_4 : decode cX3_endDraining 4 = .ok (.invokevirtual 30, 3) := by decide +kernel
theorem dX3_endDraining_7 : decode cX3_endDraining 7 = .ok (.return_, 1) := by decide +kernel
theorem dX3_endThose_0 : decode cX3_endThose 0 = .ok (.iconst 0, 1) := by decide +kernel
theorem dX3_endThose_1 : decode cX3_endThose 1 = .ok (.istore 4, 2) := by decide +kernel
theorem dX3_endThose_3 : decode cX3_endThose 3 = .ok (.iload 4, 2) := by decide +kernel
theorem dX3_endThose_5 : decode cX3_endThose 5 = .ok (.bipush 12, 2) := by decide +kernel
theorem dX3_endThose_7 : decode cX3_endThose 7 = .ok (.if_icmp .ge 39, 3) := by decide +kernel
theorem dX3_endThose_10 : decode cX3_endThose 10 = .ok (.aload_n 0, 1) := by decide +kernel
theorem dX3_endThose_11 : decode cX3_endThose 11 = .ok (.getfield 9, 3) := by decide +kernel
theorem dX3_endThose_14 : decode cX3_endThose 14 = .ok (.iload 4, 2) := by decide +kernel
theorem dX3_endThose_16 : decode cX3_endThose 16 = .ok (.iaload, 1) := by decide +kernel
theorem dX3_endThose_17 : decode cX3_endThose 17 = .ok (.iload_n 1, 1) := by decide +kernel
theorem dX3_endThose_18 : decode cX3_endThose 18 = .ok (.if_icmp .ne 22, 3) := by decide +kernel
theorem dX3_endThose_21 : decode cX3_endThose 21 = .ok (.aload_n 0, 1) := by decide +kernel
theorem dX3_endThose_22 : decode cX3_endThose 22 = .ok (.getfield 15, 3) := by decide +kernel
theorem dX3_endThose_25 : decode cX3_endThose 25 = .ok (.iload 4, 2) := by decide +kernel
theorem dX3_endThose_27 : decode cX3_endThose 27 = .ok (.iaload, 1) := by decide +kernel
theorem dX3_endThose_28 : decode cX3_endThose 28 = .ok (.iload_n 3, 1) := by decide +kernel
theorem dX3_endThose_29 : decode cX3_endThose 29 = .ok (.if_icmp .gt 11, 3) := by decide +kernel
theorem dX3_endThose_32 : decode cX3_endThose 32 = .ok (.aload_n 0, 1) := by decide +kernel
theorem dX3_endThose_33 : decode cX3_endThose 33 = .ok (.getfield 9, 3) := by decide +kernel
theorem dX3_endThose_36 : decode cX3_endThose 36 = .ok (.iload 4, 2) := by decide +kernel
theorem dX3_endThose_38 : decode cX3_endThose 38 = .ok (.iload_n 2, 1) := by decide +kernel
theorem dX3_endThose_39 : decode cX3_endThose 39 = .ok (.iastore, 1) := by decide +kernel
theorem dX3_endThose_40 : decode cX3_endThose 40 = .ok (.iinc 4 1, 3) := by decide +kernel
theorem dX3_endThose_43 : decode cX3_endThose 43 = .ok (.goto (-40), 3) := by decide +kernel
theorem dX3_endThose_46 : decode cX3_endThose 46 = .ok (.return_, 1) := by decide +kernel
theorem dX3_cost_0 : decode cX3_cost 0 = .ok (.iconst 0, 1) := by decide +kernel
theorem dX3_cost_1 : decode cX3_cost 1 = .ok (.istore_n 3, 1) := by decide +kernel
theorem dX3_cost_2 : decode cX3_cost 2 = .ok (.iconst 0, 1) := by decide +kernel
theorem dX3_cost_3 : decode cX3_cost 3 = .ok (.istore 4, 2) := by decide +kernel
theorem dX3_cost_5 : decode cX3_cost 5 = .ok (.iload 4, 2) := by decide +kernel
theorem dX3_cost_7 : decode cX3_cost 7 = .ok (.bipush 12, 2) := by decide +kernel
theorem dX3_cost_9 : decode cX3_cost 9 = .ok (.if_icmp .ge 34, 3) := by decide +kernel
theorem dX3_cost_12 : decode cX3_cost 12 = .ok (.aload_n 0, 1) := by decide +kernel
theorem dX3_cost_13 : decode cX3_cost 13 = .ok (.getfield 9, 3) := by decide +kernel
theorem dX3_cost_16 : decode cX3_cost 16 = .ok (.iload 4, 2) := by decide +kernel
theorem dX3_cost_18 : decode cX3_cost 18 = .ok (.iaload, 1) := by decide +kernel
theorem dX3_cost_19 : decode cX3_cost 19 = .ok (.ifCond .eq 18, 3) := by decide +kernel
theorem dX3_cost_22 : decode cX3_cost 22 = .ok (.iload_n 3, 1) := by decide +kernel
theorem dX3_cost_23 : decode cX3_cost 23 = .ok (.iload 4, 2) := by decide +kernel
theorem dX3_cost_25 : decode cX3_cost 25 = .ok (.bipush 8, 2) := by decide +kernel
theorem dX3_cost_27 : decode cX3_cost 27 = .ok (.if_icmp .ge 7, 3) := by decide +kernel
theorem dX3_cost_30 : decode cX3_cost 30 = .ok (.iload_n 1, 1) := by decide +kernel
theorem dX3_cost_31 : decode cX3_cost 31 = .ok (.goto 4, 3) := by decide +kernel
theorem dX3_cost_34 : decode cX3_cost 34 = .ok (.iload_n 2, 1) := by decide +kernel
theorem dX3_cost_35 : decode cX3_cost 35 = .ok (.iadd, 1) := by decide +kernel
theorem dX3_cost_36 : decode cX3_cost 36 = .ok (.istore_n 3, 1) := by decide +kernel
theorem dX3_cost_37 : decode cX3_cost 37 = .ok (.iinc 4 1, 3) := by decide +kernel
theorem dX3_cost_40 : decode cX3_cost 40 = .ok (.goto (-35), 3) := by decide +kernel
theorem dX3_cost_43 : decode cX3_cost 43 = .ok (.iload_n 3, 1) := by decide +kernel
theorem dX3_cost_44 : decode cX3_cost 44 = .ok (.ireturn, 1) := by decide +kernel
set_option maxRecDepth 20000 in
theorem ggX4_init_X3_init : GoodIn wsX4_init wsX3_init := goodIn_r _ [25, 26, 2, 3, 5, 27, 28, 85, 86] (by decide +kernel) (by decide +kernel)
set_option maxRecDepth 20000 in
theorem gX4_init_X3_init : GoodIn wsX4_init (wsX3_init) := ggX4_init_X3_init
set_option maxRecDepth 20000 in
theorem ggX4_init_X2_init : GoodIn wsX4_init wsX2_init := goodIn_r _ [31, 32, 2, 3, 5, 33, 34, 35, 36, 87, 88, 89, 90, 91, 92, 93, 94] (by decide +kernel) (by decide +kernel)
set_option maxRecDepth 20000 in
theorem gX4_init_X2_init : GoodIn wsX4_init (wsX2_init) := ggX4_init_X2_init
set_option maxRecDepth 20000 in
theorem ggX4_init_X1_init : GoodIn wsX4_init wsX1_init := goodIn_r _ [39, 40, 2, 3, 5, 41, 95, 96] (by decide +kernel) (by decide +kernel)
set_option maxRecDepth 20000 in
theorem gX4_init_X1_init : GoodIn wsX4_init (wsX1_init) := ggX4_init_X1_init
set_option maxRecDepth 20000 in
theorem ggX4_init_X4_begin : GoodIn wsX4_init wsX4_begin := goodIn_r _ [46, 12, 16, 20, 47, 48, 49, 50, 51, 52, 53, 54, 55, 56, 11, 57, 27, 58, 59, 60, 15, 61, 62, 63, 64, 65, 66, 67, 68, 19, 69, 70, 71, 72, 73, 74, 75, 76, 77, 78, 79, 80, 81, 82, 83, 84, 85, 86, 87, 88, 89, 90, 91, 92, 93, 94, 95, 96] (by decide +kernel) (by decide +kernel)
set_option maxRecDepth 20000 in
theorem gX4_init_X4_begin : GoodIn wsX4_init (wsV RX4 49 RX4 yX4_begin wsX4_begin) := goodIn_app (goodIn_of _ (by decide +kernel)) ggX4_init_X4_begin
theorem dX4_init_0 : decode cX4_init 0 = .ok (.aload_n 0, 1) := by decide +kernel
theorem dX4_init_1 : decode cX4_init 1 = .ok (.invokespecial 3, 3) := by decide +kernel
theorem dX4_init_4 : decode cX4_init 4 = .ok (.aload_n 0, 1) := by decide +kernel
theorem dX4_init_5 : decode cX4_init 5 = .ok (.aload_n 1, 1) := by decide +kernel
theorem dX4_init_6 : decode cX4_init 6 = .ok (.putfield 9, 3) := by decide +kernel
theorem dX4_init_9 : decode cX4_init 9 = .ok (.aload_n 0, 1) := by decide +kernel
theorem dX4_init_10 : decode cX4_init 10 = .ok (.sipush 200, 3) := by decide +kernel
theorem dX4_init_13 : decode cX4_init 13 = .ok (.newarray .int, 2) := by decide +kernel
theorem dX4_init_15 : decode cX4_init 15 = .ok (.putfield 15, 3) := by decide +kernel
theorem dX4_init_18 : decode cX4_init 18 = .ok (.aload_n 0, 1) := by decide +kernel
theorem dX4_init_19 : decode cX4_init 19 = .ok (.sipush 200, 3) := by decide +kernel
theorem dX4_init_22 : decode cX4_init 22 = .ok (.newarray .boolean, 2) := by decide +kernel
theorem dX4_init_24 : decode cX4_init 24 = .ok (.putfield 19, 3) := by decide +kernel
theorem dX4_init_27 : decode cX4_init 27 = .ok (.aload_n 0, 1) := by decide +kernel
theorem dX4_init_28 : decode cX4_init 28 = .ok (.new 23, 3) := by decide +kernel
theorem dX4_init_31 : decode cX4_init 31 = .ok (.dup, 1) := by decide +kernel
theorem dX4_init_32 : decode cX4_init 32 = .ok (.invokespecial 25, 3) := by decide +kernel
theorem dX4_init_35 : decode cX4_init 35 = .ok (.putfield 26, 3) := by decide +kernel
theorem dX4_init_38 : decode cX4_init 38 = .ok (.aload_n 0, 1) := by decide +kernel
theorem dX4_init_39 : decode cX4_init 39 = .ok (.new 30, 3) := by decide +kernel
theorem dX4_init_42 : decode cX4_init 42 = .ok (.dup, 1) := by decide +kernel
theorem dX4_init_43 : decode cX4_init 43 = .ok (.invokespecial 32, 3) := by decide +kernel
theorem dX4_init_46 : decode cX4_init 46 = .ok (.putfield 33, 3) := by decide +kernel
theorem dX4_init_49 : decode cX4_init 49 = .ok (.aload_n 0, 1) := by decide +kernel
theorem dX4_init_50 : decode cX4_init 50 = .ok (.new 37, 3) := by decide +kernel
theorem dX4_init_53 : decode cX4_init 53 = .ok (.dup, 1) := by decide +kernel
theorem dX4_init_54 : decode cX4_init 54 = .ok (.invokespecial 39, 3) := by decide +kernel
theorem dX4_init_57 : decode cX4_init 57 = .ok (.putfield 40, 3) := by decide +kernel
theorem dX4_init_60 : decode cX4_init 60 = .ok (.aload_n 0, 1) := by decide +kernel
theorem dX4_init_61 : decode cX4_init 61 = .ok (.bipush 6, 2) := by decide +kernel
theorem dX4_init_63 : decode cX4_init 63 = .ok (.sipush 200, 3) := by decide +kernel
theorem dX4_init_66 : decode cX4_init 66 = .ok (.multianewarray 44 2, 4) := by decide +kernel
theorem dX4_init_70 : decode cX4_init 70 = .ok (.putfield 46, 3) := by decide +kernel
theorem dX4_init_73 : decode cX4_init 73 = .ok (.aload_n 0, 1) := by decide +kernel
theorem dX4_init_74 : decode cX4_init 74 = .ok (.invokevirtual 49, 3) := by decide +kernel
theorem dX4_init_77 : decode cX4_init 77 = .ok (.return_, 1) := by decide +kernel
set_option maxRecDepth 20000 in
theorem ggX4_begin_X3_begin : GoodIn wsX4_begin wsX3_begin := goodIn_r _ [15, 16, 46, 47] (by decide +kernel) (by decide +kernel)
set_option maxRecDepth 20000 in
theorem gX4_begin_X3_begin : GoodIn wsX4_begin (wsV RX4 52 RX3 yX3_begin wsX3_begin) := goodIn_app (goodIn_of _ (by decide +kernel)) ggX4_begin_X3_begin
set_option maxRecDepth 20000 in
theorem ggX4_begin_X2_begin : GoodIn wsX4_begin wsX2_begin := goodIn_r _ [21, 22, 23, 24, 25, 48, 49, 50, 51, 52, 53, 54, 55] (by decide +kernel) (by decide +kernel)
set_option maxRecDepth 20000 in
theorem gX4_begin_X2_begin : GoodIn wsX4_begin (wsV RX4 53 RX2 yX2_begin wsX2_begin) := goodIn_app (goodIn_of _ (by decide +kernel)) ggX4_begin_X2_begin
set_option maxRecDepth 20000 in
theorem ggX4_begin_X1_begin : GoodIn wsX4_begin wsX1_begin := goodIn_r _ [30, 31, 56, 57] (by decide +kernel) (by decide +kernel)
set_option maxRecDepth 20000 in
theorem gX4_begin_X1_begin : GoodIn wsX4_begin (wsV RX4 54 RX1 yX1_begin wsX1_begin) := goodIn_app (goodIn_of _ (by decide +kernel)) ggX4_begin_X1_begin
theorem dX4_begin_0 : decode cX4_begin 0 = .ok (.aload_n 0, 1) := by decide +kernel
theorem dX4_begin_1 : decode cX4_begin 1 = .ok (.getfield 26, 3) := by decide +kernel
theorem dX4_begin_4 : decode cX4_begin 4 = .ok (.invokevirtual 52, 3) := by decide +kernel
theorem dX4_begin_7 : decode cX4_begin 7 = .ok (.aload_n 0, 1) := by decide +kernel
theorem dX4_begin_8 : decode cX4_begin 8 = .ok (.getfield 33, 3) := by decide +kernel
theorem dX4_begin_11 : decode cX4_begin 11 = .ok (.invokevirtual 53, 3) := by decide +kernel
theorem dX4_begin_14 : decode cX4_begin 14 = .ok (.aload_n 0, 1) := by decide +kernel
theorem dX4_begin_15 : decode cX4_begin 15 = .ok (.getfield 40, 3) := by decide +kernel
theorem dX4_begin_18 : decode cX4_begin 18 = .ok (.invokevirtual 54, 3) := by decide +kernel
theorem dX4_begin_21 : decode cX4_begin 21 = .ok (.aload_n 0, 1) := by decide +kernel
theorem dX4_begin_22 : decode cX4_begin 22 = .ok (.iconst 0, 1) := by decide +kernel
theorem dX4_begin_23 : decode cX4_begin 23 = .ok (.putfield 55, 3) := by decide +kernel
theorem dX4_begin_26 : decode cX4_begin 26 = .ok (.aload_n 0, 1) := by decide +kernel
theorem dX4_begin_27 : decode cX4_begin 27 = .ok (.iconst (-1), 1) := by decide +kernel
theorem dX4_begin_28 : decode cX4_begin 28 = .ok (.putfield 59, 3) := by decide +kernel
theorem dX4_begin_31 : decode cX4_begin 31 = .ok (.aload_n 0, 1) := by decide +kernel
theorem dX4_begin_32 : decode cX4_begin 32 = .ok (.iconst (-1), 1) := by decide +kernel
theorem dX4_begin_33 : decode cX4_begin 33 = .ok (.putfield 62, 3) := by decide +kernel
theorem dX4_begin_36 : decode cX4_begin 36 = .ok (.aload_n 0, 1) := by decide +kernel
theorem dX4_begin_37 : decode cX4_begin 37 = .ok (.iconst 0, 1) := by decide +kernel
theorem dX4_begin_38 : decode cX4_begin 38 = .ok (.putfield 65, 3) := by decide +kernel
theorem dX4_begin_41 : decode cX4_begin 41 = .ok (.aload_n 0, 1) := by decide +kernel
theorem dX4_begin_42 : decode cX4_begin 42 = .ok (.iconst 0, 1) := by decide +kernel
theorem dX4_begin_43 : decode cX4_begin 43 = .ok (.putfield 68, 3) := by decide +kernel
theorem dX4_begin_46 : decode cX4_begin 46 = .ok (.aload_n 0, 1) := by decide +kernel
theorem dX4_begin_47 : decode cX4_begin 47 = .ok (.iconst 0, 1) := by decide +kernel
theorem dX4_begin_48 : decode cX4_begin 48 = .ok (.putfield 71, 3) := by decide +kernel
theorem dX4_begin_51 : decode cX4_begin 51 = .ok (.aload_n 0, 1) := by decide +kernel
theorem dX4_begin_52 : decode cX4_begin 52 = .ok (.iconst 0, 1) := by decide +kernel
theorem dX4_begin_53 : decode cX4_begin 53 = .ok (.putfield 74, 3) := by decide +kernel
theorem dX4_begin_56 : decode cX4_begin 56 = .ok (.return_, 1) := by decide +kernel
set_option maxRecDepth 20000 in
theorem ggX4_loadOf_X6_within : GoodIn wsX4_loadOf wsX6_within := goodIn_r _ [4] (by decide +kernel) (by decide +kernel)
set_option maxRecDepth 20000 in
theorem gX4_loadOf_X6_within_n77 : GoodIn wsX4_loadOf (wsX6_within) := ggX4_loadOf_X6_within
theorem dX4_loadOf_0 : decode cX4_loadOf 0 = .ok (.iload_n 1, 1) := by decide +kernel
theorem dX4_loadOf_1 : decode cX4_loadOf 1 = .ok (.iconst 0, 1) := by decide +kernel
theorem dX4_loadOf_2 : decode cX4_loadOf 2 = .ok (.sipush 199, 3) := by decide +kernel
theorem dX4_loadOf_5 : decode cX4_loadOf 5 = .ok (.invokestatic 77, 3) := by decide +kernel
theorem dX4_loadOf_8 : decode cX4_loadOf 8 = .ok (.ifCond .eq 12, 3) := by decide +kernel
theorem dX4_loadOf_11 : decode cX4_loadOf 11 = .ok (.aload_n 0, 1) := by decide +kernel
theorem dX4_loadOf_12 : decode cX4_loadOf 12 = .ok (.getfield 15, 3) := by decide +kernel
theorem dX4_loadOf_15 : decode cX4_loadOf 15 = .ok (.iload_n 1, 1) := by decide +kernel
theorem dX4_loadOf_16 : decode cX4_loadOf 16 = .ok (.iaload, 1) := by decide +kernel
theorem dX4_loadOf_17 : decode cX4_loadOf 17 = .ok (.goto 4, 3) := by decide +kernel
theorem dX4_loadOf_20 : decode cX4_loadOf 20 = .ok (.iconst 0, 1) := by decide +kernel
theorem dX4_loadOf_21 : decode cX4_loadOf 21 = .ok (.ireturn, 1) := by decide +kernel
set_option maxRecDepth 20000 in
theorem ggX4_changeLoad_X6_within : GoodIn wsX4_changeLoad wsX6_within := goodIn_r _ [4] (by decide +kernel) (by decide +kernel)
set_option maxRecDepth 20000 in
theorem gX4_changeLoad_X6_within_n77 : GoodIn wsX4_changeLoad (wsX6_within) := ggX4_changeLoad_X6_within
theorem dX4_changeLoad_0 : decode cX4_changeLoad 0 = .ok (.iload_n 1, 1) := by decide +kernel
theorem dX4_changeLoad_1 : decode cX4_changeLoad 1 = .ok (.iconst 0, 1) := by decide +kernel
theorem dX4_changeLoad_2 : decode cX4_changeLoad 2 = .ok (.sipush 199, 3) := by decide +kernel
theorem dX4_changeLoad_5 : decode cX4_changeLoad 5 = .ok (.invokestatic 77, 3) := by decide +kernel
theorem dX4_changeLoad_8 : decode cX4_changeLoad 8 = .ok (.ifCond .ne 7, 3) := by decide +kernel
theorem dX4_changeLoad_11 : decode cX4_changeLoad 11 = .ok (.sipush (-1002), 3) := by decide +kernel
theorem dX4_changeLoad_14 : decode cX4_changeLoad 14 = .ok (.ireturn, 1) := by decide +kernel
theorem dX4_changeLoad_15 : decode cX4_changeLoad 15 = .ok (.aload_n 0, 1) := by decide +kernel
theorem dX4_changeLoad_16 : decode cX4_changeLoad 16 = .ok (.getfield 15, 3) := by decide +kernel
theorem dX4_changeLoad_19 : decode cX4_changeLoad 19 = .ok (.iload_n 1, 1) := by decide +kernel
theorem dX4_changeLoad_20 : decode cX4_changeLoad 20 = .ok (.iaload, 1) := by decide +kernel
theorem dX4_changeLoad_21 : decode cX4_changeLoad 21 = .ok (.istore_n 3, 1) := by decide +kernel
theorem dX4_changeLoad_22 : decode cX4_changeLoad 22 = .ok (.aload_n 0, 1) := by decide +kernel
theorem dX4_changeLoad_23 : decode cX4_changeLoad 23 = .ok (.getfield 15, 3) := by decide +kernel
theorem dX4_changeLoad_26 : decode cX4_changeLoad 26 = .ok (.iload_n 1, 1) := by decide +kernel
theorem dX4_changeLoad_27 : decode cX4_changeLoad 27 = .ok (.iload_n 2, 1) := by decide +kernel
theorem dX4_changeLoad_28 : decode cX4_changeLoad 28 = .ok (.iastore, 1) := by decide +kernel
theorem dX4_changeLoad_29 : decode cX4_changeLoad 29 = .ok (.iload_n 3, 1) := by decide +kernel
theorem dX4_changeLoad_30 : decode cX4_changeLoad 30 = .ok (.ireturn, 1) := by decide +kernel
set_option maxRecDepth 20000 in
theorem ggX4_changeMeter_X6_within : GoodIn wsX4_changeMeter wsX6_within := goodIn_r _ [4] (by decide +kernel) (by decide +kernel)
set_option maxRecDepth 20000 in
theorem gX4_changeMeter_X6_within_n77 : GoodIn wsX4_changeMeter (wsX6_within) := ggX4_changeMeter_X6_within
theorem dX4_changeMeter_0 : decode cX4_changeMeter 0 = .ok (.iload_n 1, 1) := by decide +kernel
theorem dX4_changeMeter_1 : decode cX4_changeMeter 1 = .ok (.iconst 0, 1) := by decide +kernel
theorem dX4_changeMeter_2 : decode cX4_changeMeter 2 = .ok (.sipush 199, 3) := by decide +kernel
theorem dX4_changeMeter_5 : decode cX4_changeMeter 5 = .ok (.invokestatic 77, 3) := by decide +kernel
theorem dX4_changeMeter_8 : decode cX4_changeMeter 8 = .ok (.ifCond .ne 7, 3) := by decide +kernel
theorem dX4_changeMeter_11 : decode cX4_changeMeter 11 = .ok (.sipush (-1002), 3) := by decide +kernel
theorem dX4_changeMeter_14 : decode cX4_changeMeter 14 = .ok (.ireturn, 1) := by decide +kernel
theorem dX4_changeMeter_15 : decode cX4_changeMeter 15 = .ok (.aload_n 0, 1) := by decide +kernel
theorem dX4_changeMeter_16 : decode cX4_changeMeter 16 = .ok (.getfield 19, 3) := by decide +kernel
theorem dX4_changeMeter_19 : decode cX4_changeMeter 19 = .ok (.iload_n 1, 1) := by decide +kernel
theorem dX4_changeMeter_20 : decode cX4_changeMeter 20 = .ok (.baload, 1) := by decide +kernel
theorem dX4_changeMeter_21 : decode cX4_changeMeter 21 = .ok (.ifCond .eq 7, 3) := by decide +kernel
theorem dX4_changeMeter_24 : decode cX4_changeMeter 24 = .ok (.iconst 1, 1) := by decide +kernel
theorem dX4_changeMeter_25 : decode cX4_changeMeter 25 = .ok (.goto 4, 3) := by decide +kernel
theorem dX4_changeMeter_28 : decode cX4_changeMeter 28 = .ok (.iconst 0, 1) := by decide +kernel
theorem dX4_changeMeter_29 : decode cX4_changeMeter 29 = .ok (.istore_n 3, 1) := by decide +kernel
theorem dX4_changeMeter_30 : decode cX4_changeMeter 30 = .ok (.aload_n 0, 1) := by decide +kernel
theorem dX4_changeMeter_31 : decode cX4_changeMeter 31 = .ok (.getfield 19, 3) := by decide +kernel
theorem dX4_changeMeter_34 : decode cX4_changeMeter 34 = .ok (.iload_n 1, 1) := by decide +kernel
theorem dX4_changeMeter_35 : decode cX4_changeMeter 35 = .ok (.iload_n 2, 1) := by decide +kernel
theorem dX4_changeMeter_36 : decode cX4_changeMeter 36 = .ok (.bastore, 1) := by decide +kernel
theorem dX4_changeMeter_37 : decode cX4_changeMeter 37 = .ok (.iload_n 3, 1) := by decide +kernel
theorem dX4_changeMeter_38 : decode cX4_changeMeter 38 = .ok (.ireturn, 1) := by decide +kernel
set_option maxRecDepth 20000 in
theorem ggX4_run_X4_step : GoodIn wsX4_run wsX4_step := goodIn_r _ [5, 6, 7, 8, 9, 10, 11, 12, 13, 14, 15, 16, 17, 18, 19, 20, 21, 22, 23, 24, 25, 26, 27, 28, 29, 30, 31, 32, 33, 34, 35, 36, 37, 38, 39, 40, 41, 42, 43, 44, 45, 46, 47, 48, 49, 50, 51, 52, 53, 54, 55, 56, 57, 58, 59, 60, 61, 62, 63, 64, 65, 66, 4, 67, 68, 69, 70, 71, 72, 73, 74, 75, 76, 77, 78, 79, 80, 81, 82, 83, 84, 85, 86, 87, 88, 89, 90, 91, 92, 93, 94, 95, 96, 97, 98, 99, 100, 101, 102, 103, 104, 105, 106, 107, 108, 109, 110, 111, 112, 113, 114, 115, 116, 117, 118, 119, 120, 121, 122, 123, 124, 125, 126, 127, 128, 129, 130, 131, 132, 133, 134, 135, 136, 137, 138, 139, 140, 141, 142, 143, 144, 145, 146, 147, 148, 149, 150, 151, 152, 153, 154, 155, 156, 157, 158, 159, 160, 161, 162, 163, 164, 165, 166, 167, 168, 169, 170, 171, 172, 173, 174, 175] (by decide +kernel) (by decide +kernel)
set_option maxRecDepth 20000 in
theorem gX4_run_X4_step : GoodIn wsX4_run (wsV RX4 81 RX4 yX4_step wsX4_step) := goodIn_app (goodIn_of _ (by decide +kernel)) ggX4_run_X4_step
theorem dX4_run_0 : decode cX4_run 0 = .ok (.iconst 0, 1) := by decide +kernel
theorem dX4_run_1 : decode cX4_run 1 = .ok (.istore_n 2, 1) := by decide +kernel
theorem dX4_run_2 : decode cX4_run 2 = .ok (.iload_n 2, 1) := by decide +kernel
theorem dX4_run_3 : decode cX4_run 3 = .ok (.iload_n 1, 1) := by decide +kernel
theorem dX4_run_4 : decode cX4_run 4 = .ok (.if_icmp .ge 13, 3) := by decide +kernel
theorem dX4_run_7 : decode cX4_run 7 = .ok (.aload_n 0, 1) := by decide +kernel
theorem dX4_run_8 : decode cX4_run 8 = .ok (.invokevirtual 81, 3) := by decide +kernel
theorem dX4_run_11 : decode cX4_run 11 = .ok (.iinc 2 1, 3) := by decide +kernel
theorem dX4_run_14 : decode cX4_run 14 = .ok (.goto (-12), 3) := by decide +kernel
theorem dX4_run_17 : decode cX4_run 17 = .ok (.return_, 1) := by decide +kernel
set_option maxRecDepth 20000 in
theorem ggX4_step_X6_within : GoodIn wsX4_step wsX6_within := goodIn_r _ [16] (by decide +kernel) (by decide +kernel)
set_option maxRecDepth 20000 in
theorem gX4_step_X6_within_n77 : GoodIn wsX4_step (wsX6_within) := ggX4_step_X6_within
set_option maxRecDepth 20000 in
theorem ggX4_step_X2_come : GoodIn wsX4_step wsX2_come := goodIn_r _ [21, 22, 23, 24, 25, 26, 14, 15, 16, 27, 28, 29, 20, 30, 31, 32, 33, 34, 35, 36, 37, 158, 159, 160, 161, 162, 163, 164, 165] (by decide +kernel) (by decide +kernel)
set_option maxRecDepth 20000 in
theorem gX4_step_X2_come : GoodIn wsX4_step (wsV RX4 84 RX2 yX2_come wsX2_come) := goodIn_app (goodIn_of _ (by decide +kernel)) ggX4_step_X2_come
set_option maxRecDepth 20000 in
theorem ggX4_step_X1_note : GoodIn wsX4_step wsX1_note := goodIn_r _ [42, 43, 14, 15, 16, 166, 167] (by decide +kernel) (by decide +kernel)
set_option maxRecDepth 20000 in
theorem gX4_step_X1_note : GoodIn wsX4_step (wsV RX4 91 RX1 yX1_note wsX1_note) := goodIn_app (goodIn_of _ (by decide +kernel)) ggX4_step_X1_note
set_option maxRecDepth 20000 in
theorem ggX4_step_X5_value : GoodIn wsX4_step wsX5_value := goodIn_r _ [48, 49, 14, 15, 16, 168, 169] (by decide +kernel) (by decide +kernel)
set_option maxRecDepth 20000 in
theorem gX4_step_X5_value : GoodIn wsX4_step (wsV RX4 96 RX5 yX5_value wsX5_value) := goodIn_app (goodIn_of _ (by decide +kernel)) ggX4_step_X5_value
set_option maxRecDepth 20000 in
theorem ggX4_step_X1_read : GoodIn wsX4_step wsX1_read := goodIn_r _ [53, 54, 55, 56, 57, 43, 58, 166, 167] (by decide +kernel) (by decide +kernel)
set_option maxRecDepth 20000 in
theorem gX4_step_X1_read : GoodIn wsX4_step (wsV RX4 100 RX1 yX1_read wsX1_read) := goodIn_app (goodIn_of _ (by decide +kernel)) ggX4_step_X1_read
set_option maxRecDepth 20000 in
theorem ggX4_step_X4_wantedByRule : GoodIn wsX4_step wsX4_wantedByRule := goodIn_r _ [63, 6, 64, 55, 56, 57, 4, 8, 44, 45, 46, 47, 48, 49, 14, 15, 16, 65, 66, 67, 68, 69, 70, 71, 72, 73, 74, 144, 145, 146, 147, 148, 149, 150, 151, 152, 153, 154, 155, 156, 157, 166, 167, 168, 169, 170, 171] (by decide +kernel) (by decide +kernel)
set_option maxRecDepth 20000 in
theorem gX4_step_X4_wantedByRule : GoodIn wsX4_step (wsV RX4 103 RX4 yX4_wantedByRule wsX4_wantedByRule) := goodIn_app (goodIn_of _ (by decide +kernel)) ggX4_step_X4_wantedByRule
set_option maxRecDepth 20000 in
theorem ggX4_step_X5_bounded : GoodIn wsX4_step wsX5_bounded := goodIn_r _ [78, 79, 49, 80, 55, 56, 57, 81, 82, 83, 84, 35, 36, 37, 168, 169] (by decide +kernel) (by decide +kernel)
set_option maxRecDepth 20000 in
theorem gX4_step_X5_bounded : GoodIn wsX4_step (wsV RX4 107 RX5 yX5_bounded wsX5_bounded) := goodIn_app (goodIn_of _ (by decide +kernel)) ggX4_step_X5_bounded
set_option maxRecDepth 20000 in
theorem ggX4_step_X4_makeChanges : GoodIn wsX4_step wsX4_makeChanges := goodIn_r _ [88, 8, 6, 1, 64, 55, 56, 57, 7, 89, 65, 66, 67, 68, 69, 70, 71, 72, 73, 74, 90, 91, 92, 62, 93, 44, 45, 46, 47, 48, 49, 14, 15, 16, 75, 76, 77, 78, 79, 80, 81, 82, 83, 84, 35, 36, 37, 94, 95, 96, 97, 98, 99, 100, 101, 102, 103, 104, 105, 106, 144, 145, 146, 147, 148, 149, 150, 151, 152, 153, 154, 155, 156, 157, 170, 171, 168, 169] (by decide +kernel) (by decide +kernel)
set_option maxRecDepth 20000 in
theorem gX4_step_X4_makeChanges : GoodIn wsX4_step (wsV RX4 111 RX4 yX4_makeChanges wsX4_makeChanges) := goodIn_app (goodIn_of _ (by decide +kernel)) ggX4_step_X4_makeChanges
set_option maxRecDepth 20000 in
theorem ggX4_step_X3_endWarming : GoodIn wsX4_step wsX3_endWarming := goodIn_r _ [110, 111, 112, 113, 68, 114, 74, 98, 170, 171] (by decide +kernel) (by decide +kernel)
set_option maxRecDepth 20000 in
theorem gX4_step_X3_endWarming : GoodIn wsX4_step (wsV RX4 114 RX3 yX3_endWarming wsX3_endWarming) := goodIn_app (goodIn_of _ (by decide +kernel)) ggX4_step_X3_endWarming
set_option maxRecDepth 20000 in
theorem ggX4_step_X3_working : GoodIn wsX4_step wsX3_working := goodIn_r _ [118, 70, 71, 72, 68, 73, 74, 170, 171] (by decide +kernel) (by decide +kernel)
set_option maxRecDepth 20000 in
theorem gX4_step_X3_working : GoodIn wsX4_step (wsV RX4 118 RX3 yX3_working wsX3_working) := goodIn_app (goodIn_of _ (by decide +kernel)) ggX4_step_X3_working
set_option maxRecDepth 20000 in
theorem ggX4_step_X2_serve : GoodIn wsX4_step wsX2_serve := goodIn_r _ [122, 32, 24, 123, 82, 56, 83, 22, 124, 125, 126, 20, 127, 31, 33, 14, 15, 16, 34, 35, 36, 37, 128, 129, 130, 131, 158, 159, 160, 161, 162, 163, 164, 165] (by decide +kernel) (by decide +kernel)
set_option maxRecDepth 20000 in
theorem gX4_step_X2_serve : GoodIn wsX4_step (wsV RX4 121 RX2 yX2_serve wsX2_serve) := goodIn_app (goodIn_of _ (by decide +kernel)) ggX4_step_X2_serve
set_option maxRecDepth 20000 in
theorem ggX4_step_X3_cost : GoodIn wsX4_step wsX3_cost := goodIn_r _ [135, 74, 170, 171] (by decide +kernel) (by decide +kernel)
set_option maxRecDepth 20000 in
theorem gX4_step_X3_cost : GoodIn wsX4_step (wsV RX4 124 RX3 yX3_cost wsX3_cost) := goodIn_app (goodIn_of _ (by decide +kernel)) ggX4_step_X3_cost
set_option maxRecDepth 20000 in
theorem ggX4_step_X3_endDraining : GoodIn wsX4_step wsX3_endDraining := goodIn_r _ [139, 111, 112, 113, 68, 114, 74, 98, 170, 171] (by decide +kernel) (by decide +kernel)
set_option maxRecDepth 20000 in
theorem gX4_step_X3_endDraining : GoodIn wsX4_step (wsV RX4 127 RX3 yX3_endDraining wsX3_endDraining) := goodIn_app (goodIn_of _ (by decide +kernel)) ggX4_step_X3_endDraining
set_option maxRecDepth 20000 in
theorem ggX4_step_X2_leave : GoodIn wsX4_step wsX2_leave := goodIn_r _ [143, 32, 26, 22, 24, 25, 23, 124, 125, 126, 20, 127, 31, 33, 14, 15, 16, 34, 35, 36, 37, 128, 129, 130, 131, 27, 28, 29, 30, 158, 159, 160, 161, 162, 163, 164, 165] (by decide +kernel) (by decide +kernel)
set_option maxRecDepth 20000 in
theorem gX4_step_X2_leave : GoodIn wsX4_step (wsV RX4 130 RX2 yX2_leave wsX2_leave) := goodIn_app (goodIn_of _ (by decide +kernel)) ggX4_step_X2_leave
set_option maxRecDepth 20000 in
theorem ggX4_step_X3_up : GoodIn wsX4_step wsX3_up := goodIn_r _ [69, 70, 71, 72, 68, 73, 74, 170, 171] (by decide +kernel) (by decide +kernel)
set_option maxRecDepth 20000 in
theorem gX4_step_X3_up : GoodIn wsX4_step (wsV RX4 134 RX3 yX3_up wsX3_up) := goodIn_app (goodIn_of _ (by decide +kernel)) ggX4_step_X3_up
theorem dX4_step_0 : decode cX4_step 0 = .ok (.aload_n 0, 1) := by decide +kernel
theorem dX4_step_1 : decode cX4_step 1 = .ok (.getfield 55, 3) := by decide +kernel
theorem dX4_step_4 : decode cX4_step 4 = .ok (.iconst 0, 1) := by decide +kernel
theorem dX4_step_5 : decode cX4_step 5 = .ok (.sipush 199, 3) := by decide +kernel
theorem dX4_step_8 : decode cX4_step 8 = .ok (.invokestatic 77, 3) := by decide +kernel
theorem dX4_step_11 : decode cX4_step 11 = .ok (.ifCond .ne 4, 3) := by decide +kernel
theorem dX4_step_14 : decode cX4_step 14 = .ok (.return_, 1) := by decide +kernel
theorem dX4_step_15 : decode cX4_step 15 = .ok (.aload_n 0, 1) := by decide +kernel
theorem dX4_step_16 : decode cX4_step 16 = .ok (.getfield 33, 3) := by decide +kernel
theorem dX4_step_19 : decode cX4_step 19 = .ok (.aload_n 0, 1) := by decide +kernel
theorem dX4_step_20 : decode cX4_step 20 = .ok (.getfield 55, 3) := by decide +kernel
theorem dX4_step_23 : decode cX4_step 23 = .ok (.aload_n 0, 1) := by decide +kernel
theorem dX4_step_24 : decode cX4_step 24 = .ok (.getfield 15, 3) := by decide +kernel
theorem dX4_step_27 : decode cX4_step 27 = .ok (.aload_n 0, 1) := by decide +kernel
theorem dX4_step_28 : decode cX4_step 28 = .ok (.getfield 55, 3) := by decide +kernel
theorem dX4_step_31 : decode cX4_step 31 = .ok (.iaload, 1) := by decide +kernel
theorem dX4_step_32 : decode cX4_step 32 = .ok (.invokevirtual 84, 3) := by decide +kernel
theorem dX4_step_35 : decode cX4_step 35 = .ok (.aload_n 0, 1) := by decide +kernel
theorem dX4_step_36 : decode cX4_step 36 = .ok (.getfield 33, 3) := by decide +kernel
theorem dX4_step_39 : decode cX4_step 39 = .ok (.getfield 88, 3) := by decide +kernel
theorem dX4_step_42 : decode cX4_step 42 = .ok (.istore_n 1, 1) := by decide +kernel
theorem dX4_step_43 : decode cX4_step 43 = .ok (.aload_n 0, 1) := by decide +kernel
theorem dX4_step_44 : decode cX4_step 44 = .ok (.getfield 40, 3) := by decide +kernel
theorem dX4_step_47 : decode cX4_step 47 = .ok (.aload_n 0, 1) := by decide +kernel
theorem dX4_step_48 : decode cX4_step 48 = .ok (.getfield 55, 3) := by decide +kernel
theorem dX4_step_51 : decode cX4_step 51 = .ok (.aload_n 0, 1) := by decide +kernel
theorem dX4_step_52 : decode cX4_step 52 = .ok (.getfield 19, 3) := by decide +kernel
theorem dX4_step_55 : decode cX4_step 55 = .ok (.aload_n 0, 1) := by decide +kernel
theorem dX4_step_56 : decode cX4_step 56 = .ok (.getfield 55, 3) := by decide +kernel
theorem dX4_step_59 : decode cX4_step 59 = .ok (.baload, 1) := by decide +kernel
theorem dX4_step_60 : decode cX4_step 60 = .ok (.ifCond .eq 7, 3) := by decide +kernel
theorem dX4_step_63 : decode cX4_step 63 = .ok (.iconst (-1), 1) := by decide +kernel
theorem dX4_step_64 : decode cX4_step 64 = .ok (.goto 4, 3) := by decide +kernel
theorem dX4_step_67 : decode cX4_step 67 = .ok (.iload_n 1, 1) := by decide +kernel
theorem dX4_step_68 : decode cX4_step 68 = .ok (.invokevirtual 91, 3) := by decide +kernel
theorem dX4_step_71 : decode cX4_step 71 = .ok (.aload_n 0, 1) := by decide +kernel
theorem dX4_step_72 : decode cX4_step 72 = .ok (.getfield 40, 3) := by decide +kernel
theorem dX4_step_75 : decode cX4_step 75 = .ok (.aload_n 0, 1) := by decide +kernel
theorem dX4_step_76 : decode cX4_step 76 = .ok (.getfield 55, 3) := by decide +kernel
theorem dX4_step_79 : decode cX4_step 79 = .ok (.aload_n 0, 1) := by decide +kernel
theorem dX4_step_80 : decode cX4_step 80 = .ok (.getfield 9, 3) := by decide +kernel
theorem dX4_step_83 : decode cX4_step 83 = .ok (.iconst 5, 1) := by decide +kernel
theorem dX4_step_84 : decode cX4_step 84 = .ok (.invokevirtual 96, 3) := by decide +kernel
theorem dX4_step_87 : decode cX4_step 87 = .ok (.isub, 1) := by decide +kernel
theorem dX4_step_88 : decode cX4_step 88 = .ok (.aload_n 0, 1) := by decide +kernel
theorem dX4_step_89 : decode cX4_step 89 = .ok (.getfield 9, 3) := by decide +kernel
theorem dX4_step_92 : decode cX4_step 92 = .ok (.bipush 6, 2) := by decide +kernel
theorem dX4_step_94 : decode cX4_step 94 = .ok (.invokevirtual 96, 3) := by decide +kernel
theorem dX4_step_97 : decode cX4_step 97 = .ok (.invokevirtual 100, 3) := by decide +kernel
theorem dX4_step_100 : decode cX4_step 100 = .ok (.aload_n 0, 1) := by decide +kernel
theorem dX4_step_101 : decode cX4_step 101 = .ok (.aload_n 0, 1) := by decide +kernel
theorem dX4_step_102 : decode cX4_step 102 = .ok (.getfield 9, 3) := by decide +kernel
theorem dX4_step_105 : decode cX4_step 105 = .ok (.aload_n 0, 1) := by decide +kernel
theorem dX4_step_106 : decode cX4_step 106 = .ok (.invokevirtual 103, 3) := by decide +kernel
theorem dX4_step_109 : decode cX4_step 109 = .ok (.aload_n 0, 1) := by decide +kernel
theorem dX4_step_110 : decode cX4_step 110 = .ok (.getfield 55, 3) := by decide +kernel
theorem dX4_step_113 : decode cX4_step 113 = .ok (.invokevirtual 107, 3) := by decide +kernel
theorem dX4_step_116 : decode cX4_step 116 = .ok (.putfield 59, 3) := by decide +kernel
theorem dX4_step_119 : decode cX4_step 119 = .ok (.aload_n 0, 1) := by decide +kernel
theorem dX4_step_120 : decode cX4_step 120 = .ok (.invokevirtual 111, 3) := by decide +kernel
theorem dX4_step_123 : decode cX4_step 123 = .ok (.aload_n 0, 1) := by decide +kernel
theorem dX4_step_124 : decode cX4_step 124 = .ok (.getfield 26, 3) := by decide +kernel
theorem dX4_step_127 : decode cX4_step 127 = .ok (.aload_n 0, 1) := by decide +kernel
theorem dX4_step_128 : decode cX4_step 128 = .ok (.getfield 55, 3) := by decide +kernel
theorem dX4_step_131 : decode cX4_step 131 = .ok (.aload_n 0, 1) := by decide +kernel
theorem dX4_step_132 : decode cX4_step 132 = .ok (.getfield 9, 3) := by decide +kernel
theorem dX4_step_135 : decode cX4_step 135 = .ok (.iconst 0, 1) := by decide +kernel
theorem dX4_step_136 : decode cX4_step 136 = .ok (.invokevirtual 96, 3) := by decide +kernel
theorem dX4_step_139 : decode cX4_step 139 = .ok (.isub, 1) := by decide +kernel
theorem dX4_step_140 : decode cX4_step 140 = .ok (.invokevirtual 114, 3) := by decide +kernel
theorem dX4_step_143 : decode cX4_step 143 = .ok (.aload_n 0, 1) := by decide +kernel
theorem dX4_step_144 : decode cX4_step 144 = .ok (.getfield 33, 3) := by decide +kernel
theorem dX4_step_147 : decode cX4_step 147 = .ok (.aload_n 0, 1) := by decide +kernel
theorem dX4_step_148 : decode cX4_step 148 = .ok (.getfield 26, 3) := by decide +kernel
theorem dX4_step_151 : decode cX4_step 151 = .ok (.invokevirtual 118, 3) := by decide +kernel
theorem dX4_step_154 : decode cX4_step 154 = .ok (.aload_n 0, 1) := by decide +kernel
theorem dX4_step_155 : decode cX4_step 155 = .ok (.getfield 9, 3) := by decide +kernel
theorem dX4_step_158 : decode cX4_step 158 = .ok (.iconst 2, 1) := by decide +kernel
theorem dX4_step_159 : decode cX4_step 159 = .ok (.invokevirtual 96, 3) := by decide +kernel
theorem dX4_step_162 : decode cX4_step 162 = .ok (.imul, 1) := by decide +kernel
theorem dX4_step_163 : decode cX4_step 163 = .ok (.invokevirtual 121, 3) := by decide +kernel
theorem dX4_step_166 : decode cX4_step 166 = .ok (.istore_n 2, 1) := by decide +kernel
theorem dX4_step_167 : decode cX4_step 167 = .ok (.aload_n 0, 1) := by decide +kernel
theorem dX4_step_168 : decode cX4_step 168 = .ok (.getfield 26, 3) := by decide +kernel
theorem dX4_step_171 : decode cX4_step 171 = .ok (.aload_n 0, 1) := by decide +kernel
theorem dX4_step_172 : decode cX4_step 172 = .ok (.getfield 9, 3) := by decide +kernel
theorem dX4_step_175 : decode cX4_step 175 = .ok (.bipush 16, 2) := by decide +kernel
theorem dX4_step_177 : decode cX4_step 177 = .ok (.invokevirtual 96, 3) := by decide +kernel
theorem dX4_step_180 : decode cX4_step 180 = .ok (.aload_n 0, 1) := by decide +kernel
theorem dX4_step_181 : decode cX4_step 181 = .ok (.getfield 9, 3) := by decide +kernel
theorem dX4_step_184 : decode cX4_step 184 = .ok (.bipush 17, 2) := by decide +kernel
theorem dX4_step_186 : decode cX4_step 186 = .ok (.invokevirtual 96, 3) := by decide +kernel
theorem dX4_step_189 : decode cX4_step 189 = .ok (.invokevirtual 124, 3) := by decide +kernel
theorem dX4_step_192 : decode cX4_step 192 = .ok (.istore_n 3, 1) := by decide +kernel
theorem dX4_step_193 : decode cX4_step 193 = .ok (.aload_n 0, 1) := by decide +kernel
theorem dX4_step_194 : decode cX4_step 194 = .ok (.getfield 26, 3) := by decide +kernel
theorem dX4_step_197 : decode cX4_step 197 = .ok (.aload_n 0, 1) := by decide +kernel
theorem dX4_step_198 : decode cX4_step 198 = .ok (.getfield 55, 3) := by decide +kernel
theorem dX4_step_201 : decode cX4_step 201 = .ok (.aload_n 0, 1) := by decide +kernel
theorem dX4_step_202 : decode cX4_step 202 = .ok (.getfield 9, 3) := by decide +kernel
theorem dX4_step_205 : decode cX4_step 205 = .ok (.iconst 1, 1) := by decide +kernel
theorem dX4_step_206 : decode cX4_step 206 = .ok (.invokevirtual 96, 3) := by decide +kernel
theorem dX4_step_209 : decode cX4_step 209 = .ok (.isub, 1) := by decide +kernel
theorem dX4_step_210 : decode cX4_step 210 = .ok (.invokevirtual 127, 3) := by decide +kernel
theorem dX4_step_213 : decode cX4_step 213 = .ok (.aload_n 0, 1) := by decide +kernel
theorem dX4_step_214 : decode cX4_step 214 = .ok (.getfield 33, 3) := by decide +kernel
theorem dX4_step_217 : decode cX4_step 217 = .ok (.aload_n 0, 1) := by decide +kernel
theorem dX4_step_218 : decode cX4_step 218 = .ok (.getfield 55, 3) := by decide +kernel
theorem dX4_step_221 : decode cX4_step 221 = .ok (.aload_n 0, 1) := by decide +kernel
theorem dX4_step_222 : decode cX4_step 222 = .ok (.getfield 9, 3) := by decide +kernel
theorem dX4_step_225 : decode cX4_step 225 = .ok (.iconst 3, 1) := by decide +kernel
theorem dX4_step_226 : decode cX4_step 226 = .ok (.invokevirtual 96, 3) := by decide +kernel
theorem dX4_step_229 : decode cX4_step 229 = .ok (.aload_n 0, 1) := by decide +kernel
theorem dX4_step_230 : decode cX4_step 230 = .ok (.getfield 9, 3) := by decide +kernel
theorem dX4_step_233 : decode cX4_step 233 = .ok (.iconst 4, 1) := by decide +kernel
theorem dX4_step_234 : decode cX4_step 234 = .ok (.invokevirtual 96, 3) := by decide +kernel
theorem dX4_step_237 : decode cX4_step 237 = .ok (.invokevirtual 130, 3) := by decide +kernel
theorem dX4_step_240 : decode cX4_step 240 = .ok (.istore 4, 2) := by decide +kernel
theorem dX4_step_242 : decode cX4_step 242 = .ok (.iload_n 3, 1) := by decide +kernel
theorem dX4_step_243 : decode cX4_step 243 = .ok (.iload 4, 2) := by decide +kernel
theorem dX4_step_245 : decode cX4_step 245 = .ok (.aload_n 0, 1) := by decide +kernel
theorem dX4_step_246 : decode cX4_step 246 = .ok (.getfield 9, 3) := by decide +kernel
theorem dX4_step_249 : decode cX4_step 249 = .ok (.bipush 18, 2) := by decide +kernel
theorem dX4_step_251 : decode cX4_step 251 = .ok (.invokevirtual 96, 3) := by decide +kernel
theorem dX4_step_254 : decode cX4_step 254 = .ok (.imul, 1) := by decide +kernel
theorem dX4_step_255 : decode cX4_step 255 = .ok (.iadd, 1) := by decide +kernel
theorem dX4_step_256 : decode cX4_step 256 = .ok (.istore_n 3, 1) := by decide +kernel
theorem dX4_step_257 : decode cX4_step 257 = .ok (.aload_n 0, 1) := by decide +kernel
theorem dX4_step_258 : decode cX4_step 258 = .ok (.dup, 1) := by decide +kernel
theorem dX4_step_259 : decode cX4_step 259 = .ok (.getfield 65, 3) := by decide +kernel
theorem dX4_step_262 : decode cX4_step 262 = .ok (.aload_n 0, 1) := by decide +kernel
theorem dX4_step_263 : decode cX4_step 263 = .ok (.getfield 15, 3) := by decide +kernel
theorem dX4_step_266 : decode cX4_step 266 = .ok (.aload_n 0, 1) := by decide +kernel
theorem dX4_step_267 : decode cX4_step 267 = .ok (.getfield 55, 3) := by decide +kernel
theorem dX4_step_270 : decode cX4_step 270 = .ok (.iaload, 1) := by decide +kernel
theorem dX4_step_271 : decode cX4_step 271 = .ok (.iadd, 1) := by decide +kernel
theorem dX4_step_272 : decode cX4_step 272 = .ok (.putfield 65, 3) := by decide +kernel
theorem dX4_step_275 : decode cX4_step 275 = .ok (.aload_n 0, 1) := by decide +kernel
theorem dX4_step_276 : decode cX4_step 276 = .ok (.dup, 1) := by decide +kernel
theorem dX4_step_277 : decode cX4_step 277 = .ok (.getfield 68, 3) := by decide +kernel
theorem dX4_step_280 : decode cX4_step 280 = .ok (.iload_n 2, 1) := by decide +kernel
theorem dX4_step_281 : decode cX4_step 281 = .ok (.iadd, 1) := by decide +kernel
theorem dX4_step_282 : decode cX4_step 282 = .ok (.putfield 68, 3) := by decide +kernel
theorem dX4_step_285 : decode cX4_step 285 = .ok (.aload_n 0, 1) := by decide +kernel
theorem dX4_step_286 : decode cX4_step 286 = .ok (.dup, 1) := by decide +kernel
theorem dX4_step_287 : decode cX4_step 287 = .ok (.getfield 71, 3) := by decide +kernel
theorem dX4_step_290 : decode cX4_step 290 = .ok (.iload 4, 2) := by decide +kernel
theorem dX4_step_292 : decode cX4_step 292 = .ok (.iadd, 1) := by decide +kernel
theorem dX4_step_293 : decode cX4_step 293 = .ok (.putfield 71, 3) := by decide +kernel
theorem dX4_step_296 : decode cX4_step 296 = .ok (.aload_n 0, 1) := by decide +kernel
theorem dX4_step_297 : decode cX4_step 297 = .ok (.dup, 1) := by decide +kernel
theorem dX4_step_298 : decode cX4_step 298 = .ok (.getfield 74, 3) := by decide +kernel
theorem dX4_step_301 : decode cX4_step 301 = .ok (.iload_n 3, 1) := by decide +kernel
theorem dX4_step_302 : decode cX4_step 302 = .ok (.iadd, 1) := by decide +kernel
theorem dX4_step_303 : decode cX4_step 303 = .ok (.putfield 74, 3) := by decide +kernel
theorem dX4_step_306 : decode cX4_step 306 = .ok (.aload_n 0, 1) := by decide +kernel
theorem dX4_step_307 : decode cX4_step 307 = .ok (.getfield 46, 3) := by decide +kernel
theorem dX4_step_310 : decode cX4_step 310 = .ok (.iconst 0, 1) := by decide +kernel
theorem dX4_step_311 : decode cX4_step 311 = .ok (.aaload, 1) := by decide +kernel
theorem dX4_step_312 : decode cX4_step 312 = .ok (.aload_n 0, 1) := by decide +kernel
theorem dX4_step_313 : decode cX4_step 313 = .ok (.getfield 55, 3) := by decide +kernel
theorem dX4_step_316 : decode cX4_step 316 = .ok (.iload_n 1, 1) := by decide +kernel
theorem dX4_step_317 : decode cX4_step 317 = .ok (.iastore, 1) := by decide +kernel
theorem dX4_step_318 : decode cX4_step 318 = .ok (.aload_n 0, 1) := by decide +kernel
theorem dX4_step_319 : decode cX4_step 319 = .ok (.getfield 46, 3) := by decide +kernel
theorem dX4_step_322 : decode cX4_step 322 = .ok (.iconst 1, 1) := by decide +kernel
theorem dX4_step_323 : decode cX4_step 323 = .ok (.aaload, 1) := by decide +kernel
theorem dX4_step_324 : decode cX4_step 324 = .ok (.aload_n 0, 1) := by decide +kernel
theorem dX4_step_325 : decode cX4_step 325 = .ok (.getfield 55, 3) := by decide +kernel
theorem dX4_step_328 : decode cX4_step 328 = .ok (.iload_n 2, 1) := by decide +kernel
theorem dX4_step_329 : decode cX4_step 329 = .ok (.iastore, 1) := by decide +kernel
theorem dX4_step_330 : decode cX4_step 330 = .ok (.aload_n 0, 1) := by decide +kernel
theorem dX4_step_331 : decode cX4_step 331 = .ok (.getfield 46, 3) := by decide +kernel
theorem dX4_step_334 : decode cX4_step 334 = .ok (.iconst 2, 1) := by decide +kernel
theorem dX4_step_335 : decode cX4_step 335 = .ok (.aaload, 1) := by decide +kernel
theorem dX4_step_336 : decode cX4_step 336 = .ok (.aload_n 0, 1) := by decide +kernel
theorem dX4_step_337 : decode cX4_step 337 = .ok (.getfield 55, 3) := by decide +kernel
theorem dX4_step_340 : decode cX4_step 340 = .ok (.iload 4, 2) := by decide +kernel
theorem dX4_step_342 : decode cX4_step 342 = .ok (.iastore, 1) := by decide +kernel
theorem dX4_step_343 : decode cX4_step 343 = .ok (.aload_n 0, 1) := by decide +kernel
theorem dX4_step_344 : decode cX4_step 344 = .ok (.getfield 46, 3) := by decide +kernel
theorem dX4_step_347 : decode cX4_step 347 = .ok (.iconst 3, 1) := by decide +kernel
theorem dX4_step_348 : decode cX4_step 348 = .ok (.aaload, 1) := by decide +kernel
theorem dX4_step_349 : decode cX4_step 349 = .ok (.aload_n 0, 1) := by decide +kernel
theorem dX4_step_350 : decode cX4_step 350 = .ok (.getfield 55, 3) := by decide +kernel
theorem dX4_step_353 : decode cX4_step 353 = .ok (.aload_n 0, 1) := by decide +kernel
theorem dX4_step_354 : decode cX4_step 354 = .ok (.getfield 26, 3) := by decide +kernel
theorem dX4_step_357 : decode cX4_step 357 = .ok (.invokevirtual 134, 3) := by decide +kernel
theorem dX4_step_360 : decode cX4_step 360 = .ok (.iastore, 1) := by decide +kernel
theorem dX4_step_361 : decode cX4_step 361 = .ok (.aload_n 0, 1) := by decide +kernel
theorem dX4_step_362 : decode cX4_step 362 = .ok (.getfield 46, 3) := by decide +kernel
theorem dX4_step_365 : decode cX4_step 365 = .ok (.iconst 4, 1) := by decide +kernel
theorem dX4_step_366 : decode cX4_step 366 = .ok (.aaload, 1) := by decide +kernel
theorem dX4_step_367 : decode cX4_step 367 = .ok (.aload_n 0, 1) := by decide +kernel
theorem dX4_step_368 : decode cX4_step 368 = .ok (.getfield 55, 3) := by decide +kernel
theorem dX4_step_371 : decode cX4_step 371 = .ok (.aload_n 0, 1) := by decide +kernel
theorem dX4_step_372 : decode cX4_step 372 = .ok (.getfield 59, 3) := by decide +kernel
theorem dX4_step_375 : decode cX4_step 375 = .ok (.iastore, 1) := by decide +kernel
theorem dX4_step_376 : decode cX4_step 376 = .ok (.aload_n 0, 1) := by decide +kernel
theorem dX4_step_377 : decode cX4_step 377 = .ok (.getfield 46, 3) := by decide +kernel
theorem dX4_step_380 : decode cX4_step 380 = .ok (.iconst 5, 1) := by decide +kernel
theorem dX4_step_381 : decode cX4_step 381 = .ok (.aaload, 1) := by decide +kernel
theorem dX4_step_382 : decode cX4_step 382 = .ok (.aload_n 0, 1) := by decide +kernel
theorem dX4_step_383 : decode cX4_step 383 = .ok (.getfield 55, 3) := by decide +kernel
theorem dX4_step_386 : decode cX4_step 386 = .ok (.iload_n 3, 1) := by decide +kernel
theorem dX4_step_387 : decode cX4_step 387 = .ok (.iastore, 1) := by decide +kernel
theorem dX4_step_388 : decode cX4_step 388 = .ok (.aload_n 0, 1) := by decide +kernel
theorem dX4_step_389 : decode cX4_step 389 = .ok (.dup, 1) := by decide +kernel
theorem dX4_step_390 : decode cX4_step 390 = .ok (.getfield 55, 3) := by decide +kernel
theorem dX4_step_393 : decode cX4_step 393 = .ok (.iconst 1, 1) := by decide +kernel
theorem dX4_step_394 : decode cX4_step 394 = .ok (.iadd, 1) := by decide +kernel
theorem dX4_step_395 : decode cX4_step 395 = .ok (.putfield 55, 3) := by decide +kernel
theorem dX4_step_398 : decode cX4_step 398 = .ok (.return_, 1) := by decide +kernel
set_option maxRecDepth 20000 in
theorem ggX4_wantedByRule_X5_value : GoodIn wsX4_wantedByRule wsX5_value := goodIn_r _ [12, 13, 14, 15, 16, 43, 44] (by decide +kernel) (by decide +kernel)
set_option maxRecDepth 20000 in
theorem gX4_wantedByRule_X5_value : GoodIn wsX4_wantedByRule (wsV RX4 96 RX5 yX5_value wsX5_value) := goodIn_app (goodIn_of _ (by decide +kernel)) ggX4_wantedByRule_X5_value
set_option maxRecDepth 20000 in
theorem ggX4_wantedByRule_X3_up : GoodIn wsX4_wantedByRule wsX3_up := goodIn_r _ [21, 22, 23, 24, 20, 25, 26, 45, 46] (by decide +kernel) (by decide +kernel)
set_option maxRecDepth 20000 in
theorem gX4_wantedByRule_X3_up : GoodIn wsX4_wantedByRule (wsV RX4 134 RX3 yX3_up wsX3_up) := goodIn_app (goodIn_of _ (by decide +kernel)) ggX4_wantedByRule_X3_up
theorem dX4_wantedByRule_0 : decode cX4_wantedByRule 0 = .ok (.aload_n 0, 1) := by decide +kernel
theorem dX4_wantedByRule_1 : decode cX4_wantedByRule 1 = .ok (.getfield 9, 3) := by decide +kernel
theorem dX4_wantedByRule_4 : decode cX4_wantedByRule 4 = .ok (.bipush 10, 2) := by decide +kernel
theorem dX4_wantedByRule_6 : decode cX4_wantedByRule 6 = .ok (.invokevirtual 96, 3) := by decide +kernel
theorem dX4_wantedByRule_9 : decode cX4_wantedByRule 9 = .ok (.istore_n 1, 1) := by decide +kernel
theorem dX4_wantedByRule_10 : decode cX4_wantedByRule 10 = .ok (.iload_n 1, 1) := by decide +kernel
theorem dX4_wantedByRule_11 : decode cX4_wantedByRule 11 = .ok (.iconst 1, 1) := by decide +kernel
theorem dX4_wantedByRule_12 : decode cX4_wantedByRule 12 = .ok (.if_icmp .ne 31, 3) := by decide +kernel
theorem dX4_wantedByRule_15 : decode cX4_wantedByRule 15 = .ok (.aload_n 0, 1) := by decide +kernel
theorem dX4_wantedByRule_16 : decode cX4_wantedByRule 16 = .ok (.getfield 9, 3) := by decide +kernel
theorem dX4_wantedByRule_19 : decode cX4_wantedByRule 19 = .ok (.bipush 11, 2) := by decide +kernel
theorem dX4_wantedByRule_21 : decode cX4_wantedByRule 21 = .ok (.invokevirtual 96, 3) := by decide +kernel
theorem dX4_wantedByRule_24 : decode cX4_wantedByRule 24 = .ok (.iconst 1, 1) := by decide +kernel
theorem dX4_wantedByRule_25 : decode cX4_wantedByRule 25 = .ok (.invokestatic 137, 3) := by decide +kernel
theorem dX4_wantedByRule_28 : decode cX4_wantedByRule 28 = .ok (.istore_n 2, 1) := by decide +kernel
theorem dX4_wantedByRule_29 : decode cX4_wantedByRule 29 = .ok (.aload_n 0, 1) := by decide +kernel
theorem dX4_wantedByRule_30 : decode cX4_wantedByRule 30 = .ok (.getfield 40, 3) := by decide +kernel
theorem dX4_wantedByRule_33 : decode cX4_wantedByRule 33 = .ok (.getfield 142, 3) := by decide +kernel
theorem dX4_wantedByRule_36 : decode cX4_wantedByRule 36 = .ok (.iload_n 2, 1) := by decide +kernel
theorem dX4_wantedByRule_37 : decode cX4_wantedByRule 37 = .ok (.iadd, 1) := by decide +kernel
theorem dX4_wantedByRule_38 : decode cX4_wantedByRule 38 = .ok (.iconst 1, 1) := by decide +kernel
theorem dX4_wantedByRule_39 : decode cX4_wantedByRule 39 = .ok (.isub, 1) := by decide +kernel
theorem dX4_wantedByRule_40 : decode cX4_wantedByRule 40 = .ok (.iload_n 2, 1) := by decide +kernel
theorem dX4_wantedByRule_41 : decode cX4_wantedByRule 41 = .ok (.idiv, 1) := by decide +kernel
theorem dX4_wantedByRule_42 : decode cX4_wantedByRule 42 = .ok (.ireturn, 1) := by decide +kernel
theorem dX4_wantedByRule_43 : decode cX4_wantedByRule 43 = .ok (.aload_n 0, 1) := by decide +kernel
theorem dX4_wantedByRule_44 : decode cX4_wantedByRule 44 = .ok (.getfield 26, 3) := by decide +kernel
theorem dX4_wantedByRule_47 : decode cX4_wantedByRule 47 = .ok (.invokevirtual 134, 3) := by decide +kernel
theorem dX4_wantedByRule_50 : decode cX4_wantedByRule 50 = .ok (.istore_n 2, 1) := by decide +kernel
theorem dX4_wantedByRule_51 : decode cX4_wantedByRule 51 = .ok (.iload_n 1, 1) := by decide +kernel
theorem dX4_wantedByRule_52 : decode cX4_wantedByRule 52 = .ok (.iconst 2, 1) := by decide +kernel
theorem dX4_wantedByRule_53 : decode cX4_wantedByRule 53 = .ok (.if_icmp .ne 34, 3) := by decide +kernel
theorem dX4_wantedByRule_56 : decode cX4_wantedByRule 56 = .ok (.aload_n 0, 1) := by decide +kernel
theorem dX4_wantedByRule_57 : decode cX4_wantedByRule 57 = .ok (.getfield 40, 3) := by decide +kernel
theorem dX4_wantedByRule_60 : decode cX4_wantedByRule 60 = .ok (.getfield 142, 3) := by decide +kernel
theorem dX4_wantedByRule_63 : decode cX4_wantedByRule 63 = .ok (.aload_n 0, 1) := by decide +kernel
theorem dX4_wantedByRule_64 : decode cX4_wantedByRule 64 = .ok (.getfield 9, 3) := by decide +kernel
theorem dX4_wantedByRule_67 : decode cX4_wantedByRule 67 = .ok (.bipush 12, 2) := by decide +kernel
theorem dX4_wantedByRule_69 : decode cX4_wantedByRule 69 = .ok (.invokevirtual 96, 3) := by decide +kernel
theorem dX4_wantedByRule_72 : decode cX4_wantedByRule 72 = .ok (.if_icmp .le 15, 3) := by decide +kernel
theorem dX4_wantedByRule_75 : decode cX4_wantedByRule 75 = .ok (.iload_n 2, 1) := by decide +kernel
theorem dX4_wantedByRule_76 : decode cX4_wantedByRule 76 = .ok (.aload_n 0, 1) := by decide +kernel
theorem dX4_wantedByRule_77 : decode cX4_wantedByRule 77 = .ok (.getfield 9, 3) := by decide +kernel
theorem dX4_wantedByRule_80 : decode cX4_wantedByRule 80 = .ok (.bipush 14, 2) := by decide +kernel
theorem dX4_wantedByRule_82 : decode cX4_wantedByRule 82 = .ok (.invokevirtual 96, 3) := by decide +kernel
theorem dX4_wantedByRule_85 : decode cX4_wantedByRule 85 = .ok (.iadd, 1) := by decide +kernel
theorem dX4_wantedByRule_86 : decode cX4_wantedByRule 86 = .ok (.ireturn, 1) := by decide +kernel
theorem dX4_wantedByRule_87 : decode cX4_wantedByRule 87 = .ok (.iload_n 1, 1) := by decide +kernel
theorem dX4_wantedByRule_88 : decode cX4_wantedByRule 88 = .ok (.iconst 2, 1) := by decide +kernel
theorem dX4_wantedByRule_89 : decode cX4_wantedByRule 89 = .ok (.if_icmp .ne 34, 3) := by decide +kernel
theorem dX4_wantedByRule_92 : decode cX4_wantedByRule 92 = .ok (.aload_n 0, 1) := by decide +kernel
theorem dX4_wantedByRule_93 : decode cX4_wantedByRule 93 = .ok (.getfield 40, 3) := by decide +kernel
theorem dX4_wantedByRule_96 : decode cX4_wantedByRule 96 = .ok (.getfield 142, 3) := by decide +kernel
theorem dX4_wantedByRule_99 : decode cX4_wantedByRule 99 = .ok (.aload_n 0, 1) := by decide +kernel
theorem dX4_wantedByRule_100 : decode cX4_wantedByRule 100 = .ok (.getfield 9, 3) := by decide +kernel
theorem dX4_wantedByRule_103 : decode cX4_wantedByRule 103 = .ok (.bipush 13, 2) := by decide +kernel
theorem dX4_wantedByRule_105 : decode cX4_wantedByRule 105 = .ok (.invokevirtual 96, 3) := by decide +kernel
theorem dX4_wantedByRule_108 : decode cX4_wantedByRule 108 = .ok (.if_icmp .ge 15, 3) := by decide +kernel
theorem dX4_wantedByRule_111 : decode cX4_wantedByRule 111 = .ok (.iload_n 2, 1) := by decide +kernel
theorem dX4_wantedByRule_112 : decode cX4_wantedByRule 112 = .ok (.aload_n 0, 1) := by decide +kernel
theorem dX4_wantedByRule_113 : decode cX4_wantedByRule 113 = .ok (.getfield 9, 3) := by decide +kernel
theorem dX4_wantedByRule_116 : decode cX4_wantedByRule 116 = .ok (.bipush 15, 2) := by decide +kernel
theorem dX4_wantedByRule_118 : decode cX4_wantedByRule 118 = .ok (.invokevirtual 96, 3) := by decide +kernel
theorem dX4_wantedByRule_121 : decode cX4_wantedByRule 121 = .ok (.isub, 1) := by decide +kernel
theorem dX4_wantedByRule_122 : decode cX4_wantedByRule 122 = .ok (.ireturn, 1) := by decide +kernel
theorem dX4_wantedByRule_123 : decode cX4_wantedByRule 123 = .ok (.iload_n 2, 1) := by decide +kernel
theorem dX4_wantedByRule_124 : decode cX4_wantedByRule 124 = .ok (.ireturn, 1) := by decide +kernel
set_option maxRecDepth 20000 in
theorem ggX4_makeChanges_X3_up : GoodIn wsX4_makeChanges wsX3_up := goodIn_r _ [14, 15, 16, 17, 13, 18, 19, 74, 75] (by decide +kernel) (by decide +kernel)
set_option maxRecDepth 20000 in
theorem gX4_makeChanges_X3_up : GoodIn wsX4_makeChanges (wsV RX4 134 RX3 yX3_up wsX3_up) := goodIn_app (goodIn_of _ (by decide +kernel)) ggX4_makeChanges_X3_up
set_option maxRecDepth 20000 in
theorem ggX4_makeChanges_X4_resting : GoodIn wsX4_makeChanges wsX4_resting := goodIn_r _ [24, 9, 3, 2, 25, 26, 27, 28, 29, 30, 31, 32, 33, 60, 61, 62, 63, 64, 65, 66, 67, 68, 69, 70, 71, 72, 73, 76, 77] (by decide +kernel) (by decide +kernel)
set_option maxRecDepth 20000 in
theorem gX4_makeChanges_X4_resting : GoodIn wsX4_makeChanges (wsV RX4 145 RX4 yX4_resting wsX4_resting) := goodIn_app (goodIn_of _ (by decide +kernel)) ggX4_makeChanges_X4_resting
set_option maxRecDepth 20000 in
theorem ggX4_makeChanges_X5_bounded : GoodIn wsX4_makeChanges wsX5_bounded := goodIn_r _ [37, 38, 30, 39, 5, 6, 7, 40, 41, 42, 43, 44, 45, 46, 76, 77] (by decide +kernel) (by decide +kernel)
set_option maxRecDepth 20000 in
theorem gX4_makeChanges_X5_bounded : GoodIn wsX4_makeChanges (wsV RX4 107 RX5 yX5_bounded wsX5_bounded) := goodIn_app (goodIn_of _ (by decide +kernel)) ggX4_makeChanges_X5_bounded
set_option maxRecDepth 20000 in
theorem ggX4_makeChanges_X3_start : GoodIn wsX4_makeChanges wsX3_start := goodIn_r _ [50, 19, 51, 74, 75] (by decide +kernel) (by decide +kernel)
set_option maxRecDepth 20000 in
theorem gX4_makeChanges_X3_start : GoodIn wsX4_makeChanges (wsV RX4 149 RX3 yX3_start wsX3_start) := goodIn_app (goodIn_of _ (by decide +kernel)) ggX4_makeChanges_X3_start
set_option maxRecDepth 20000 in
theorem ggX4_makeChanges_X3_shed : GoodIn wsX4_makeChanges wsX3_shed := goodIn_r _ [55, 56, 57, 58, 13, 59, 19, 51, 74, 75] (by decide +kernel) (by decide +kernel)
set_option maxRecDepth 20000 in
theorem gX4_makeChanges_X3_shed : GoodIn wsX4_makeChanges (wsV RX4 152 RX3 yX3_shed wsX3_shed) := goodIn_app (goodIn_of _ (by decide +kernel)) ggX4_makeChanges_X3_shed
theorem dX4_makeChanges_0 : decode cX4_makeChanges 0 = .ok (.aload_n 0, 1) := by decide +kernel
theorem dX4_makeChanges_1 : decode cX4_makeChanges 1 = .ok (.getfield 26, 3) := by decide +kernel
theorem dX4_makeChanges_4 : decode cX4_makeChanges 4 = .ok (.invokevirtual 134, 3) := by decide +kernel
theorem dX4_makeChanges_7 : decode cX4_makeChanges 7 = .ok (.istore_n 1, 1) := by decide +kernel
theorem dX4_makeChanges_8 : decode cX4_makeChanges 8 = .ok (.aload_n 0, 1) := by decide +kernel
theorem dX4_makeChanges_9 : decode cX4_makeChanges 9 = .ok (.invokevirtual 145, 3) := by decide +kernel
theorem dX4_makeChanges_12 : decode cX4_makeChanges 12 = .ok (.ifCond .eq 22, 3) := by decide +kernel
theorem dX4_makeChanges_15 : decode cX4_makeChanges 15 = .ok (.iload_n 1, 1) := by decide +kernel
theorem dX4_makeChanges_16 : decode cX4_makeChanges 16 = .ok (.aload_n 0, 1) := by decide +kernel
theorem dX4_makeChanges_17 : decode cX4_makeChanges 17 = .ok (.getfield 9, 3) := by decide +kernel
theorem dX4_makeChanges_20 : decode cX4_makeChanges 20 = .ok (.iconst 0, 1) := by decide +kernel
theorem dX4_makeChanges_21 : decode cX4_makeChanges 21 = .ok (.aload_n 0, 1) := by decide +kernel
theorem dX4_makeChanges_22 : decode cX4_makeChanges 22 = .ok (.getfield 55, 3) := by decide +kernel
theorem dX4_makeChanges_25 : decode cX4_makeChanges 25 = .ok (.invokevirtual 107, 3) := by decide +kernel
theorem dX4_makeChanges_28 : decode cX4_makeChanges 28 = .ok (.invokestatic 137, 3) := by decide +kernel
theorem dX4_makeChanges_31 : decode cX4_makeChanges 31 = .ok (.goto 7, 3) := by decide +kernel
theorem dX4_makeChanges_34 : decode cX4_makeChanges 34 = .ok (.aload_n 0, 1) := by decide +kernel
theorem dX4_makeChanges_35 : decode cX4_makeChanges 35 = .ok (.getfield 59, 3) := by decide +kernel
theorem dX4_makeChanges_38 : decode cX4_makeChanges 38 = .ok (.istore_n 2, 1) := by decide +kernel
theorem dX4_makeChanges_39 : decode cX4_makeChanges 39 = .ok (.iload_n 2, 1) := by decide +kernel
theorem dX4_makeChanges_40 : decode cX4_makeChanges 40 = .ok (.iload_n 1, 1) := by decide +kernel
theorem dX4_makeChanges_41 : decode cX4_makeChanges 41 = .ok (.if_icmp .le 20, 3) := by decide +kernel
theorem dX4_makeChanges_44 : decode cX4_makeChanges 44 = .ok (.aload_n 0, 1) := by decide +kernel
theorem dX4_makeChanges_45 : decode cX4_makeChanges 45 = .ok (.getfield 26, 3) := by decide +kernel
theorem dX4_makeChanges_48 : decode cX4_makeChanges 48 = .ok (.iload_n 2, 1) := by decide +kernel
theorem dX4_makeChanges_49 : decode cX4_makeChanges 49 = .ok (.iload_n 1, 1) := by decide +kernel
theorem dX4_makeChanges_50 : decode cX4_makeChanges 50 = .ok (.isub, 1) := by decide +kernel
theorem dX4_makeChanges_51 : decode cX4_makeChanges 51 = .ok (.aload_n 0, 1) := by decide +kernel
theorem dX4_makeChanges_52 : decode cX4_makeChanges 52 = .ok (.getfield 55, 3) := by decide +kernel
theorem dX4_makeChanges_55 : decode cX4_makeChanges 55 = .ok (.invokevirtual 149, 3) := by decide +kernel
theorem dX4_makeChanges_58 : decode cX4_makeChanges 58 = .ok (.goto 17, 3) := by decide +kernel
theorem dX4_makeChanges_61 : decode cX4_makeChanges 61 = .ok (.aload_n 0, 1) := by decide +kernel
theorem dX4_makeChanges_62 : decode cX4_makeChanges 62 = .ok (.getfield 26, 3) := by decide +kernel
theorem dX4_makeChanges_65 : decode cX4_makeChanges 65 = .ok (.iload_n 1, 1) := by decide +kernel
theorem dX4_makeChanges_66 : decode cX4_makeChanges 66 = .ok (.iload_n 2, 1) := by decide +kernel
theorem dX4_makeChanges_67 : decode cX4_makeChanges 67 = .ok (.isub, 1) := by decide +kernel
theorem dX4_makeChanges_68 : decode cX4_makeChanges 68 = .ok (.aload_n 0, 1) := by decide +kernel
theorem dX4_makeChanges_69 : decode cX4_makeChanges 69 = .ok (.getfield 55, 3) := by decide +kernel
theorem dX4_makeChanges_72 : decode cX4_makeChanges 72 = .ok (.invokevirtual 152, 3) := by decide +kernel
theorem dX4_makeChanges_75 : decode cX4_makeChanges 75 = .ok (.istore_n 3, 1) := by decide +kernel
theorem dX4_makeChanges_76 : decode cX4_makeChanges 76 = .ok (.iload_n 3, 1) := by decide +kernel
theorem dX4_makeChanges_77 : decode cX4_makeChanges 77 = .ok (.ifCond .le 11, 3) := by decide +kernel
theorem dX4_makeChanges_80 : decode cX4_makeChanges 80 = .ok (.aload_n 0, 1) := by decide +kernel
theorem dX4_makeChanges_81 : decode cX4_makeChanges 81 = .ok (.aload_n 0, 1) := by decide +kernel
theorem dX4_makeChanges_82 : decode cX4_makeChanges 82 = .ok (.getfield 55, 3) := by decide +kernel
theorem dX4_makeChanges_85 : decode cX4_makeChanges 85 = .ok (.putfield 62, 3) := by decide +kernel
theorem dX4_makeChanges_88 : decode cX4_makeChanges 88 = .ok (.return_, 1) := by decide +kernel
set_option maxRecDepth 20000 in
theorem ggX4_resting_X5_value : GoodIn wsX4_resting wsX5_value := goodIn_r _ [8, 9, 10, 11, 12, 27, 28] (by decide +kernel) (by decide +kernel)
set_option maxRecDepth 20000 in
theorem gX4_resting_X5_value : GoodIn wsX4_resting (wsV RX4 96 RX5 yX5_value wsX5_value) := goodIn_app (goodIn_of _ (by decide +kernel)) ggX4_resting_X5_value
theorem dX4_resting_0 : decode cX4_resting 0 = .ok (.aload_n 0, 1) := by decide +kernel
theorem dX4_resting_1 : decode cX4_resting 1 = .ok (.getfield 62, 3) := by decide +kernel
theorem dX4_resting_4 : decode cX4_resting 4 = .ok (.iconst (-1), 1) := by decide +kernel
theorem dX4_resting_5 : decode cX4_resting 5 = .ok (.if_icmp .eq 28, 3) := by decide +kernel
theorem dX4_resting_8 : decode cX4_resting 8 = .ok (.aload_n 0, 1) := by decide +kernel
theorem dX4_resting_9 : decode cX4_resting 9 = .ok (.getfield 55, 3) := by decide +kernel
theorem dX4_resting_12 : decode cX4_resting 12 = .ok (.aload_n 0, 1) := by decide +kernel
theorem dX4_resting_13 : decode cX4_resting 13 = .ok (.getfield 62, 3) := by decide +kernel
theorem dX4_resting_16 : decode cX4_resting 16 = .ok (.isub, 1) := by decide +kernel
theorem dX4_resting_17 : decode cX4_resting 17 = .ok (.aload_n 0, 1) := by decide +kernel
theorem dX4_resting_18 : decode cX4_resting 18 = .ok (.getfield 9, 3) := by decide +kernel
theorem dX4_resting_21 : decode cX4_resting 21 = .ok (.bipush 9, 2) := by decide +kernel
theorem dX4_resting_23 : decode cX4_resting 23 = .ok (.invokevirtual 96, 3) := by decide +kernel
theorem dX4_resting_26 : decode cX4_resting 26 = .ok (.if_icmp .ge 7, 3) := by decide +kernel
theorem dX4_resting_29 : decode cX4_resting 29 = .ok (.iconst 1, 1) := by decide +kernel
theorem dX4_resting_30 : decode cX4_resting 30 = .ok (.goto 4, 3) := by decide +kernel
theorem dX4_resting_33 : decode cX4_resting 33 = .ok (.iconst 0, 1) := by decide +kernel
theorem dX4_resting_34 : decode cX4_resting 34 = .ok (.ireturn, 1) := by decide +kernel
set_option maxRecDepth 20000 in
theorem ggX4_figure_X3_up : GoodIn wsX4_figure wsX3_up := goodIn_r _ [15, 16, 17, 18, 14, 19, 20, 46, 47] (by decide +kernel) (by decide +kernel)
set_option maxRecDepth 20000 in
theorem gX4_figure_X3_up : GoodIn wsX4_figure (wsV RX4 134 RX3 yX3_up wsX3_up) := goodIn_app (goodIn_of _ (by decide +kernel)) ggX4_figure_X3_up
set_option maxRecDepth 20000 in
theorem ggX4_figure_X3_count : GoodIn wsX4_figure wsX3_count := goodIn_r _ [19, 20, 46, 47] (by decide +kernel) (by decide +kernel)
set_option maxRecDepth 20000 in
theorem gX4_figure_X3_count : GoodIn wsX4_figure (wsV RX4 158 RX3 yX3_count wsX3_count) := goodIn_app (goodIn_of _ (by decide +kernel)) ggX4_figure_X3_count
theorem dX4_figure_0 : decode cX4_figure 0 = .ok (.iload_n 1, 1) := by decide +kernel
theorem dX4_figure_1 : decode cX4_figure 1 = .ok (.tableswitch 169 0 12 #[67, 72, 80, 88, 93, 98, 103, 111, 116, 124, 133, 142, 164], 67) := by decide +kernel
theorem dX4_figure_68 : decode cX4_figure 68 = .ok (.aload_n 0, 1) := by decide +kernel
theorem dX4_figure_69 : decode cX4_figure 69 = .ok (.getfield 55, 3) := by decide +kernel
theorem dX4_figure_72 : decode cX4_figure 72 = .ok (.ireturn, 1) := by decide +kernel
theorem dX4_figure_73 : decode cX4_figure 73 = .ok (.aload_n 0, 1) := by decide +kernel
theorem dX4_figure_74 : decode cX4_figure 74 = .ok (.getfield 33, 3) := by decide +kernel
theorem dX4_figure_77 : decode cX4_figure 77 = .ok (.getfield 88, 3) := by decide +kernel
theorem dX4_figure_80 : decode cX4_figure 80 = .ok (.ireturn, 1) := by decide +kernel
theorem dX4_figure_81 : decode cX4_figure 81 = .ok (.aload_n 0, 1) := by decide +kernel
theorem dX4_figure_82 : decode cX4_figure 82 = .ok (.getfield 33, 3) := by decide +kernel
theorem dX4_figure_85 : decode cX4_figure 85 = .ok (.getfield 155, 3) := by decide +kernel
theorem dX4_figure_88 : decode cX4_figure 88 = .ok (.ireturn, 1) := by decide +kernel
theorem dX4_figure_89 : decode cX4_figure 89 = .ok (.aload_n 0, 1) := by decide +kernel
theorem dX4_figure_90 : decode cX4_figure 90 = .ok (.getfield 68, 3) := by decide +kernel
theorem dX4_figure_93 : decode cX4_figure 93 = .ok (.ireturn, 1) := by decide +kernel
theorem dX4_figure_94 : decode cX4_figure 94 = .ok (.aload_n 0, 1) := by decide +kernel
theorem dX4_figure_95 : decode cX4_figure 95 = .ok (.getfield 71, 3) := by decide +kernel
theorem dX4_figure_98 : decode cX4_figure 98 = .ok (.ireturn, 1) := by decide +kernel
theorem dX4_figure_99 : decode cX4_figure 99 = .ok (.aload_n 0, 1) := by decide +kernel
theorem dX4_figure_100 : decode cX4_figure 100 = .ok (.getfield 74, 3) := by decide +kernel
theorem dX4_figure_103 : decode cX4_figure 103 = .ok (.ireturn, 1) := by decide +kernel
theorem dX4_figure_104 : decode cX4_figure 104 = .ok (.aload_n 0, 1) := by decide +kernel
theorem dX4_figure_105 : decode cX4_figure 105 = .ok (.getfield 40, 3) := by decide +kernel
theorem dX4_figure_108 : decode cX4_figure 108 = .ok (.getfield 142, 3) := by decide +kernel
theorem dX4_figure_111 : decode cX4_figure 111 = .ok (.ireturn, 1) := by decide +kernel
theorem dX4_figure_112 : decode cX4_figure 112 = .ok (.aload_n 0, 1) := by decide +kernel
theorem dX4_figure_113 : decode cX4_figure 113 = .ok (.getfield 59, 3) := by decide +kernel
theorem dX4_figure_116 : decode cX4_figure 116 = .ok (.ireturn, 1) := by decide +kernel
theorem dX4_figure_117 : decode cX4_figure 117 = .ok (.aload_n 0, 1) := by decide +kernel
theorem dX4_figure_118 : decode cX4_figure 118 = .ok (.getfield 26, 3) := by decide +kernel
theorem dX4_figure_121 : decode cX4_figure 121 = .ok (.invokevirtual 134, 3) := by decide +kernel
theorem dX4_figure_124 : decode cX4_figure 124 = .ok (.ireturn, 1) := by decide +kernel
theorem dX4_figure_125 : decode cX4_figure 125 = .ok (.aload_n 0, 1) := by decide +kernel
theorem dX4_figure_126 : decode cX4_figure 126 = .ok (.getfield 26, 3) := by decide +kernel
theorem dX4_figure_129 : decode cX4_figure 129 = .ok (.iconst 2, 1) := by decide +kernel
theorem dX4_figure_130 : decode cX4_figure 130 = .ok (.invokevirtual 158, 3) := by decide +kernel
theorem dX4_figure_133 : decode cX4_figure 133 = .ok (.ireturn, 1) := by decide +kernel
theorem dX4_figure_134 : decode cX4_figure 134 = .ok (.aload_n 0, 1) := by decide +kernel
theorem dX4_figure_135 : decode cX4_figure 135 = .ok (.getfield 26, 3) := by decide +kernel
theorem dX4_figure_138 : decode cX4_figure 138 = .ok (.iconst 3, 1) := by decide +kernel
theorem dX4_figure_139 : decode cX4_figure 139 = .ok (.invokevirtual 158, 3) := by decide +kernel
theorem dX4_figure_142 : decode cX4_figure 142 = .ok (.ireturn, 1) := by decide +kernel
theorem dX4_figure_143 : decode cX4_figure 143 = .ok (.aload_n 0, 1) := by decide +kernel
theorem dX4_figure_144 : decode cX4_figure 144 = .ok (.getfield 62, 3) := by decide +kernel
theorem dX4_figure_147 : decode cX4_figure 147 = .ok (.iconst (-1), 1) := by decide +kernel
theorem dX4_figure_148 : decode cX4_figure 148 = .ok (.if_icmp .ne 7, 3) := by decide +kernel
theorem dX4_figure_151 : decode cX4_figure 151 = .ok (.iconst (-1), 1) := by decide +kernel
theorem dX4_figure_152 : decode cX4_figure 152 = .ok (.goto 12, 3) := by decide +kernel
theorem dX4_figure_155 : decode cX4_figure 155 = .ok (.aload_n 0, 1) := by decide +kernel
theorem dX4_figure_156 : decode cX4_figure 156 = .ok (.getfield 55, 3) := by decide +kernel
theorem dX4_figure_159 : decode cX4_figure 159 = .ok (.aload_n 0, 1) := by decide +kernel
theorem dX4_figure_160 : decode cX4_figure 160 = .ok (.getfield 62, 3) := by decide +kernel
theorem dX4_figure_163 : decode cX4_figure 163 = .ok (.isub, 1) := by decide +kernel
theorem dX4_figure_164 : decode cX4_figure 164 = .ok (.ireturn, 1) := by decide +kernel
theorem dX4_figure_165 : decode cX4_figure 165 = .ok (.aload_n 0, 1) := by decide +kernel
theorem dX4_figure_166 : decode cX4_figure 166 = .ok (.getfield 65, 3) := by decide +kernel
theorem dX4_figure_169 : decode cX4_figure 169 = .ok (.ireturn, 1) := by decide +kernel
theorem dX4_figure_170 : decode cX4_figure 170 = .ok (.sipush (-1002), 3) := by decide +kernel
theorem dX4_figure_173 : decode cX4_figure 173 = .ok (.ireturn, 1) := by decide +kernel
set_option maxRecDepth 20000 in
theorem ggX4_kept_X6_within : GoodIn wsX4_kept wsX6_within := goodIn_r _ [4] (by decide +kernel) (by decide +kernel)
set_option maxRecDepth 20000 in
theorem gX4_kept_X6_within_n77 : GoodIn wsX4_kept (wsX6_within) := ggX4_kept_X6_within
theorem dX4_kept_0 : decode cX4_kept 0 = .ok (.iload_n 1, 1) := by decide +kernel
theorem dX4_kept_1 : decode cX4_kept 1 = .ok (.iconst 0, 1) := by decide +kernel
theorem dX4_kept_2 : decode cX4_kept 2 = .ok (.sipush 199, 3) := by decide +kernel
theorem dX4_kept_5 : decode cX4_kept 5 = .ok (.invokestatic 77, 3) := by decide +kernel
theorem dX4_kept_8 : decode cX4_kept 8 = .ok (.ifCond .eq 16, 3) := by decide +kernel
theorem dX4_kept_11 : decode cX4_kept 11 = .ok (.iload_n 2, 1) := by decide +kernel
theorem dX4_kept_12 : decode cX4_kept 12 = .ok (.iconst 0, 1) := by decide +kernel
theorem dX4_kept_13 : decode cX4_kept 13 = .ok (.iconst 5, 1) := by decide +kernel
theorem dX4_kept_14 : decode cX4_kept 14 = .ok (.invokestatic 77, 3) := by decide +kernel
theorem dX4_kept_17 : decode cX4_kept 17 = .ok (.ifCond .eq 7, 3) := by decide +kernel
theorem dX4_kept_20 : decode cX4_kept 20 = .ok (.iconst 1, 1) := by decide +kernel
theorem dX4_kept_21 : decode cX4_kept 21 = .ok (.goto 4, 3) := by decide +kernel
theorem dX4_kept_24 : decode cX4_kept 24 = .ok (.iconst 0, 1) := by decide +kernel
theorem dX4_kept_25 : decode cX4_kept 25 = .ok (.istore_n 3, 1) := by decide +kernel
theorem dX4_kept_26 : decode cX4_kept 26 = .ok (.iload_n 3, 1) := by decide +kernel
theorem dX4_kept_27 : decode cX4_kept 27 = .ok (.ifCond .eq 14, 3) := by decide +kernel
theorem dX4_kept_30 : decode cX4_kept 30 = .ok (.aload_n 0, 1) := by decide +kernel
theorem dX4_kept_31 : decode cX4_kept 31 = .ok (.getfield 46, 3) := by decide +kernel
theorem dX4_kept_34 : decode cX4_kept 34 = .ok (.iload_n 2, 1) := by decide +kernel
theorem dX4_kept_35 : decode cX4_kept 35 = .ok (.aaload, 1) := by decide +kernel
theorem dX4_kept_36 : decode cX4_kept 36 = .ok (.iload_n 1, 1) := by decide +kernel
theorem dX4_kept_37 : decode cX4_kept 37 = .ok (.iaload, 1) := by decide +kernel
theorem dX4_kept_38 : decode cX4_kept 38 = .ok (.goto 6, 3) := by decide +kernel
theorem dX4_kept_41 : decode cX4_kept 41 = .ok (.sipush (-1002), 3) := by decide +kernel
theorem dX4_kept_44 : decode cX4_kept 44 = .ok (.ireturn, 1) := by decide +kernel
set_option maxRecDepth 20000 in
theorem ggX4_lostUnder_X4_begin : GoodIn wsX4_lostUnder wsX4_begin := goodIn_r _ [6, 7, 8, 9, 10, 11, 12, 13, 14, 1, 15, 16, 17, 18, 19, 20, 21, 22, 23, 24, 25, 26, 27, 28, 29, 30, 31, 32, 33, 34, 35, 36, 172, 173, 174, 175, 176, 177, 178, 179, 180, 181, 182, 183, 184, 185, 186, 187, 188, 189, 190, 191, 192, 193, 194, 195, 196, 197] (by decide +kernel) (by decide +kernel)
set_option maxRecDepth 20000 in
theorem gX4_lostUnder_X4_begin : GoodIn wsX4_lostUnder (wsV RX4 49 RX4 yX4_begin wsX4_begin) := goodIn_app (goodIn_of _ (by decide +kernel)) ggX4_lostUnder_X4_begin
set_option maxRecDepth 20000 in
theorem ggX4_lostUnder_X4_changeLoad : GoodIn wsX4_lostUnder wsX4_changeLoad := goodIn_r _ [40, 41, 42, 43, 44, 172, 173, 174, 175, 176, 177, 178, 179, 180, 181, 182, 183, 184, 185] (by decide +kernel) (by decide +kernel)
set_option maxRecDepth 20000 in
theorem gX4_lostUnder_X4_changeLoad : GoodIn wsX4_lostUnder (wsV RX4 161 RX4 yX4_changeLoad wsX4_changeLoad) := goodIn_app (goodIn_of _ (by decide +kernel)) ggX4_lostUnder_X4_changeLoad
set_option maxRecDepth 20000 in
theorem ggX4_lostUnder_X4_run : GoodIn wsX4_lostUnder wsX4_run := goodIn_r _ [48, 49, 50, 51, 5, 52, 10, 8, 41, 9, 53, 54, 11, 7, 13, 14, 1, 15, 55, 42, 43, 44, 56, 57, 58, 25, 59, 29, 30, 60, 61, 62, 63, 64, 65, 66, 27, 28, 67, 68, 69, 70, 71, 72, 73, 74, 34, 75, 76, 77, 78, 79, 80, 81, 82, 83, 84, 85, 86, 87, 88, 89, 90, 36, 91, 92, 93, 94, 95, 96, 97, 98, 19, 99, 100, 101, 102, 103, 21, 104, 105, 106, 107, 108, 109, 110, 111, 112, 113, 114, 115, 116, 117, 12, 118, 119, 120, 121, 122, 123, 124, 125, 126, 127, 128, 129, 130, 131, 132, 133, 134, 135, 136, 137, 138, 139, 140, 141, 142, 143, 144, 145, 146, 147, 148, 149, 150, 151, 152, 153, 154, 155, 156, 157, 158, 159, 160, 161, 162, 163, 164, 165, 166, 167, 168, 169, 170, 171, 172, 173, 174, 175, 176, 177, 178, 179, 180, 181, 182, 183, 184, 185, 188, 189, 190, 191, 192, 193, 194, 195, 196, 197, 198, 199, 186, 187] (by decide +kernel) (by decide +kernel)
set_option maxRecDepth 20000 in
theorem gX4_lostUnder_X4_run : GoodIn wsX4_lostUnder (wsV RX4 164 RX4 yX4_run wsX4_run) := goodIn_app (goodIn_of _ (by decide +kernel)) ggX4_lostUnder_X4_run
theorem dX4_lostUnder_0 : decode cX4_lostUnder 0 = .ok (.aload_n 0, 1) := by decide +kernel
theorem dX4_lostUnder_1 : decode cX4_lostUnder 1 = .ok (.invokevirtual 49, 3) := by decide +kernel
theorem dX4_lostUnder_4 : decode cX4_lostUnder 4 = .ok (.iconst 0, 1) := by decide +kernel
theorem dX4_lostUnder_5 : decode cX4_lostUnder 5 = .ok (.istore 4, 2) := by decide +kernel
theorem dX4_lostUnder_7 : decode cX4_lostUnder 7 = .ok (.iload 4, 2) := by decide +kernel
theorem dX4_lostUnder_9 : decode cX4_lostUnder 9 = .ok (.iload_n 2, 1) := by decide +kernel
theorem dX4_lostUnder_10 : decode cX4_lostUnder 10 = .ok (.bipush 10, 2) := by decide +kernel
theorem dX4_lostUnder_12 : decode cX4_lostUnder 12 = .ok (.iadd, 1) := by decide +kernel
theorem dX4_lostUnder_13 : decode cX4_lostUnder 13 = .ok (.if_icmp .ge 37, 3) := by decide +kernel
theorem dX4_lostUnder_16 : decode cX4_lostUnder 16 = .ok (.aload_n 0, 1) := by decide +kernel
theorem dX4_lostUnder_17 : decode cX4_lostUnder 17 = .ok (.iload 4, 2) := by decide +kernel
theorem dX4_lostUnder_19 : decode cX4_lostUnder 19 = .ok (.iload 4, 2) := by decide +kernel
theorem dX4_lostUnder_21 : decode cX4_lostUnder 21 = .ok (.iload_n 2, 1) := by decide +kernel
theorem dX4_lostUnder_22 : decode cX4_lostUnder 22 = .ok (.if_icmp .ge 17, 3) := by decide +kernel
theorem dX4_lostUnder_25 : decode cX4_lostUnder 25 = .ok (.iload_n 1, 1) := by decide +kernel
theorem dX4_lostUnder_26 : decode cX4_lostUnder 26 = .ok (.iload 4, 2) := by decide +kernel
theorem dX4_lostUnder_28 : decode cX4_lostUnder 28 = .ok (.ishr, 1) := by decide +kernel
theorem dX4_lostUnder_29 : decode cX4_lostUnder 29 = .ok (.iconst 1, 1) := by decide +kernel
theorem dX4_lostUnder_30 : decode cX4_lostUnder 30 = .ok (.iand, 1) := by decide +kernel
theorem dX4_lostUnder_31 : decode cX4_lostUnder 31 = .ok (.iconst 1, 1) := by decide +kernel
theorem dX4_lostUnder_32 : decode cX4_lostUnder 32 = .ok (.if_icmp .ne 7, 3) := by decide +kernel
theorem dX4_lostUnder_35 : decode cX4_lostUnder 35 = .ok (.iload_n 3, 1) := by decide +kernel
theorem dX4_lostUnder_36 : decode cX4_lostUnder 36 = .ok (.goto 4, 3) := by decide +kernel
theorem dX4_lostUnder_39 : decode cX4_lostUnder 39 = .ok (.iconst 0, 1) := by decide +kernel
theorem dX4_lostUnder_40 : decode cX4_lostUnder 40 = .ok (.invokevirtual 161, 3) := by decide +kernel
theorem dX4_lostUnder_43 : decode cX4_lostUnder 43 = .ok (.pop, 1) := by decide +kernel
theorem dX4_lostUnder_44 : decode cX4_lostUnder 44 = .ok (.iinc 4 1, 3) := by decide +kernel
theorem dX4_lostUnder_47 : decode cX4_lostUnder 47 = .ok (.goto (-40), 3) := by decide +kernel
theorem dX4_lostUnder_50 : decode cX4_lostUnder 50 = .ok (.aload_n 0, 1) := by decide +kernel
theorem dX4_lostUnder_51 : decode cX4_lostUnder 51 = .ok (.iload_n 2, 1) := by decide +kernel
theorem dX4_lostUnder_52 : decode cX4_lostUnder 52 = .ok (.bipush 10, 2) := by decide +kernel
theorem dX4_lostUnder_54 : decode cX4_lostUnder 54 = .ok (.iadd, 1) := by decide +kernel
theorem dX4_lostUnder_55 : decode cX4_lostUnder 55 = .ok (.invokevirtual 164, 3) := by decide +kernel
theorem dX4_lostUnder_58 : decode cX4_lostUnder 58 = .ok (.aload_n 0, 1) := by decide +kernel
theorem dX4_lostUnder_59 : decode cX4_lostUnder 59 = .ok (.getfield 71, 3) := by decide +kernel
theorem dX4_lostUnder_62 : decode cX4_lostUnder 62 = .ok (.ireturn, 1) := by decide +kernel
set_option maxRecDepth 20000 in
theorem ggX4_runSteady_X4_begin : GoodIn wsX4_runSteady wsX4_begin := goodIn_r _ [5, 6, 7, 8, 9, 10, 11, 12, 13, 14, 15, 16, 17, 18, 19, 20, 21, 22, 23, 24, 25, 26, 27, 28, 29, 30, 31, 32, 33, 34, 35, 36, 172, 173, 174, 175, 176, 177, 178, 179, 180, 181, 182, 183, 184, 185, 186, 187, 188, 189, 190, 191, 192, 193, 194, 195, 196, 197] (by decide +kernel) (by decide +kernel)
set_option maxRecDepth 20000 in
theorem gX4_runSteady_X4_begin : GoodIn wsX4_runSteady (wsV RX4 49 RX4 yX4_begin wsX4_begin) := goodIn_app (goodIn_of _ (by decide +kernel)) ggX4_runSteady_X4_begin
set_option maxRecDepth 20000 in
theorem ggX4_runSteady_X4_changeLoad : GoodIn wsX4_runSteady wsX4_changeLoad := goodIn_r _ [40, 41, 42, 43, 44, 172, 173, 174, 175, 176, 177, 178, 179, 180, 181, 182, 183, 184, 185] (by decide +kernel) (by decide +kernel)
set_option maxRecDepth 20000 in
theorem gX4_runSteady_X4_changeLoad : GoodIn wsX4_runSteady (wsV RX4 161 RX4 yX4_changeLoad wsX4_changeLoad) := goodIn_app (goodIn_of _ (by decide +kernel)) ggX4_runSteady_X4_changeLoad
set_option maxRecDepth 20000 in
theorem ggX4_runSteady_X4_run : GoodIn wsX4_runSteady wsX4_run := goodIn_r _ [48, 49, 50, 51, 4, 52, 9, 7, 41, 8, 53, 54, 10, 6, 12, 13, 14, 15, 55, 42, 43, 44, 56, 57, 58, 25, 59, 29, 30, 60, 61, 62, 63, 64, 65, 66, 27, 28, 67, 68, 69, 70, 71, 72, 73, 74, 34, 75, 76, 77, 78, 79, 80, 81, 82, 83, 84, 85, 86, 87, 88, 89, 90, 36, 91, 92, 93, 94, 95, 96, 97, 98, 19, 99, 100, 101, 102, 103, 21, 104, 105, 106, 107, 108, 109, 110, 111, 112, 113, 114, 115, 116, 117, 11, 118, 119, 120, 121, 122, 123, 124, 125, 126, 127, 128, 129, 130, 131, 132, 133, 134, 135, 136, 137, 138, 139, 140, 141, 142, 143, 144, 145, 146, 147, 148, 149, 150, 151, 152, 153, 154, 155, 156, 157, 158, 159, 160, 161, 162, 163, 164, 165, 166, 167, 168, 169, 170, 171, 172, 173, 174, 175, 176, 177, 178, 179, 180, 181, 182, 183, 184, 185, 188, 189, 190, 191, 192, 193, 194, 195, 196, 197, 198, 199, 186, 187] (by decide +kernel) (by decide +kernel)
set_option maxRecDepth 20000 in
theorem gX4_runSteady_X4_run : GoodIn wsX4_runSteady (wsV RX4 164 RX4 yX4_run wsX4_run) := goodIn_app (goodIn_of _ (by decide +kernel)) ggX4_runSteady_X4_run
theorem dX4_runSteady_0 : decode cX4_runSteady 0 = .ok (.aload_n 0, 1) := by decide +kernel
theorem dX4_runSteady_1 : decode cX4_runSteady 1 = .ok (.invokevirtual 49, 3) := by decide +kernel
theorem dX4_runSteady_4 : decode cX4_runSteady 4 = .ok (.iconst 0, 1) := by decide +kernel
theorem dX4_runSteady_5 : decode cX4_runSteady 5 = .ok (.istore_n 3, 1) := by decide +kernel
theorem dX4_runSteady_6 : decode cX4_runSteady 6 = .ok (.iload_n 3, 1) := by decide +kernel
theorem dX4_runSteady_7 : decode cX4_runSteady 7 = .ok (.iload_n 2, 1) := by decide +kernel
theorem dX4_runSteady_8 : decode cX4_runSteady 8 = .ok (.if_icmp .ge 16, 3) := by decide +kernel
theorem dX4_runSteady_11 : decode cX4_runSteady 11 = .ok (.aload_n 0, 1) := by decide +kernel
theorem dX4_runSteady_12 : decode cX4_runSteady 12 = .ok (.iload_n 3, 1) := by decide +kernel
theorem dX4_runSteady_13 : decode cX4_runSteady 13 = .ok (.iload_n 1, 1) := by decide +kernel
theorem dX4_runSteady_14 : decode cX4_runSteady 14 = .ok (.invokevirtual 161, 3) := by decide +kernel
theorem dX4_runSteady_17 : decode cX4_runSteady 17 = .ok (.pop, 1) := by decide +kernel
theorem dX4_runSteady_18 : decode cX4_runSteady 18 = .ok (.iinc 3 1, 3) := by decide +kernel
theorem dX4_runSteady_21 : decode cX4_runSteady 21 = .ok (.goto (-15), 3) := by decide +kernel
theorem dX4_runSteady_24 : decode cX4_runSteady 24 = .ok (.aload_n 0, 1) := by decide +kernel
theorem dX4_runSteady_25 : decode cX4_runSteady 25 = .ok (.iload_n 2, 1) := by decide +kernel
theorem dX4_runSteady_26 : decode cX4_runSteady 26 = .ok (.invokevirtual 164, 3) := by decide +kernel
theorem dX4_runSteady_29 : decode cX4_runSteady 29 = .ok (.return_, 1) := by decide +kernel
set_option maxRecDepth 20000 in
theorem ggX4_fewestUp_X4_kept : GoodIn wsX4_fewestUp wsX4_kept := goodIn_r _ [9, 10, 11, 12, 13, 14, 15, 16, 17, 18, 19, 20, 21, 22, 23, 24, 25, 26, 27] (by decide +kernel) (by decide +kernel)
set_option maxRecDepth 20000 in
theorem gX4_fewestUp_X4_kept : GoodIn wsX4_fewestUp (wsV RX4 167 RX4 yX4_kept wsX4_kept) := goodIn_app (goodIn_of _ (by decide +kernel)) ggX4_fewestUp_X4_kept
theorem dX4_fewestUp_0 : decode cX4_fewestUp 0 = .ok (.bipush 12, 2) := by decide +kernel
theorem dX4_fewestUp_2 : decode cX4_fewestUp 2 = .ok (.istore_n 3, 1) := by decide +kernel
theorem dX4_fewestUp_3 : decode cX4_fewestUp 3 = .ok (.iload_n 1, 1) := by decide +kernel
theorem dX4_fewestUp_4 : decode cX4_fewestUp 4 = .ok (.istore 4, 2) := by decide +kernel
theorem dX4_fewestUp_6 : decode cX4_fewestUp 6 = .ok (.iload 4, 2) := by decide +kernel
theorem dX4_fewestUp_8 : decode cX4_fewestUp 8 = .ok (.iload_n 2, 1) := by decide +kernel
theorem dX4_fewestUp_9 : decode cX4_fewestUp 9 = .ok (.if_icmp .ge 21, 3) := by decide +kernel
theorem dX4_fewestUp_12 : decode cX4_fewestUp 12 = .ok (.iload_n 3, 1) := by decide +kernel
theorem dX4_fewestUp_13 : decode cX4_fewestUp 13 = .ok (.aload_n 0, 1) := by decide +kernel
theorem dX4_fewestUp_14 : decode cX4_fewestUp 14 = .ok (.iload 4, 2) := by decide +kernel
theorem dX4_fewestUp_16 : decode cX4_fewestUp 16 = .ok (.iconst 3, 1) := by decide +kernel
theorem dX4_fewestUp_17 : decode cX4_fewestUp 17 = .ok (.invokevirtual 167, 3) := by decide +kernel
theorem dX4_fewestUp_20 : decode cX4_fewestUp 20 = .ok (.invokestatic 170, 3) := by decide +kernel
theorem dX4_fewestUp_23 : decode cX4_fewestUp 23 = .ok (.istore_n 3, 1) := by decide +kernel
theorem dX4_fewestUp_24 : decode cX4_fewestUp 24 = .ok (.iinc 4 1, 3) := by decide +kernel
theorem dX4_fewestUp_27 : decode cX4_fewestUp 27 = .ok (.goto (-21), 3) := by decide +kernel
theorem dX4_fewestUp_30 : decode cX4_fewestUp 30 = .ok (.iload_n 3, 1) := by decide +kernel
theorem dX4_fewestUp_31 : decode cX4_fewestUp 31 = .ok (.ireturn, 1) := by decide +kernel
set_option maxRecDepth 20000 in
theorem ggX4_mostUp_X4_kept : GoodIn wsX4_mostUp wsX4_kept := goodIn_r _ [9, 10, 11, 12, 13, 14, 15, 16, 17, 18, 19, 20, 21, 22, 23, 24, 25, 26, 27] (by decide +kernel) (by decide +kernel)
set_option maxRecDepth 20000 in
theorem gX4_mostUp_X4_kept : GoodIn wsX4_mostUp (wsV RX4 167 RX4 yX4_kept wsX4_kept) := goodIn_app (goodIn_of _ (by decide +kernel)) ggX4_mostUp_X4_kept
theorem dX4_mostUp_0 : decode cX4_mostUp 0 = .ok (.iconst 0, 1) := by decide +kernel
theorem dX4_mostUp_1 : decode cX4_mostUp 1 = .ok (.istore_n 3, 1) := by decide +kernel
theorem dX4_mostUp_2 : decode cX4_mostUp 2 = .ok (.iload_n 1, 1) := by decide +kernel
theorem dX4_mostUp_3 : decode cX4_mostUp 3 = .ok (.istore 4, 2) := by decide +kernel
theorem dX4_mostUp_5 : decode cX4_mostUp 5 = .ok (.iload 4, 2) := by decide +kernel
theorem dX4_mostUp_7 : decode cX4_mostUp 7 = .ok (.iload_n 2, 1) := by decide +kernel
theorem dX4_mostUp_8 : decode cX4_mostUp 8 = .ok (.if_icmp .ge 21, 3) := by decide +kernel
theorem dX4_mostUp_11 : decode cX4_mostUp 11 = .ok (.iload_n 3, 1) := by decide +kernel
theorem dX4_mostUp_12 : decode cX4_mostUp 12 = .ok (.aload_n 0, 1) := by decide +kernel
theorem dX4_mostUp_13 : decode cX4_mostUp 13 = .ok (.iload 4, 2) := by decide +kernel
theorem dX4_mostUp_15 : decode cX4_mostUp 15 = .ok (.iconst 3, 1) := by decide +kernel
theorem dX4_mostUp_16 : decode cX4_mostUp 16 = .ok (.invokevirtual 167, 3) := by decide +kernel
theorem dX4_mostUp_19 : decode cX4_mostUp 19 = .ok (.invokestatic 137, 3) := by decide +kernel
theorem dX4_mostUp_22 : decode cX4_mostUp 22 = .ok (.istore_n 3, 1) := by decide +kernel
theorem dX4_mostUp_23 : decode cX4_mostUp 23 = .ok (.iinc 4 1, 3) := by decide +kernel
theorem dX4_mostUp_26 : decode cX4_mostUp 26 = .ok (.goto (-21), 3) := by decide +kernel
theorem dX4_mostUp_29 : decode cX4_mostUp 29 = .ok (.iload_n 3, 1) := by decide +kernel
theorem dX4_mostUp_30 : decode cX4_mostUp 30 = .ok (.ireturn, 1) := by decide +kernel
theorem dX5_init_0 : decode cX5_init 0 = .ok (.aload_n 0, 1) := by decide +kernel
theorem dX5_init_1 : decode cX5_init 1 = .ok (.invokespecial 3, 3) := by decide +kernel
theorem dX5_init_4 : decode cX5_init 4 = .ok (.aload_n 0, 1) := by decide +kernel
theorem dX5_init_5 : decode cX5_init 5 = .ok (.bipush 19, 2) := by decide +kernel
theorem dX5_init_7 : decode cX5_init 7 = .ok (.newarray .int, 2) := by decide +kernel
theorem dX5_init_9 : decode cX5_init 9 = .ok (.putfield 11, 3) := by decide +kernel
theorem dX5_init_12 : decode cX5_init 12 = .ok (.aload_n 0, 1) := by decide +kernel
theorem dX5_init_13 : decode cX5_init 13 = .ok (.bipush 24, 2) := by decide +kernel
theorem dX5_init_15 : decode cX5_init 15 = .ok (.newarray .int, 2) := by decide +kernel
theorem dX5_init_17 : decode cX5_init 17 = .ok (.putfield 15, 3) := by decide +kernel
theorem dX5_init_20 : decode cX5_init 20 = .ok (.iconst 0, 1) := by decide +kernel
theorem dX5_init_21 : decode cX5_init 21 = .ok (.istore_n 1, 1) := by decide +kernel
theorem dX5_init_22 : decode cX5_init 22 = .ok (.iload_n 1, 1) := by decide +kernel
theorem dX5_init_23 : decode cX5_init 23 = .ok (.bipush 19, 2) := by decide +kernel
theorem dX5_init_25 : decode cX5_init 25 = .ok (.if_icmp .ge 20, 3) := by decide +kernel
theorem dX5_init_28 : decode cX5_init 28 = .ok (.aload_n 0, 1) := by decide +kernel
theorem dX5_init_29 : decode cX5_init 29 = .ok (.getfield 11, 3) := by decide +kernel
theorem dX5_init_32 : decode cX5_init 32 = .ok (.iload_n 1, 1) := by decide +kernel
theorem dX5_init_33 : decode cX5_init 33 = .ok (.getstatic 18, 3) := by decide +kernel
theorem dX5_init_36 : decode cX5_init 36 = .ok (.iload_n 1, 1) := by decide +kernel
theorem dX5_init_37 : decode cX5_init 37 = .ok (.iaload, 1) := by decide +kernel
theorem dX5_init_38 : decode cX5_init 38 = .ok (.iastore, 1) := by decide +kernel
theorem dX5_init_39 : decode cX5_init 39 = .ok (.iinc 1 1, 3) := by decide +kernel
theorem dX5_init_42 : decode cX5_init 42 = .ok (.goto (-20), 3) := by decide +kernel
theorem dX5_init_45 : decode cX5_init 45 = .ok (.return_, 1) := by decide +kernel
set_option maxRecDepth 20000 in
theorem ggX5_value_X6_within : GoodIn wsX5_value wsX6_within := goodIn_r _ [4] (by decide +kernel) (by decide +kernel)
set_option maxRecDepth 20000 in
theorem gX5_value_X6_within_n21 : GoodIn wsX5_value (wsX6_within) := ggX5_value_X6_within
theorem dX5_value_0 : decode cX5_value 0 = .ok (.iload_n 1, 1) := by decide +kernel
theorem dX5_value_1 : decode cX5_value 1 = .ok (.iconst 0, 1) := by decide +kernel
theorem dX5_value_2 : decode cX5_value 2 = .ok (.bipush 18, 2) := by decide +kernel
theorem dX5_value_4 : decode cX5_value 4 = .ok (.invokestatic 21, 3) := by decide +kernel
theorem dX5_value_7 : decode cX5_value 7 = .ok (.ifCond .eq 12, 3) := by decide +kernel
theorem dX5_value_10 : decode cX5_value 10 = .ok (.aload_n 0, 1) := by decide +kernel
theorem dX5_value_11 : decode cX5_value 11 = .ok (.getfield 11, 3) := by decide +kernel
theorem dX5_value_14 : decode cX5_value 14 = .ok (.iload_n 1, 1) := by decide +kernel
theorem dX5_value_15 : decode cX5_value 15 = .ok (.iaload, 1) := by decide +kernel
theorem dX5_value_16 : decode cX5_value 16 = .ok (.goto 6, 3) := by decide +kernel
theorem dX5_value_19 : decode cX5_value 19 = .ok (.sipush (-1002), 3) := by decide +kernel
theorem dX5_value_22 : decode cX5_value 22 = .ok (.ireturn, 1) := by decide +kernel
set_option maxRecDepth 20000 in
theorem ggX5_allows_X6_within : GoodIn wsX5_allows wsX6_within := goodIn_r _ [6] (by decide +kernel) (by decide +kernel)
set_option maxRecDepth 20000 in
theorem gX5_allows_X6_within_n21 : GoodIn wsX5_allows (wsX6_within) := ggX5_allows_X6_within
theorem dX5_allows_0 : decode cX5_allows 0 = .ok (.iload_n 1, 1) := by decide +kernel
theorem dX5_allows_1 : decode cX5_allows 1 = .ok (.iconst 0, 1) := by decide +kernel
theorem dX5_allows_2 : decode cX5_allows 2 = .ok (.bipush 18, 2) := by decide +kernel
theorem dX5_allows_4 : decode cX5_allows 4 = .ok (.invokestatic 21, 3) := by decide +kernel
theorem dX5_allows_7 : decode cX5_allows 7 = .ok (.ifCond .eq 20, 3) := by decide +kernel
theorem dX5_allows_10 : decode cX5_allows 10 = .ok (.iload_n 2, 1) := by decide +kernel
theorem dX5_allows_11 : decode cX5_allows 11 = .ok (.getstatic 25, 3) := by decide +kernel
theorem dX5_allows_14 : decode cX5_allows 14 = .ok (.iload_n 1, 1) := by decide +kernel
theorem dX5_allows_15 : decode cX5_allows 15 = .ok (.iaload, 1) := by decide +kernel
theorem dX5_allows_16 : decode cX5_allows 16 = .ok (.getstatic 28, 3) := by decide +kernel
theorem dX5_allows_19 : decode cX5_allows 19 = .ok (.iload_n 1, 1) := by decide +kernel
theorem dX5_allows_20 : decode cX5_allows 20 = .ok (.iaload, 1) := by decide +kernel
theorem dX5_allows_21 : decode cX5_allows 21 = .ok (.invokestatic 21, 3) := by decide +kernel
theorem dX5_allows_24 : decode cX5_allows 24 = .ok (.ifCond .ne 5, 3) := by decide +kernel
theorem dX5_allows_27 : decode cX5_allows 27 = .ok (.iconst 0, 1) := by decide +kernel
theorem dX5_allows_28 : decode cX5_allows 28 = .ok (.ireturn, 1) := by decide +kernel
theorem dX5_allows_29 : decode cX5_allows 29 = .ok (.iload_n 1, 1) := by decide +kernel
theorem dX5_allows_30 : decode cX5_allows 30 = .ok (.bipush 7, 2) := by decide +kernel
theorem dX5_allows_32 : decode cX5_allows 32 = .ok (.if_icmp .ne 14, 3) := by decide +kernel
theorem dX5_allows_35 : decode cX5_allows 35 = .ok (.iload_n 2, 1) := by decide +kernel
theorem dX5_allows_36 : decode cX5_allows 36 = .ok (.aload_n 0, 1) := by decide +kernel
theorem dX5_allows_37 : decode cX5_allows 37 = .ok (.getfield 11, 3) := by decide +kernel
theorem dX5_allows_40 : decode cX5_allows 40 = .ok (.bipush 8, 2) := by decide +kernel
theorem dX5_allows_42 : decode cX5_allows 42 = .ok (.iaload, 1) := by decide +kernel
theorem dX5_allows_43 : decode cX5_allows 43 = .ok (.if_icmp .gt 20, 3) := by decide +kernel
theorem dX5_allows_46 : decode cX5_allows 46 = .ok (.iload_n 1, 1) := by decide +kernel
theorem dX5_allows_47 : decode cX5_allows 47 = .ok (.bipush 8, 2) := by decide +kernel
theorem dX5_allows_49 : decode cX5_allows 49 = .ok (.if_icmp .ne 18, 3) := by decide +kernel
theorem dX5_allows_52 : decode cX5_allows 52 = .ok (.iload_n 2, 1) := by decide +kernel
theorem dX5_allows_53 : decode cX5_allows 53 = .ok (.aload_n 0, 1) := by decide +kernel
theorem dX5_allows_54 : decode cX5_allows 54 = .ok (.getfield 11, 3) := by decide +kernel
theorem dX5_allows_57 : decode cX5_allows 57 = .ok (.bipush 7, 2) := by decide +kernel
theorem dX5_allows_59 : decode cX5_allows 59 = .ok (.iaload, 1) := by decide +kernel
theorem dX5_allows_60 : decode cX5_allows 60 = .ok (.if_icmp .ge 7, 3) := by decide +kernel
theorem dX5_allows_63 : decode cX5_allows 63 = .ok (.iconst 1, 1) := by decide +kernel
theorem dX5_allows_64 : decode cX5_allows 64 = .ok (.goto 4, 3) := by decide +kernel
theorem dX5_allows_67 : decode cX5_allows 67 = .ok (.iconst 0, 1) := by decide +kernel
theorem dX5_allows_68 : decode cX5_allows 68 = .ok (.istore_n 3, 1) := by decide +kernel
theorem dX5_allows_69 : decode cX5_allows 69 = .ok (.iload_n 3, 1) := by decide +kernel
theorem dX5_allows_70 : decode cX5_allows 70 = .ok (.ifCond .ne 7, 3) := by decide +kernel
theorem dX5_allows_73 : decode cX5_allows 73 = .ok (.iconst 1, 1) := by decide +kernel
theorem dX5_allows_74 : decode cX5_allows 74 = .ok (.goto 4, 3) := by decide +kernel
theorem dX5_allows_77 : decode cX5_allows 77 = .ok (.iconst 0, 1) := by decide +kernel
theorem dX5_allows_78 : decode cX5_allows 78 = .ok (.ireturn, 1) := by decide +kernel
set_option maxRecDepth 20000 in
theorem ggX5_change_X6_within : GoodIn wsX5_change wsX6_within := goodIn_r _ [4] (by decide +kernel) (by decide +kernel)
set_option maxRecDepth 20000 in
theorem gX5_change_X6_within_n21 : GoodIn wsX5_change (wsX6_within) := ggX5_change_X6_within
theorem dX5_change_0 : decode cX5_change 0 = .ok (.iload_n 1, 1) := by decide +kernel
theorem dX5_change_1 : decode cX5_change 1 = .ok (.iconst 0, 1) := by decide +kernel
theorem dX5_change_2 : decode cX5_change 2 = .ok (.bipush 18, 2) := by decide +kernel
theorem dX5_change_4 : decode cX5_change 4 = .ok (.invokestatic 21, 3) := by decide +kernel
theorem dX5_change_7 : decode cX5_change 7 = .ok (.ifCond .ne 7, 3) := by decide +kernel
theorem dX5_change_10 : decode cX5_change 10 = .ok (.sipush (-1002), 3) := by decide +kernel
theorem dX5_change_13 : decode cX5_change 13 = .ok (.ireturn, 1) := by decide +kernel
theorem dX5_change_14 : decode cX5_change 14 = .ok (.aload_n 0, 1) := by decide +kernel
theorem dX5_change_15 : decode cX5_change 15 = .ok (.getfield 11, 3) := by decide +kernel
theorem dX5_change_18 : decode cX5_change 18 = .ok (.iload_n 1, 1) := by decide +kernel
theorem dX5_change_19 : decode cX5_change 19 = .ok (.iaload, 1) := by decide +kernel
theorem dX5_change_20 : decode cX5_change 20 = .ok (.istore_n 3, 1) := by decide +kernel
theorem dX5_change_21 : decode cX5_change 21 = .ok (.aload_n 0, 1) := by decide +kernel
theorem dX5_change_22 : decode cX5_change 22 = .ok (.getfield 11, 3) := by decide +kernel
theorem dX5_change_25 : decode cX5_change 25 = .ok (.iload_n 1, 1) := by decide +kernel
theorem dX5_change_26 : decode cX5_change 26 = .ok (.iload_n 2, 1) := by decide +kernel
theorem dX5_change_27 : decode cX5_change 27 = .ok (.iastore, 1) := by decide +kernel
theorem dX5_change_28 : decode cX5_change 28 = .ok (.iload_n 3, 1) := by decide +kernel
theorem dX5_change_29 : decode cX5_change 29 = .ok (.ireturn, 1) := by decide +kernel
set_option maxRecDepth 20000 in
theorem ggX5_changePlan_X6_within : GoodIn wsX5_changePlan wsX6_within := goodIn_r _ [4] (by decide +kernel) (by decide +kernel)
set_option maxRecDepth 20000 in
theorem gX5_changePlan_X6_within_n21 : GoodIn wsX5_changePlan (wsX6_within) := ggX5_changePlan_X6_within
theorem dX5_changePlan_0 : decode cX5_changePlan 0 = .ok (.iload_n 1, 1) := by decide +kernel
theorem dX5_changePlan_1 : decode cX5_changePlan 1 = .ok (.iconst 0, 1) := by decide +kernel
theorem dX5_changePlan_2 : decode cX5_changePlan 2 = .ok (.bipush 23, 2) := by decide +kernel
theorem dX5_changePlan_4 : decode cX5_changePlan 4 = .ok (.invokestatic 21, 3) := by decide +kernel
theorem dX5_changePlan_7 : decode cX5_changePlan 7 = .ok (.ifCond .ne 7, 3) := by decide +kernel
theorem dX5_changePlan_10 : decode cX5_changePlan 10 = .ok (.sipush (-1002), 3) := by decide +kernel
theorem dX5_changePlan_13 : decode cX5_changePlan 13 = .ok (.ireturn, 1) := by decide +kernel
theorem dX5_changePlan_14 : decode cX5_changePlan 14 = .ok (.aload_n 0, 1) := by decide +kernel
theorem dX5_changePlan_15 : decode cX5_changePlan 15 = .ok (.getfield 15, 3) := by decide +kernel
theorem dX5_changePlan_18 : decode cX5_changePlan 18 = .ok (.iload_n 1, 1) := by decide +kernel
theorem dX5_changePlan_19 : decode cX5_changePlan 19 = .ok (.iaload, 1) := by decide +kernel
theorem dX5_changePlan_20 : decode cX5_changePlan 20 = .ok (.istore_n 3, 1) := by decide +kernel
theorem dX5_changePlan_21 : decode cX5_changePlan 21 = .ok (.aload_n 0, 1) := by decide +kernel
theorem dX5_changePlan_22 : decode cX5_changePlan 22 = .ok (.getfield 15, 3) := by decide +kernel
theorem dX5_changePlan_25 : decode cX5_changePlan 25 = .ok (.iload_n 1, 1) := by decide +kernel
theorem dX5_changePlan_26 : decode cX5_changePlan 26 = .ok (.iload_n 2, 1) := by decide +kernel
theorem dX5_changePlan_27 : decode cX5_changePlan 27 = .ok (.iastore, 1) := by decide +kernel
theorem dX5_changePlan_28 : decode cX5_changePlan 28 = .ok (.iload_n 3, 1) := by decide +kernel
theorem dX5_changePlan_29 : decode cX5_changePlan 29 = .ok (.ireturn, 1) := by decide +kernel
set_option maxRecDepth 20000 in
theorem ggX5_bounded_J9_floorMod_7cf53 : GoodIn wsX5_bounded wsJ9_floorMod_7cf53 := goodIn_r _ [13] (by decide +kernel) (by decide +kernel)
set_option maxRecDepth 20000 in
theorem gX5_bounded_J9_floorMod_7cf53 : GoodIn wsX5_bounded (va_wsS RX5 31 yJ9_floorMod_7cf53 wsJ9_floorMod_7cf53) := goodIn_app (goodIn_of _ (by decide +kernel)) ggX5_bounded_J9_floorMod_7cf53
theorem dX5_bounded_0 : decode cX5_bounded 0 = .ok (.iload_n 2, 1) := by decide +kernel
theorem dX5_bounded_1 : decode cX5_bounded 1 = .ok (.bipush 24, 2) := by decide +kernel
theorem dX5_bounded_3 : decode cX5_bounded 3 = .ok (.invokestatic 31, 3) := by decide +kernel
theorem dX5_bounded_6 : decode cX5_bounded 6 = .ok (.istore_n 3, 1) := by decide +kernel
theorem dX5_bounded_7 : decode cX5_bounded 7 = .ok (.aload_n 0, 1) := by decide +kernel
theorem dX5_bounded_8 : decode cX5_bounded 8 = .ok (.getfield 15, 3) := by decide +kernel
theorem dX5_bounded_11 : decode cX5_bounded 11 = .ok (.iload_n 3, 1) := by decide +kernel
theorem dX5_bounded_12 : decode cX5_bounded 12 = .ok (.iaload, 1) := by decide +kernel
theorem dX5_bounded_13 : decode cX5_bounded 13 = .ok (.aload_n 0, 1) := by decide +kernel
theorem dX5_bounded_14 : decode cX5_bounded 14 = .ok (.getfield 11, 3) := by decide +kernel
theorem dX5_bounded_17 : decode cX5_bounded 17 = .ok (.bipush 7, 2) := by decide +kernel
theorem dX5_bounded_19 : decode cX5_bounded 19 = .ok (.iaload, 1) := by decide +kernel
theorem dX5_bounded_20 : decode cX5_bounded 20 = .ok (.invokestatic 37, 3) := by decide +kernel
theorem dX5_bounded_23 : decode cX5_bounded 23 = .ok (.istore 4, 2) := by decide +kernel
theorem dX5_bounded_25 : decode cX5_bounded 25 = .ok (.iload_n 1, 1) := by decide +kernel
theorem dX5_bounded_26 : decode cX5_bounded 26 = .ok (.iload 4, 2) := by decide +kernel
theorem dX5_bounded_28 : decode cX5_bounded 28 = .ok (.invokestatic 37, 3) := by decide +kernel
theorem dX5_bounded_31 : decode cX5_bounded 31 = .ok (.aload_n 0, 1) := by decide +kernel
theorem dX5_bounded_32 : decode cX5_bounded 32 = .ok (.getfield 11, 3) := by decide +kernel
theorem dX5_bounded_35 : decode cX5_bounded 35 = .ok (.bipush 8, 2) := by decide +kernel
theorem dX5_bounded_37 : decode cX5_bounded 37 = .ok (.iaload, 1) := by decide +kernel
theorem dX5_bounded_38 : decode cX5_bounded 38 = .ok (.invokestatic 40, 3) := by decide +kernel
theorem dX5_bounded_41 : decode cX5_bounded 41 = .ok (.ireturn, 1) := by decide +kernel
set_option maxRecDepth 20000 in
theorem ggX6_init_X5_init : GoodIn wsX6_init wsX5_init := goodIn_r _ [19, 20, 2, 3, 21, 22, 23, 24, 101, 102] (by decide +kernel) (by decide +kernel)
set_option maxRecDepth 20000 in
theorem gX6_init_X5_init : GoodIn wsX6_init (wsX5_init) := ggX6_init_X5_init
set_option maxRecDepth 20000 in
theorem ggX6_init_X4_init : GoodIn wsX6_init wsX4_init := goodIn_r _ [27, 28, 2, 3, 29, 21, 30, 31, 32, 33, 34, 35, 36, 37, 38, 39, 40, 41, 42, 43, 44, 45, 46, 47, 48, 49, 50, 51, 52, 53, 54, 55, 56, 57, 58, 59, 60, 61, 62, 63, 64, 65, 66, 67, 68, 10, 69, 70, 71, 72, 73, 74, 75, 76, 77, 78, 79, 80, 81, 82, 83, 84, 85, 86, 87, 88, 89, 90, 91, 92, 93, 107, 108, 109, 110, 111, 112, 113, 114, 115, 116, 117, 118, 119, 120, 123, 124, 125, 126, 127, 128, 129, 130, 131, 132, 133, 134] (by decide +kernel) (by decide +kernel)
set_option maxRecDepth 20000 in
theorem gX6_init_X4_init : GoodIn wsX6_init (wsX4_init) := ggX6_init_X4_init
set_option maxRecDepth 20000 in
theorem ggX6_init_X0_init : GoodIn wsX6_init wsX0_init := goodIn_r _ [96, 97, 2, 3, 98, 21, 99, 100, 121, 122] (by decide +kernel) (by decide +kernel)
set_option maxRecDepth 20000 in
theorem gX6_init_X0_init : GoodIn wsX6_init (wsX0_init) := ggX6_init_X0_init
theorem dX6_init_0 : decode cX6_init 0 = .ok (.aload_n 0, 1) := by decide +kernel
theorem dX6_init_1 : decode cX6_init 1 = .ok (.invokespecial 1, 3) := by decide +kernel
theorem dX6_init_4 : decode cX6_init 4 = .ok (.aload_n 0, 1) := by decide +kernel
theorem dX6_init_5 : decode cX6_init 5 = .ok (.new 7, 3) := by decide +kernel
theorem dX6_init_8 : decode cX6_init 8 = .ok (.dup, 1) := by decide +kernel
theorem dX6_init_9 : decode cX6_init 9 = .ok (.invokespecial 9, 3) := by decide +kernel
theorem dX6_init_12 : decode cX6_init 12 = .ok (.putfield 10, 3) := by decide +kernel
theorem dX6_init_15 : decode cX6_init 15 = .ok (.aload_n 0, 1) := by decide +kernel
theorem dX6_init_16 : decode cX6_init 16 = .ok (.new 16, 3) := by decide +kernel
theorem dX6_init_19 : decode cX6_init 19 = .ok (.dup, 1) := by decide +kernel
theorem dX6_init_20 : decode cX6_init 20 = .ok (.aload_n 0, 1) := by decide +kernel
theorem dX6_init_21 : decode cX6_init 21 = .ok (.getfield 10, 3) := by decide +kernel
theorem dX6_init_24 : decode cX6_init 24 = .ok (.invokespecial 18, 3) := by decide +kernel
theorem dX6_init_27 : decode cX6_init 27 = .ok (.putfield 21, 3) := by decide +kernel
theorem dX6_init_30 : decode cX6_init 30 = .ok (.aload_n 0, 1) := by decide +kernel
theorem dX6_init_31 : decode cX6_init 31 = .ok (.new 16, 3) := by decide +kernel
theorem dX6_init_34 : decode cX6_init 34 = .ok (.dup, 1) := by decide +kernel
theorem dX6_init_35 : decode cX6_init 35 = .ok (.aload_n 0, 1) := by decide +kernel
theorem dX6_init_36 : decode cX6_init 36 = .ok (.getfield 10, 3) := by decide +kernel
theorem dX6_init_39 : decode cX6_init 39 = .ok (.invokespecial 18, 3) := by decide +kernel
theorem dX6_init_42 : decode cX6_init 42 = .ok (.putfield 25, 3) := by decide +kernel
theorem dX6_init_45 : decode cX6_init 45 = .ok (.aload_n 0, 1) := by decide +kernel
theorem dX6_init_46 : decode cX6_init 46 = .ok (.new 28, 3) := by decide +kernel
theorem dX6_init_49 : decode cX6_init 49 = .ok (.dup, 1) := by decide +kernel
theorem dX6_init_50 : decode cX6_init 50 = .ok (.invokespecial 30, 3) := by decide +kernel
theorem dX6_init_53 : decode cX6_init 53 = .ok (.putfield 31, 3) := by decide +kernel
theorem dX6_init_56 : decode cX6_init 56 = .ok (.return_, 1) := by decide +kernel
set_option maxRecDepth 20000 in
theorem ggX6_setting_X5_allows : GoodIn wsX6_setting wsX5_allows := goodIn_r _ [6, 7, 8, 9, 10, 11, 12, 21, 22] (by decide +kernel) (by decide +kernel)
set_option maxRecDepth 20000 in
theorem gX6_setting_X5_allows : GoodIn wsX6_setting (wsV RX6 35 RX5 yX5_allows wsX5_allows) := goodIn_app (goodIn_of _ (by decide +kernel)) ggX6_setting_X5_allows
set_option maxRecDepth 20000 in
theorem ggX6_setting_X5_change : GoodIn wsX6_setting wsX5_change := goodIn_r _ [16, 9, 10, 11, 12, 21, 22] (by decide +kernel) (by decide +kernel)
set_option maxRecDepth 20000 in
theorem gX6_setting_X5_change : GoodIn wsX6_setting (wsV RX6 39 RX5 yX5_change wsX5_change) := goodIn_app (goodIn_of _ (by decide +kernel)) ggX6_setting_X5_change
theorem dX6_setting_0 : decode cX6_setting 0 = .ok (.aload_n 0, 1) := by decide +kernel
theorem dX6_setting_1 : decode cX6_setting 1 = .ok (.getfield 10, 3) := by decide +kernel
theorem dX6_setting_4 : decode cX6_setting 4 = .ok (.iload_n 1, 1) := by decide +kernel
theorem dX6_setting_5 : decode cX6_setting 5 = .ok (.iload_n 2, 1) := by decide +kernel
theorem dX6_setting_6 : decode cX6_setting 6 = .ok (.invokevirtual 35, 3) := by decide +kernel
theorem dX6_setting_9 : decode cX6_setting 9 = .ok (.ifCond .eq 15, 3) := by decide +kernel
theorem dX6_setting_12 : decode cX6_setting 12 = .ok (.aload_n 0, 1) := by decide +kernel
theorem dX6_setting_13 : decode cX6_setting 13 = .ok (.getfield 10, 3) := by decide +kernel
theorem dX6_setting_16 : decode cX6_setting 16 = .ok (.iload_n 1, 1) := by decide +kernel
theorem dX6_setting_17 : decode cX6_setting 17 = .ok (.iload_n 2, 1) := by decide +kernel
theorem dX6_setting_18 : decode cX6_setting 18 = .ok (.invokevirtual 39, 3) := by decide +kernel
theorem dX6_setting_21 : decode cX6_setting 21 = .ok (.goto 6, 3) := by decide +kernel
theorem dX6_setting_24 : decode cX6_setting 24 = .ok (.sipush (-1002), 3) := by decide +kernel
theorem dX6_setting_27 : decode cX6_setting 27 = .ok (.ireturn, 1) := by decide +kernel
set_option maxRecDepth 20000 in
theorem ggX6_told_X5_value : GoodIn wsX6_told wsX5_value := goodIn_r _ [6, 7, 8, 9, 10, 15, 16] (by decide +kernel) (by decide +kernel)
set_option maxRecDepth 20000 in
theorem gX6_told_X5_value : GoodIn wsX6_told (wsV RX6 43 RX5 yX5_value wsX5_value) := goodIn_app (goodIn_of _ (by decide +kernel)) ggX6_told_X5_value
theorem dX6_told_0 : decode cX6_told 0 = .ok (.aload_n 0, 1) := by decide +kernel
theorem dX6_told_1 : decode cX6_told 1 = .ok (.getfield 10, 3) := by decide +kernel
theorem dX6_told_4 : decode cX6_told 4 = .ok (.iload_n 1, 1) := by decide +kernel
theorem dX6_told_5 : decode cX6_told 5 = .ok (.invokevirtual 43, 3) := by decide +kernel
theorem dX6_told_8 : decode cX6_told 8 = .ok (.ireturn, 1) := by decide +kernel
set_option maxRecDepth 20000 in
theorem ggX6_load_X6_within : GoodIn wsX6_load wsX6_within := goodIn_r _ [5] (by decide +kernel) (by decide +kernel)
set_option maxRecDepth 20000 in
theorem gX6_load_X6_within : GoodIn wsX6_load (va_wsS RX6 47 yX6_within wsX6_within) := goodIn_app (goodIn_of _ (by decide +kernel)) ggX6_load_X6_within
set_option maxRecDepth 20000 in
theorem ggX6_load_X4_changeLoad : GoodIn wsX6_load wsX4_changeLoad := goodIn_r _ [10, 11, 3, 4, 5, 16, 17, 18, 19, 20, 21, 22, 23, 24, 25, 26, 27, 28, 29] (by decide +kernel) (by decide +kernel)
set_option maxRecDepth 20000 in
theorem gX6_load_X4_changeLoad : GoodIn wsX6_load (wsV RX6 55 RX4 yX4_changeLoad wsX4_changeLoad) := goodIn_app (goodIn_of _ (by decide +kernel)) ggX6_load_X4_changeLoad
theorem dX6_load_0 : decode cX6_load 0 = .ok (.iload_n 1, 1) := by decide +kernel
theorem dX6_load_1 : decode cX6_load 1 = .ok (.iconst 0, 1) := by decide +kernel
theorem dX6_load_2 : decode cX6_load 2 = .ok (.sipush 199, 3) := by decide +kernel
theorem dX6_load_5 : decode cX6_load 5 = .ok (.invokestatic 47, 3) := by decide +kernel
theorem dX6_load_8 : decode cX6_load 8 = .ok (.ifCond .eq 13, 3) := by decide +kernel
theorem dX6_load_11 : decode cX6_load 11 = .ok (.iload_n 2, 1) := by decide +kernel
theorem dX6_load_12 : decode cX6_load 12 = .ok (.iconst 0, 1) := by decide +kernel
theorem dX6_load_13 : decode cX6_load 13 = .ok (.bipush 60, 2) := by decide +kernel
theorem dX6_load_15 : decode cX6_load 15 = .ok (.invokestatic 47, 3) := by decide +kernel
theorem dX6_load_18 : decode cX6_load 18 = .ok (.ifCond .ne 7, 3) := by decide +kernel
theorem dX6_load_21 : decode cX6_load 21 = .ok (.sipush (-1002), 3) := by decide +kernel
theorem dX6_load_24 : decode cX6_load 24 = .ok (.ireturn, 1) := by decide +kernel
theorem dX6_load_25 : decode cX6_load 25 = .ok (.iload_n 1, 1) := by decide +kernel
theorem dX6_load_26 : decode cX6_load 26 = .ok (.aload_n 0, 1) := by decide +kernel
theorem dX6_load_27 : decode cX6_load 27 = .ok (.getfield 21, 3) := by decide +kernel
theorem dX6_load_30 : decode cX6_load 30 = .ok (.getfield 51, 3) := by decide +kernel
theorem dX6_load_33 : decode cX6_load 33 = .ok (.if_icmp .ge 9, 3) := by decide +kernel
theorem dX6_load_36 : decode cX6_load 36 = .ok (.sipush (-1003), 3) := by decide +kernel
theorem dX6_load_39 : decode cX6_load 39 = .ok (.goto 12, 3) := by decide +kernel
theorem dX6_load_42 : decode cX6_load 42 = .ok (.aload_n 0, 1) := by decide +kernel
theorem dX6_load_43 : decode cX6_load 43 = .ok (.getfield 21, 3) := by decide +kernel
theorem dX6_load_46 : decode cX6_load 46 = .ok (.iload_n 1, 1) := by decide +kernel
theorem dX6_load_47 : decode cX6_load 47 = .ok (.iload_n 2, 1) := by decide +kernel
theorem dX6_load_48 : decode cX6_load 48 = .ok (.invokevirtual 55, 3) := by decide +kernel
theorem dX6_load_51 : decode cX6_load 51 = .ok (.ireturn, 1) := by decide +kernel
set_option maxRecDepth 20000 in
theorem ggX6_plan_X6_within : GoodIn wsX6_plan wsX6_within := goodIn_r _ [5] (by decide +kernel) (by decide +kernel)
set_option maxRecDepth 20000 in
theorem gX6_plan_X6_within : GoodIn wsX6_plan (va_wsS RX6 47 yX6_within wsX6_within) := goodIn_app (goodIn_of _ (by decide +kernel)) ggX6_plan_X6_within
set_option maxRecDepth 20000 in
theorem ggX6_plan_X5_changePlan : GoodIn wsX6_plan wsX5_changePlan := goodIn_r _ [10, 11, 3, 4, 5, 16, 17] (by decide +kernel) (by decide +kernel)
set_option maxRecDepth 20000 in
theorem gX6_plan_X5_changePlan : GoodIn wsX6_plan (wsV RX6 58 RX5 yX5_changePlan wsX5_changePlan) := goodIn_app (goodIn_of _ (by decide +kernel)) ggX6_plan_X5_changePlan
theorem dX6_plan_0 : decode cX6_plan 0 = .ok (.iload_n 1, 1) := by decide +kernel
theorem dX6_plan_1 : decode cX6_plan 1 = .ok (.iconst 0, 1) := by decide +kernel
theorem dX6_plan_2 : decode cX6_plan 2 = .ok (.bipush 23, 2) := by decide +kernel
theorem dX6_plan_4 : decode cX6_plan 4 = .ok (.invokestatic 47, 3) := by decide +kernel
theorem dX6_plan_7 : decode cX6_plan 7 = .ok (.ifCond .eq 13, 3) := by decide +kernel
theorem dX6_plan_10 : decode cX6_plan 10 = .ok (.iload_n 2, 1) := by decide +kernel
theorem dX6_plan_11 : decode cX6_plan 11 = .ok (.iconst 0, 1) := by decide +kernel
theorem dX6_plan_12 : decode cX6_plan 12 = .ok (.bipush 12, 2) := by decide +kernel
theorem dX6_plan_14 : decode cX6_plan 14 = .ok (.invokestatic 47, 3) := by decide +kernel
theorem dX6_plan_17 : decode cX6_plan 17 = .ok (.ifCond .ne 7, 3) := by decide +kernel
theorem dX6_plan_20 : decode cX6_plan 20 = .ok (.sipush (-1002), 3) := by decide +kernel
theorem dX6_plan_23 : decode cX6_plan 23 = .ok (.ireturn, 1) := by decide +kernel
theorem dX6_plan_24 : decode cX6_plan 24 = .ok (.aload_n 0, 1) := by decide +kernel
theorem dX6_plan_25 : decode cX6_plan 25 = .ok (.getfield 10, 3) := by decide +kernel
theorem dX6_plan_28 : decode cX6_plan 28 = .ok (.iload_n 1, 1) := by decide +kernel
theorem dX6_plan_29 : decode cX6_plan 29 = .ok (.iload_n 2, 1) := by decide +kernel
theorem dX6_plan_30 : decode cX6_plan 30 = .ok (.invokevirtual 58, 3) := by decide +kernel
theorem dX6_plan_33 : decode cX6_plan 33 = .ok (.ireturn, 1) := by decide +kernel
set_option maxRecDepth 20000 in
theorem ggX6_lose_X6_within : GoodIn wsX6_lose wsX6_within := goodIn_r _ [5] (by decide +kernel) (by decide +kernel)
set_option maxRecDepth 20000 in
theorem gX6_lose_X6_within : GoodIn wsX6_lose (va_wsS RX6 47 yX6_within wsX6_within) := goodIn_app (goodIn_of _ (by decide +kernel)) ggX6_lose_X6_within
set_option maxRecDepth 20000 in
theorem ggX6_lose_X4_changeMeter : GoodIn wsX6_lose wsX4_changeMeter := goodIn_r _ [10, 11, 3, 4, 5, 16, 17, 18, 19, 20, 21, 22, 23, 24, 25, 26, 27, 28, 29] (by decide +kernel) (by decide +kernel)
set_option maxRecDepth 20000 in
theorem gX6_lose_X4_changeMeter : GoodIn wsX6_lose (wsV RX6 61 RX4 yX4_changeMeter wsX4_changeMeter) := goodIn_app (goodIn_of _ (by decide +kernel)) ggX6_lose_X4_changeMeter
theorem dX6_lose_0 : decode cX6_lose 0 = .ok (.iload_n 1, 1) := by decide +kernel
theorem dX6_lose_1 : decode cX6_lose 1 = .ok (.iconst 0, 1) := by decide +kernel
theorem dX6_lose_2 : decode cX6_lose 2 = .ok (.sipush 199, 3) := by decide +kernel
theorem dX6_lose_5 : decode cX6_lose 5 = .ok (.invokestatic 47, 3) := by decide +kernel
theorem dX6_lose_8 : decode cX6_lose 8 = .ok (.ifCond .ne 7, 3) := by decide +kernel
theorem dX6_lose_11 : decode cX6_lose 11 = .ok (.sipush (-1002), 3) := by decide +kernel
theorem dX6_lose_14 : decode cX6_lose 14 = .ok (.ireturn, 1) := by decide +kernel
theorem dX6_lose_15 : decode cX6_lose 15 = .ok (.iload_n 1, 1) := by decide +kernel
theorem dX6_lose_16 : decode cX6_lose 16 = .ok (.aload_n 0, 1) := by decide +kernel
theorem dX6_lose_17 : decode cX6_lose 17 = .ok (.getfield 21, 3) := by decide +kernel
theorem dX6_lose_20 : decode cX6_lose 20 = .ok (.getfield 51, 3) := by decide +kernel
theorem dX6_lose_23 : decode cX6_lose 23 = .ok (.if_icmp .ge 9, 3) := by decide +kernel
theorem dX6_lose_26 : decode cX6_lose 26 = .ok (.sipush (-1003), 3) := by decide +kernel
theorem dX6_lose_29 : decode cX6_lose 29 = .ok (.goto 12, 3) := by decide +kernel
theorem dX6_lose_32 : decode cX6_lose 32 = .ok (.aload_n 0, 1) := by decide +kernel
theorem dX6_lose_33 : decode cX6_lose 33 = .ok (.getfield 21, 3) := by decide +kernel
theorem dX6_lose_36 : decode cX6_lose 36 = .ok (.iload_n 1, 1) := by decide +kernel
theorem dX6_lose_37 : decode cX6_lose 37 = .ok (.iload_n 2, 1) := by decide +kernel
theorem dX6_lose_38 : decode cX6_lose 38 = .ok (.invokevirtual 61, 3) := by decide +kernel
theorem dX6_lose_41 : decode cX6_lose 41 = .ok (.ireturn, 1) := by decide +kernel
set_option maxRecDepth 20000 in
theorem ggX6_tick_X6_within : GoodIn wsX6_tick wsX6_within := goodIn_r _ [5] (by decide +kernel) (by decide +kernel)
set_option maxRecDepth 20000 in
theorem gX6_tick_X6_within : GoodIn wsX6_tick (va_wsS RX6 47 yX6_within wsX6_within) := goodIn_app (goodIn_of _ (by decide +kernel)) ggX6_tick_X6_within
set_option maxRecDepth 20000 in
theorem ggX6_tick_X4_run : GoodIn wsX6_tick wsX4_run := goodIn_r _ [10, 11, 12, 13, 9, 14, 15, 16, 17, 18, 19, 20, 21, 22, 23, 24, 25, 26, 27, 3, 4, 5, 28, 29, 30, 31, 32, 33, 34, 35, 36, 37, 38, 39, 40, 41, 42, 43, 44, 45, 46, 47, 48, 49, 50, 51, 52, 53, 54, 55, 56, 57, 58, 59, 60, 61, 62, 63, 64, 65, 66, 67, 68, 69, 70, 71, 72, 73, 74, 75, 76, 77, 78, 79, 80, 81, 82, 83, 84, 85, 86, 87, 88, 89, 90, 91, 92, 93, 94, 95, 96, 97, 98, 99, 100, 101, 102, 103, 104, 105, 106, 107, 108, 109, 110, 111, 112, 113, 114, 115, 116, 117, 118, 119, 120, 121, 122, 123, 124, 125, 126, 127, 128, 129, 130, 131, 132, 133, 134, 135, 136, 137, 138, 139, 140, 141, 142, 143, 144, 145, 146, 147, 148, 149, 150, 151, 152, 153, 158, 159, 160, 161, 162, 163, 164, 165, 166, 167, 168, 169, 170, 171, 172, 173, 174, 175, 176, 177, 178, 179, 180, 181, 182, 183, 184, 185] (by decide +kernel) (by decide +kernel)
set_option maxRecDepth 20000 in
theorem gX6_tick_X4_run : GoodIn wsX6_tick (wsV RX6 65 RX4 yX4_run wsX4_run) := goodIn_app (goodIn_of _ (by decide +kernel)) ggX6_tick_X4_run
theorem dX6_tick_0 : decode cX6_tick 0 = .ok (.iload_n 1, 1) := by decide +kernel
theorem dX6_tick_1 : decode cX6_tick 1 = .ok (.iconst 0, 1) := by decide +kernel
theorem dX6_tick_2 : decode cX6_tick 2 = .ok (.sipush 200, 3) := by decide +kernel
theorem dX6_tick_5 : decode cX6_tick 5 = .ok (.invokestatic 47, 3) := by decide +kernel
theorem dX6_tick_8 : decode cX6_tick 8 = .ok (.ifCond .ne 7, 3) := by decide +kernel
theorem dX6_tick_11 : decode cX6_tick 11 = .ok (.sipush (-1002), 3) := by decide +kernel
theorem dX6_tick_14 : decode cX6_tick 14 = .ok (.ireturn, 1) := by decide +kernel
theorem dX6_tick_15 : decode cX6_tick 15 = .ok (.iload_n 1, 1) := by decide +kernel
theorem dX6_tick_16 : decode cX6_tick 16 = .ok (.sipush 200, 3) := by decide +kernel
theorem dX6_tick_19 : decode cX6_tick 19 = .ok (.aload_n 0, 1) := by decide +kernel
theorem dX6_tick_20 : decode cX6_tick 20 = .ok (.getfield 21, 3) := by decide +kernel
theorem dX6_tick_23 : decode cX6_tick 23 = .ok (.getfield 51, 3) := by decide +kernel
theorem dX6_tick_26 : decode cX6_tick 26 = .ok (.isub, 1) := by decide +kernel
theorem dX6_tick_27 : decode cX6_tick 27 = .ok (.if_icmp .le 7, 3) := by decide +kernel
theorem dX6_tick_30 : decode cX6_tick 30 = .ok (.sipush (-1003), 3) := by decide +kernel
theorem dX6_tick_33 : decode cX6_tick 33 = .ok (.ireturn, 1) := by decide +kernel
theorem dX6_tick_34 : decode cX6_tick 34 = .ok (.aload_n 0, 1) := by decide +kernel
theorem dX6_tick_35 : decode cX6_tick 35 = .ok (.getfield 21, 3) := by decide +kernel
theorem dX6_tick_38 : decode cX6_tick 38 = .ok (.iload_n 1, 1) := by decide +kernel
theorem dX6_tick_39 : decode cX6_tick 39 = .ok (.invokevirtual 65, 3) := by decide +kernel
theorem dX6_tick_42 : decode cX6_tick 42 = .ok (.aload_n 0, 1) := by decide +kernel
theorem dX6_tick_43 : decode cX6_tick 43 = .ok (.getfield 21, 3) := by decide +kernel
theorem dX6_tick_46 : decode cX6_tick 46 = .ok (.getfield 51, 3) := by decide +kernel
theorem dX6_tick_49 : decode cX6_tick 49 = .ok (.ireturn, 1) := by decide +kernel
set_option maxRecDepth 20000 in
theorem ggX6_fail_X6_within : GoodIn wsX6_fail wsX6_within := goodIn_r _ [5] (by decide +kernel) (by decide +kernel)
set_option maxRecDepth 20000 in
theorem gX6_fail_X6_within : GoodIn wsX6_fail (va_wsS RX6 47 yX6_within wsX6_within) := goodIn_app (goodIn_of _ (by decide +kernel)) ggX6_fail_X6_within
set_option maxRecDepth 20000 in
theorem ggX6_fail_X3_takeOut : GoodIn wsX6_fail wsX3_takeOut := goodIn_r _ [10, 11, 3, 4, 5, 30, 31] (by decide +kernel) (by decide +kernel)
set_option maxRecDepth 20000 in
theorem gX6_fail_X3_takeOut : GoodIn wsX6_fail (wsV RX6 73 RX3 yX3_takeOut wsX3_takeOut) := goodIn_app (goodIn_of _ (by decide +kernel)) ggX6_fail_X3_takeOut
theorem dX6_fail_0 : decode cX6_fail 0 = .ok (.iload_n 1, 1) := by decide +kernel
theorem dX6_fail_1 : decode cX6_fail 1 = .ok (.iconst 0, 1) := by decide +kernel
theorem dX6_fail_2 : decode cX6_fail 2 = .ok (.bipush 11, 2) := by decide +kernel
theorem dX6_fail_4 : decode cX6_fail 4 = .ok (.invokestatic 47, 3) := by decide +kernel
theorem dX6_fail_7 : decode cX6_fail 7 = .ok (.ifCond .ne 7, 3) := by decide +kernel
theorem dX6_fail_10 : decode cX6_fail 10 = .ok (.sipush (-1001), 3) := by decide +kernel
theorem dX6_fail_13 : decode cX6_fail 13 = .ok (.ireturn, 1) := by decide +kernel
theorem dX6_fail_14 : decode cX6_fail 14 = .ok (.iload_n 2, 1) := by decide +kernel
theorem dX6_fail_15 : decode cX6_fail 15 = .ok (.ifCond .eq 15, 3) := by decide +kernel
theorem dX6_fail_18 : decode cX6_fail 18 = .ok (.iload_n 1, 1) := by decide +kernel
theorem dX6_fail_19 : decode cX6_fail 19 = .ok (.bipush 8, 2) := by decide +kernel
theorem dX6_fail_21 : decode cX6_fail 21 = .ok (.if_icmp .ge 9, 3) := by decide +kernel
theorem dX6_fail_24 : decode cX6_fail 24 = .ok (.sipush (-1003), 3) := by decide +kernel
theorem dX6_fail_27 : decode cX6_fail 27 = .ok (.goto 14, 3) := by decide +kernel
theorem dX6_fail_30 : decode cX6_fail 30 = .ok (.aload_n 0, 1) := by decide +kernel
theorem dX6_fail_31 : decode cX6_fail 31 = .ok (.getfield 21, 3) := by decide +kernel
theorem dX6_fail_34 : decode cX6_fail 34 = .ok (.getfield 69, 3) := by decide +kernel
theorem dX6_fail_37 : decode cX6_fail 37 = .ok (.iload_n 1, 1) := by decide +kernel
theorem dX6_fail_38 : decode cX6_fail 38 = .ok (.invokevirtual 73, 3) := by decide +kernel
theorem dX6_fail_41 : decode cX6_fail 41 = .ok (.ireturn, 1) := by decide +kernel
set_option maxRecDepth 20000 in
theorem ggX6_again_X4_begin : GoodIn wsX6_again wsX4_begin := goodIn_r _ [6, 7, 8, 9, 10, 11, 12, 13, 14, 15, 16, 17, 18, 19, 20, 21, 22, 23, 24, 25, 26, 27, 28, 29, 30, 31, 32, 33, 34, 35, 36, 37, 42, 43, 44, 45, 46, 47, 48, 49, 50, 51, 52, 53, 54, 55, 56, 57, 58, 59, 60, 61, 62, 63, 64, 65, 66, 67] (by decide +kernel) (by decide +kernel)
set_option maxRecDepth 20000 in
theorem gX6_again_X4_begin : GoodIn wsX6_again (wsV RX6 78 RX4 yX4_begin wsX4_begin) := goodIn_app (goodIn_of _ (by decide +kernel)) ggX6_again_X4_begin
theorem dX6_again_0 : decode cX6_again 0 = .ok (.aload_n 0, 1) := by decide +kernel
theorem dX6_again_1 : decode cX6_again 1 = .ok (.getfield 21, 3) := by decide +kernel
theorem dX6_again_4 : decode cX6_again 4 = .ok (.getfield 51, 3) := by decide +kernel
theorem dX6_again_7 : decode cX6_again 7 = .ok (.istore_n 1, 1) := by decide +kernel
theorem dX6_again_8 : decode cX6_again 8 = .ok (.aload_n 0, 1) := by decide +kernel
theorem dX6_again_9 : decode cX6_again 9 = .ok (.getfield 21, 3) := by decide +kernel
theorem dX6_again_12 : decode cX6_again 12 = .ok (.invokevirtual 78, 3) := by decide +kernel
theorem dX6_again_15 : decode cX6_again 15 = .ok (.iload_n 1, 1) := by decide +kernel
theorem dX6_again_16 : decode cX6_again 16 = .ok (.ireturn, 1) := by decide +kernel
set_option maxRecDepth 20000 in
theorem ggX6_server_X6_within : GoodIn wsX6_server wsX6_within := goodIn_r _ [5] (by decide +kernel) (by decide +kernel)
set_option maxRecDepth 20000 in
theorem gX6_server_X6_within : GoodIn wsX6_server (va_wsS RX6 47 yX6_within wsX6_within) := goodIn_app (goodIn_of _ (by decide +kernel)) ggX6_server_X6_within
set_option maxRecDepth 20000 in
theorem ggX6_server_X3_stateOf : GoodIn wsX6_server wsX3_stateOf := goodIn_r _ [10, 11, 3, 4, 5, 35, 36] (by decide +kernel) (by decide +kernel)
set_option maxRecDepth 20000 in
theorem gX6_server_X3_stateOf : GoodIn wsX6_server (wsV RX6 81 RX3 yX3_stateOf wsX3_stateOf) := goodIn_app (goodIn_of _ (by decide +kernel)) ggX6_server_X3_stateOf
set_option maxRecDepth 20000 in
theorem ggX6_server_X3_ticksBehind : GoodIn wsX6_server wsX3_ticksBehind := goodIn_r _ [15, 11, 16, 3, 4, 5, 35, 36] (by decide +kernel) (by decide +kernel)
set_option maxRecDepth 20000 in
theorem gX6_server_X3_ticksBehind : GoodIn wsX6_server (wsV RX6 84 RX3 yX3_ticksBehind wsX3_ticksBehind) := goodIn_app (goodIn_of _ (by decide +kernel)) ggX6_server_X3_ticksBehind
theorem dX6_server_0 : decode cX6_server 0 = .ok (.iload_n 1, 1) := by decide +kernel
theorem dX6_server_1 : decode cX6_server 1 = .ok (.iconst 0, 1) := by decide +kernel
theorem dX6_server_2 : decode cX6_server 2 = .ok (.bipush 11, 2) := by decide +kernel
theorem dX6_server_4 : decode cX6_server 4 = .ok (.invokestatic 47, 3) := by decide +kernel
theorem dX6_server_7 : decode cX6_server 7 = .ok (.ifCond .ne 7, 3) := by decide +kernel
theorem dX6_server_10 : decode cX6_server 10 = .ok (.sipush (-1001), 3) := by decide +kernel
theorem dX6_server_13 : decode cX6_server 13 = .ok (.ireturn, 1) := by decide +kernel
theorem dX6_server_14 : decode cX6_server 14 = .ok (.iload_n 2, 1) := by decide +kernel
theorem dX6_server_15 : decode cX6_server 15 = .ok (.iconst 0, 1) := by decide +kernel
theorem dX6_server_16 : decode cX6_server 16 = .ok (.iconst 1, 1) := by decide +kernel
theorem dX6_server_17 : decode cX6_server 17 = .ok (.invokestatic 47, 3) := by decide +kernel
theorem dX6_server_20 : decode cX6_server 20 = .ok (.ifCond .ne 7, 3) := by decide +kernel
theorem dX6_server_23 : decode cX6_server 23 = .ok (.sipush (-1002), 3) := by decide +kernel
theorem dX6_server_26 : decode cX6_server 26 = .ok (.ireturn, 1) := by decide +kernel
theorem dX6_server_27 : decode cX6_server 27 = .ok (.iload_n 2, 1) := by decide +kernel
theorem dX6_server_28 : decode cX6_server 28 = .ok (.ifCond .ne 17, 3) := by decide +kernel
theorem dX6_server_31 : decode cX6_server 31 = .ok (.aload_n 0, 1) := by decide +kernel
theorem dX6_server_32 : decode cX6_server 32 = .ok (.getfield 21, 3) := by decide +kernel
theorem dX6_server_35 : decode cX6_server 35 = .ok (.getfield 69, 3) := by decide +kernel
theorem dX6_server_38 : decode cX6_server 38 = .ok (.iload_n 1, 1) := by decide +kernel
theorem dX6_server_39 : decode cX6_server 39 = .ok (.invokevirtual 81, 3) := by decide +kernel
theorem dX6_server_42 : decode cX6_server 42 = .ok (.goto 21, 3) := by decide +kernel
theorem dX6_server_45 : decode cX6_server 45 = .ok (.aload_n 0, 1) := by decide +kernel
theorem dX6_server_46 : decode cX6_server 46 = .ok (.getfield 21, 3) := by decide +kernel
theorem dX6_server_49 : decode cX6_server 49 = .ok (.getfield 69, 3) := by decide +kernel
theorem dX6_server_52 : decode cX6_server 52 = .ok (.iload_n 1, 1) := by decide +kernel
theorem dX6_server_53 : decode cX6_server 53 = .ok (.aload_n 0, 1) := by decide +kernel
theorem dX6_server_54 : decode cX6_server 54 = .ok (.getfield 21, 3) := by decide +kernel
theorem dX6_server_57 : decode cX6_server 57 = .ok (.getfield 51, 3) := by decide +kernel
theorem dX6_server_60 : decode cX6_server 60 = .ok (.invokevirtual 84, 3) := by decide +kernel
theorem dX6_server_63 : decode cX6_server 63 = .ok (.ireturn, 1) := by decide +kernel
set_option maxRecDepth 20000 in
theorem ggX6_now_X4_figure : GoodIn wsX6_now wsX4_figure := goodIn_r _ [6, 7, 8, 9, 10, 11, 12, 13, 14, 15, 16, 17, 18, 19, 20, 21, 22, 23, 24, 25, 26, 27, 32, 33, 34, 35, 36, 37, 38, 39, 40, 41, 42, 43, 44, 45, 46, 47, 48, 49, 50, 51, 52, 53, 54, 55, 56, 57] (by decide +kernel) (by decide +kernel)
set_option maxRecDepth 20000 in
theorem gX6_now_X4_figure : GoodIn wsX6_now (wsV RX6 87 RX4 yX4_figure wsX4_figure) := goodIn_app (goodIn_of _ (by decide +kernel)) ggX6_now_X4_figure
theorem dX6_now_0 : decode cX6_now 0 = .ok (.aload_n 0, 1) := by decide +kernel
theorem dX6_now_1 : decode cX6_now 1 = .ok (.getfield 21, 3) := by decide +kernel
theorem dX6_now_4 : decode cX6_now 4 = .ok (.iload_n 1, 1) := by decide +kernel
theorem dX6_now_5 : decode cX6_now 5 = .ok (.invokevirtual 87, 3) := by decide +kernel
theorem dX6_now_8 : decode cX6_now 8 = .ok (.ireturn, 1) := by decide +kernel
set_option maxRecDepth 20000 in
theorem ggX6_was_X6_within : GoodIn wsX6_was wsX6_within := goodIn_r _ [5] (by decide +kernel) (by decide +kernel)
set_option maxRecDepth 20000 in
theorem gX6_was_X6_within : GoodIn wsX6_was (va_wsS RX6 47 yX6_within wsX6_within) := goodIn_app (goodIn_of _ (by decide +kernel)) ggX6_was_X6_within
set_option maxRecDepth 20000 in
theorem ggX6_was_X4_kept : GoodIn wsX6_was wsX4_kept := goodIn_r _ [10, 11, 3, 4, 5, 16, 17, 18, 19, 20, 21, 22, 23, 24, 25, 26, 27, 28, 29] (by decide +kernel) (by decide +kernel)
set_option maxRecDepth 20000 in
theorem gX6_was_X4_kept : GoodIn wsX6_was (wsV RX6 90 RX4 yX4_kept wsX4_kept) := goodIn_app (goodIn_of _ (by decide +kernel)) ggX6_was_X4_kept
theorem dX6_was_0 : decode cX6_was 0 = .ok (.iload_n 1, 1) := by decide +kernel
theorem dX6_was_1 : decode cX6_was 1 = .ok (.iconst 0, 1) := by decide +kernel
theorem dX6_was_2 : decode cX6_was 2 = .ok (.sipush 199, 3) := by decide +kernel
theorem dX6_was_5 : decode cX6_was 5 = .ok (.invokestatic 47, 3) := by decide +kernel
theorem dX6_was_8 : decode cX6_was 8 = .ok (.ifCond .eq 12, 3) := by decide +kernel
theorem dX6_was_11 : decode cX6_was 11 = .ok (.iload_n 2, 1) := by decide +kernel
theorem dX6_was_12 : decode cX6_was 12 = .ok (.iconst 0, 1) := by decide +kernel
theorem dX6_was_13 : decode cX6_was 13 = .ok (.iconst 5, 1) := by decide +kernel
theorem dX6_was_14 : decode cX6_was 14 = .ok (.invokestatic 47, 3) := by decide +kernel
theorem dX6_was_17 : decode cX6_was 17 = .ok (.ifCond .ne 7, 3) := by decide +kernel
theorem dX6_was_20 : decode cX6_was 20 = .ok (.sipush (-1002), 3) := by decide +kernel
theorem dX6_was_23 : decode cX6_was 23 = .ok (.ireturn, 1) := by decide +kernel
theorem dX6_was_24 : decode cX6_was 24 = .ok (.iload_n 1, 1) := by decide +kernel
theorem dX6_was_25 : decode cX6_was 25 = .ok (.aload_n 0, 1) := by decide +kernel
theorem dX6_was_26 : decode cX6_was 26 = .ok (.getfield 21, 3) := by decide +kernel
theorem dX6_was_29 : decode cX6_was 29 = .ok (.getfield 51, 3) := by decide +kernel
theorem dX6_was_32 : decode cX6_was 32 = .ok (.if_icmp .lt 9, 3) := by decide +kernel
theorem dX6_was_35 : decode cX6_was 35 = .ok (.sipush (-1003), 3) := by decide +kernel
theorem dX6_was_38 : decode cX6_was 38 = .ok (.goto 12, 3) := by decide +kernel
theorem dX6_was_41 : decode cX6_was 41 = .ok (.aload_n 0, 1) := by decide +kernel
theorem dX6_was_42 : decode cX6_was 42 = .ok (.getfield 21, 3) := by decide +kernel
theorem dX6_was_45 : decode cX6_was 45 = .ok (.iload_n 1, 1) := by decide +kernel
theorem dX6_was_46 : decode cX6_was 46 = .ok (.iload_n 2, 1) := by decide +kernel
theorem dX6_was_47 : decode cX6_was 47 = .ok (.invokevirtual 90, 3) := by decide +kernel
theorem dX6_was_50 : decode cX6_was 50 = .ok (.ireturn, 1) := by decide +kernel
set_option maxRecDepth 20000 in
theorem ggX6_hindsight_X6_within : GoodIn wsX6_hindsight wsX6_within := goodIn_r _ [7] (by decide +kernel) (by decide +kernel)
set_option maxRecDepth 20000 in
theorem gX6_hindsight_X6_within : GoodIn wsX6_hindsight (va_wsS RX6 47 yX6_within wsX6_within) := goodIn_app (goodIn_of _ (by decide +kernel)) ggX6_hindsight_X6_within
set_option maxRecDepth 20000 in
theorem ggX6_hindsight_X0_leastBill : GoodIn wsX6_hindsight wsX0_leastBill := goodIn_r _ [12, 13, 14, 15, 16, 17, 18, 19, 20, 21, 11, 22, 23, 24, 25, 26, 27, 28, 29, 30, 31, 32, 33, 34, 35, 5, 6, 7, 36, 37, 38, 39, 40, 41, 42, 43, 44, 45, 46, 47, 48, 49, 50, 51, 56, 57, 58, 59, 60, 61, 62, 63, 64, 65, 66, 67, 68, 69, 70, 71, 72, 73] (by decide +kernel) (by decide +kernel)
set_option maxRecDepth 20000 in
theorem gX6_hindsight_X0_leastBill : GoodIn wsX6_hindsight (wsV RX6 93 RX0 yX0_leastBill wsX0_leastBill) := goodIn_app (goodIn_of _ (by decide +kernel)) ggX6_hindsight_X0_leastBill
theorem dX6_hindsight_0 : decode cX6_hindsight 0 = .ok (.iload_n 1, 1) := by decide +kernel
theorem dX6_hindsight_1 : decode cX6_hindsight 1 = .ok (.iconst 1, 1) := by decide +kernel
theorem dX6_hindsight_2 : decode cX6_hindsight 2 = .ok (.bipush 24, 2) := by decide +kernel
theorem dX6_hindsight_4 : decode cX6_hindsight 4 = .ok (.invokestatic 47, 3) := by decide +kernel
theorem dX6_hindsight_7 : decode cX6_hindsight 7 = .ok (.ifCond .eq 22, 3) := by decide +kernel
theorem dX6_hindsight_10 : decode cX6_hindsight 10 = .ok (.aload_n 0, 1) := by decide +kernel
theorem dX6_hindsight_11 : decode cX6_hindsight 11 = .ok (.getfield 31, 3) := by decide +kernel
theorem dX6_hindsight_14 : decode cX6_hindsight 14 = .ok (.aload_n 0, 1) := by decide +kernel
theorem dX6_hindsight_15 : decode cX6_hindsight 15 = .ok (.getfield 10, 3) := by decide +kernel
theorem dX6_hindsight_18 : decode cX6_hindsight 18 = .ok (.aload_n 0, 1) := by decide +kernel
theorem dX6_hindsight_19 : decode cX6_hindsight 19 = .ok (.getfield 21, 3) := by decide +kernel
theorem dX6_hindsight_22 : decode cX6_hindsight 22 = .ok (.iload_n 1, 1) := by decide +kernel
theorem dX6_hindsight_23 : decode cX6_hindsight 23 = .ok (.invokevirtual 93, 3) := by decide +kernel
theorem dX6_hindsight_26 : decode cX6_hindsight 26 = .ok (.goto 6, 3) := by decide +kernel
theorem dX6_hindsight_29 : decode cX6_hindsight 29 = .ok (.sipush (-1002), 3) := by decide +kernel
theorem dX6_hindsight_32 : decode cX6_hindsight 32 = .ok (.ireturn, 1) := by decide +kernel
set_option maxRecDepth 20000 in
theorem ggX6_worst_X6_within : GoodIn wsX6_worst wsX6_within := goodIn_r _ [5] (by decide +kernel) (by decide +kernel)
set_option maxRecDepth 20000 in
theorem gX6_worst_X6_within : GoodIn wsX6_worst (va_wsS RX6 47 yX6_within wsX6_within) := goodIn_app (goodIn_of _ (by decide +kernel)) ggX6_worst_X6_within
set_option maxRecDepth 20000 in
theorem ggX6_worst_X6_rowAt : GoodIn wsX6_worst wsX6_rowAt := goodIn_r _ [8] (by decide +kernel) (by decide +kernel)
set_option maxRecDepth 20000 in
theorem gX6_worst_X6_rowAt : GoodIn wsX6_worst (va_wsS RX6 97 yX6_rowAt wsX6_rowAt) := goodIn_app (goodIn_of _ (by decide +kernel)) ggX6_worst_X6_rowAt
set_option maxRecDepth 20000 in
theorem ggX6_worst_X4_lostUnder : GoodIn wsX6_worst wsX4_lostUnder := goodIn_r _ [13, 14, 15, 16, 17, 12, 18, 19, 20, 21, 22, 23, 24, 25, 26, 27, 28, 29, 30, 31, 32, 33, 34, 35, 36, 37, 38, 39, 40, 41, 42, 43, 44, 45, 46, 47, 48, 49, 50, 51, 52, 53, 3, 4, 5, 54, 55, 56, 57, 58, 59, 60, 61, 62, 63, 64, 65, 66, 67, 68, 69, 70, 71, 72, 73, 74, 75, 76, 77, 78, 79, 80, 81, 82, 83, 84, 85, 86, 87, 88, 89, 90, 91, 92, 93, 94, 95, 96, 97, 98, 99, 100, 101, 102, 103, 104, 105, 106, 107, 108, 109, 110, 111, 112, 113, 114, 115, 116, 117, 118, 119, 120, 121, 122, 123, 124, 125, 126, 127, 128, 129, 130, 131, 132, 133, 134, 135, 136, 137, 138, 139, 140, 141, 142, 143, 144, 145, 146, 147, 148, 149, 150, 151, 152, 153, 154, 155, 156, 157, 158, 159, 160, 161, 162, 163, 164, 165, 166, 167, 168, 169, 170, 171, 172, 173, 174, 175, 176, 177, 178, 179, 180, 185, 186, 187, 188, 189, 190, 191, 192, 193, 194, 195, 196, 197, 198, 199, 200, 201, 202, 203, 204, 205, 206, 207, 208, 209, 210, 211, 212] (by decide +kernel) (by decide +kernel)
set_option maxRecDepth 20000 in
theorem gX6_worst_X4_lostUnder : GoodIn wsX6_worst (wsV RX6 100 RX4 yX4_lostUnder wsX4_lostUnder) := goodIn_app (goodIn_of _ (by decide +kernel)) ggX6_worst_X4_lostUnder
theorem dX6_worst_0 : decode cX6_worst 0 = .ok (.iload_n 1, 1) := by decide +kernel
theorem dX6_worst_1 : decode cX6_worst 1 = .ok (.iconst 1, 1) := by decide +kernel
theorem dX6_worst_2 : decode cX6_worst 2 = .ok (.bipush 6, 2) := by decide +kernel
theorem dX6_worst_4 : decode cX6_worst 4 = .ok (.invokestatic 47, 3) := by decide +kernel
theorem dX6_worst_7 : decode cX6_worst 7 = .ok (.ifCond .eq 22, 3) := by decide +kernel
theorem dX6_worst_10 : decode cX6_worst 10 = .ok (.iload_n 2, 1) := by decide +kernel
theorem dX6_worst_11 : decode cX6_worst 11 = .ok (.iconst 1, 1) := by decide +kernel
theorem dX6_worst_12 : decode cX6_worst 12 = .ok (.bipush 60, 2) := by decide +kernel
theorem dX6_worst_14 : decode cX6_worst 14 = .ok (.invokestatic 47, 3) := by decide +kernel
theorem dX6_worst_17 : decode cX6_worst 17 = .ok (.ifCond .eq 12, 3) := by decide +kernel
theorem dX6_worst_20 : decode cX6_worst 20 = .ok (.iload_n 3, 1) := by decide +kernel
theorem dX6_worst_21 : decode cX6_worst 21 = .ok (.iconst 0, 1) := by decide +kernel
theorem dX6_worst_22 : decode cX6_worst 22 = .ok (.iconst 1, 1) := by decide +kernel
theorem dX6_worst_23 : decode cX6_worst 23 = .ok (.invokestatic 47, 3) := by decide +kernel
theorem dX6_worst_26 : decode cX6_worst 26 = .ok (.ifCond .ne 7, 3) := by decide +kernel
theorem dX6_worst_29 : decode cX6_worst 29 = .ok (.sipush (-1002), 3) := by decide +kernel
theorem dX6_worst_32 : decode cX6_worst 32 = .ok (.ireturn, 1) := by decide +kernel
theorem dX6_worst_33 : decode cX6_worst 33 = .ok (.iconst (-1), 1) := by decide +kernel
theorem dX6_worst_34 : decode cX6_worst 34 = .ok (.istore 4, 2) := by decide +kernel
theorem dX6_worst_36 : decode cX6_worst 36 = .ok (.iconst 0, 1) := by decide +kernel
theorem dX6_worst_37 : decode cX6_worst 37 = .ok (.istore 5, 2) := by decide +kernel
theorem dX6_worst_39 : decode cX6_worst 39 = .ok (.iconst 0, 1) := by decide +kernel
theorem dX6_worst_40 : decode cX6_worst 40 = .ok (.istore 6, 2) := by decide +kernel
theorem dX6_worst_42 : decode cX6_worst 42 = .ok (.iload 6, 2) := by decide +kernel
theorem dX6_worst_44 : decode cX6_worst 44 = .ok (.iconst 1, 1) := by decide +kernel
theorem dX6_worst_45 : decode cX6_worst 45 = .ok (.iload_n 1, 1) := by decide +kernel
theorem dX6_worst_46 : decode cX6_worst 46 = .ok (.ishl, 1) := by decide +kernel
theorem dX6_worst_47 : decode cX6_worst 47 = .ok (.if_icmp .ge 45, 3) := by decide +kernel
theorem dX6_worst_50 : decode cX6_worst 50 = .ok (.iload 6, 2) := by decide +kernel
theorem dX6_worst_52 : decode cX6_worst 52 = .ok (.iload_n 1, 1) := by decide +kernel
theorem dX6_worst_53 : decode cX6_worst 53 = .ok (.invokestatic 97, 3) := by decide +kernel
theorem dX6_worst_56 : decode cX6_worst 56 = .ok (.istore 7, 2) := by decide +kernel
theorem dX6_worst_58 : decode cX6_worst 58 = .ok (.aload_n 0, 1) := by decide +kernel
theorem dX6_worst_59 : decode cX6_worst 59 = .ok (.getfield 25, 3) := by decide +kernel
theorem dX6_worst_62 : decode cX6_worst 62 = .ok (.iload 7, 2) := by decide +kernel
theorem dX6_worst_64 : decode cX6_worst 64 = .ok (.iload_n 1, 1) := by decide +kernel
theorem dX6_worst_65 : decode cX6_worst 65 = .ok (.iload_n 2, 1) := by decide +kernel
theorem dX6_worst_66 : decode cX6_worst 66 = .ok (.invokevirtual 100, 3) := by decide +kernel
theorem dX6_worst_69 : decode cX6_worst 69 = .ok (.istore 8, 2) := by decide +kernel
theorem dX6_worst_71 : decode cX6_worst 71 = .ok (.iload 8, 2) := by decide +kernel
theorem dX6_worst_73 : decode cX6_worst 73 = .ok (.iload 4, 2) := by decide +kernel
theorem dX6_worst_75 : decode cX6_worst 75 = .ok (.if_icmp .le 11, 3) := by decide +kernel
theorem dX6_worst_78 : decode cX6_worst 78 = .ok (.iload 8, 2) := by decide +kernel
theorem dX6_worst_80 : decode cX6_worst 80 = .ok (.istore 4, 2) := by decide +kernel
theorem dX6_worst_82 : decode cX6_worst 82 = .ok (.iload 7, 2) := by decide +kernel
theorem dX6_worst_84 : decode cX6_worst 84 = .ok (.istore 5, 2) := by decide +kernel
theorem dX6_worst_86 : decode cX6_worst 86 = .ok (.iinc 6 1, 3) := by decide +kernel
theorem dX6_worst_89 : decode cX6_worst 89 = .ok (.goto (-47), 3) := by decide +kernel
theorem dX6_worst_92 : decode cX6_worst 92 = .ok (.iload_n 3, 1) := by decide +kernel
theorem dX6_worst_93 : decode cX6_worst 93 = .ok (.ifCond .ne 8, 3) := by decide +kernel
theorem dX6_worst_96 : decode cX6_worst 96 = .ok (.iload 4, 2) := by decide +kernel
theorem dX6_worst_98 : decode cX6_worst 98 = .ok (.goto 5, 3) := by decide +kernel
theorem dX6_worst_101 : decode cX6_worst 101 = .ok (.iload 5, 2) := by decide +kernel
theorem dX6_worst_103 : decode cX6_worst 103 = .ok (.ireturn, 1) := by decide +kernel
set_option maxRecDepth 20000 in
theorem ggX6_swing_X6_within : GoodIn wsX6_swing wsX6_within := goodIn_r _ [5] (by decide +kernel) (by decide +kernel)
set_option maxRecDepth 20000 in
theorem gX6_swing_X6_within : GoodIn wsX6_swing (va_wsS RX6 47 yX6_within wsX6_within) := goodIn_app (goodIn_of _ (by decide +kernel)) ggX6_swing_X6_within
set_option maxRecDepth 20000 in
theorem ggX6_swing_X4_runSteady : GoodIn wsX6_swing wsX4_runSteady := goodIn_r _ [10, 11, 12, 13, 9, 14, 15, 16, 17, 18, 19, 20, 21, 22, 23, 24, 25, 26, 27, 28, 29, 30, 31, 32, 33, 34, 35, 36, 37, 38, 39, 40, 41, 42, 43, 44, 45, 46, 47, 48, 49, 50, 3, 4, 5, 51, 52, 53, 54, 55, 56, 57, 58, 59, 60, 61, 62, 63, 64, 65, 66, 67, 68, 69, 70, 71, 72, 73, 74, 75, 76, 77, 78, 79, 80, 81, 82, 83, 84, 85, 86, 87, 88, 89, 90, 91, 92, 93, 94, 95, 96, 97, 98, 99, 100, 101, 102, 103, 104, 105, 106, 107, 108, 109, 110, 111, 112, 113, 114, 115, 116, 117, 118, 119, 120, 121, 122, 123, 124, 125, 126, 127, 128, 129, 130, 131, 132, 133, 134, 135, 136, 137, 138, 139, 140, 141, 142, 143, 144, 145, 146, 147, 148, 149, 150, 151, 152, 153, 154, 155, 156, 157, 158, 159, 160, 161, 162, 163, 164, 165, 166, 167, 168, 169, 170, 171, 172, 173, 174, 175, 176, 177, 195, 196, 197, 198, 199, 200, 201, 202, 203, 204, 205, 206, 207, 208, 209, 210, 211, 212, 213, 214, 215, 216, 217, 218, 219, 220, 221, 222] (by decide +kernel) (by decide +kernel)
set_option maxRecDepth 20000 in
theorem gX6_swing_X4_runSteady : GoodIn wsX6_swing (wsV RX6 104 RX4 yX4_runSteady wsX4_runSteady) := goodIn_app (goodIn_of _ (by decide +kernel)) ggX6_swing_X4_runSteady
set_option maxRecDepth 20000 in
theorem ggX6_swing_X4_fewestUp : GoodIn wsX6_swing wsX4_fewestUp := goodIn_r _ [181, 182, 117, 95, 118, 183, 184, 185, 9, 186, 61, 3, 4, 5, 195, 196, 197, 198, 199, 200, 201, 202, 203, 204, 205, 206, 207, 208] (by decide +kernel) (by decide +kernel)
set_option maxRecDepth 20000 in
theorem gX6_swing_X4_fewestUp : GoodIn wsX6_swing (wsV RX6 108 RX4 yX4_fewestUp wsX4_fewestUp) := goodIn_app (goodIn_of _ (by decide +kernel)) ggX6_swing_X4_fewestUp
set_option maxRecDepth 20000 in
theorem ggX6_swing_X4_mostUp : GoodIn wsX6_swing wsX4_mostUp := goodIn_r _ [190, 101, 94, 95, 96, 183, 184, 185, 9, 186, 61, 3, 4, 5, 195, 196, 197, 198, 199, 200, 201, 202, 203, 204, 205, 206, 207, 208] (by decide +kernel) (by decide +kernel)
set_option maxRecDepth 20000 in
theorem gX6_swing_X4_mostUp : GoodIn wsX6_swing (wsV RX6 111 RX4 yX4_mostUp wsX4_mostUp) := goodIn_app (goodIn_of _ (by decide +kernel)) ggX6_swing_X4_mostUp
theorem dX6_swing_0 : decode cX6_swing 0 = .ok (.iload_n 1, 1) := by decide +kernel
theorem dX6_swing_1 : decode cX6_swing 1 = .ok (.iconst 0, 1) := by decide +kernel
theorem dX6_swing_2 : decode cX6_swing 2 = .ok (.bipush 60, 2) := by decide +kernel
theorem dX6_swing_4 : decode cX6_swing 4 = .ok (.invokestatic 47, 3) := by decide +kernel
theorem dX6_swing_7 : decode cX6_swing 7 = .ok (.ifCond .eq 12, 3) := by decide +kernel
theorem dX6_swing_10 : decode cX6_swing 10 = .ok (.iload_n 2, 1) := by decide +kernel
theorem dX6_swing_11 : decode cX6_swing 11 = .ok (.iconst 0, 1) := by decide +kernel
theorem dX6_swing_12 : decode cX6_swing 12 = .ok (.iconst 2, 1) := by decide +kernel
theorem dX6_swing_13 : decode cX6_swing 13 = .ok (.invokestatic 47, 3) := by decide +kernel
theorem dX6_swing_16 : decode cX6_swing 16 = .ok (.ifCond .ne 7, 3) := by decide +kernel
theorem dX6_swing_19 : decode cX6_swing 19 = .ok (.sipush (-1002), 3) := by decide +kernel
theorem dX6_swing_22 : decode cX6_swing 22 = .ok (.ireturn, 1) := by decide +kernel
theorem dX6_swing_23 : decode cX6_swing 23 = .ok (.aload_n 0, 1) := by decide +kernel
theorem dX6_swing_24 : decode cX6_swing 24 = .ok (.getfield 25, 3) := by decide +kernel
theorem dX6_swing_27 : decode cX6_swing 27 = .ok (.iload_n 1, 1) := by decide +kernel
theorem dX6_swing_28 : decode cX6_swing 28 = .ok (.sipush 148, 3) := by decide +kernel
theorem dX6_swing_31 : decode cX6_swing 31 = .ok (.invokevirtual 104, 3) := by decide +kernel
theorem dX6_swing_34 : decode cX6_swing 34 = .ok (.aload_n 0, 1) := by decide +kernel
theorem dX6_swing_35 : decode cX6_swing 35 = .ok (.getfield 25, 3) := by decide +kernel
theorem dX6_swing_38 : decode cX6_swing 38 = .ok (.bipush 100, 2) := by decide +kernel
theorem dX6_swing_40 : decode cX6_swing 40 = .ok (.sipush 148, 3) := by decide +kernel
theorem dX6_swing_43 : decode cX6_swing 43 = .ok (.invokevirtual 108, 3) := by decide +kernel
theorem dX6_swing_46 : decode cX6_swing 46 = .ok (.istore_n 3, 1) := by decide +kernel
theorem dX6_swing_47 : decode cX6_swing 47 = .ok (.aload_n 0, 1) := by decide +kernel
theorem dX6_swing_48 : decode cX6_swing 48 = .ok (.getfield 25, 3) := by decide +kernel
theorem dX6_swing_51 : decode cX6_swing 51 = .ok (.bipush 100, 2) := by decide +kernel
theorem dX6_swing_53 : decode cX6_swing 53 = .ok (.sipush 148, 3) := by decide +kernel
theorem dX6_swing_56 : decode cX6_swing 56 = .ok (.invokevirtual 111, 3) := by decide +kernel
theorem dX6_swing_59 : decode cX6_swing 59 = .ok (.istore 4, 2) := by decide +kernel
theorem dX6_swing_61 : decode cX6_swing 61 = .ok (.iload_n 2, 1) := by decide +kernel
theorem dX6_swing_62 : decode cX6_swing 62 = .ok (.ifCond .ne 15, 3) := by decide +kernel
theorem dX6_swing_65 : decode cX6_swing 65 = .ok (.iload_n 3, 1) := by decide +kernel
theorem dX6_swing_66 : decode cX6_swing 66 = .ok (.iload 4, 2) := by decide +kernel
theorem dX6_swing_68 : decode cX6_swing 68 = .ok (.if_icmp .ne 7, 3) := by decide +kernel
theorem dX6_swing_71 : decode cX6_swing 71 = .ok (.iconst 0, 1) := by decide +kernel
theorem dX6_swing_72 : decode cX6_swing 72 = .ok (.goto 4, 3) := by decide +kernel
theorem dX6_swing_75 : decode cX6_swing 75 = .ok (.iconst 1, 1) := by decide +kernel
theorem dX6_swing_76 : decode cX6_swing 76 = .ok (.ireturn, 1) := by decide +kernel
theorem dX6_swing_77 : decode cX6_swing 77 = .ok (.iload_n 2, 1) := by decide +kernel
theorem dX6_swing_78 : decode cX6_swing 78 = .ok (.iconst 1, 1) := by decide +kernel
theorem dX6_swing_79 : decode cX6_swing 79 = .ok (.if_icmp .ne 7, 3) := by decide +kernel
theorem dX6_swing_82 : decode cX6_swing 82 = .ok (.iload_n 3, 1) := by decide +kernel
theorem dX6_swing_83 : decode cX6_swing 83 = .ok (.goto 5, 3) := by decide +kernel
theorem dX6_swing_86 : decode cX6_swing 86 = .ok (.iload 4, 2) := by decide +kernel
theorem dX6_swing_88 : decode cX6_swing 88 = .ok (.ireturn, 1) := by decide +kernel
set_option maxRecDepth 20000 in
theorem ggX6_digest_X4_figure : GoodIn wsX6_digest wsX4_figure := goodIn_r _ [6, 7, 8, 9, 10, 11, 12, 13, 14, 15, 16, 17, 18, 19, 20, 21, 22, 23, 24, 25, 26, 27, 39, 40, 41, 42, 43, 44, 45, 46, 47, 48, 49, 50, 51, 52, 53, 54, 55, 56, 57, 58, 59, 60, 61, 62, 63, 64] (by decide +kernel) (by decide +kernel)
set_option maxRecDepth 20000 in
theorem gX6_digest_X4_figure : GoodIn wsX6_digest (wsV RX6 87 RX4 yX4_figure wsX4_figure) := goodIn_app (goodIn_of _ (by decide +kernel)) ggX6_digest_X4_figure
set_option maxRecDepth 20000 in
theorem ggX6_digest_X3_stateOf : GoodIn wsX6_digest wsX3_stateOf := goodIn_r _ [31, 26, 32, 33, 34, 63, 64] (by decide +kernel) (by decide +kernel)
set_option maxRecDepth 20000 in
theorem gX6_digest_X3_stateOf : GoodIn wsX6_digest (wsV RX6 81 RX3 yX3_stateOf wsX3_stateOf) := goodIn_app (goodIn_of _ (by decide +kernel)) ggX6_digest_X3_stateOf
theorem dX6_digest_0 : decode cX6_digest 0 = .ok (.bipush 7, 2) := by decide +kernel
theorem dX6_digest_2 : decode cX6_digest 2 = .ok (.istore_n 1, 1) := by decide +kernel
theorem dX6_digest_3 : decode cX6_digest 3 = .ok (.iconst 0, 1) := by decide +kernel
theorem dX6_digest_4 : decode cX6_digest 4 = .ok (.istore_n 2, 1) := by decide +kernel
theorem dX6_digest_5 : decode cX6_digest 5 = .ok (.iload_n 2, 1) := by decide +kernel
theorem dX6_digest_6 : decode cX6_digest 6 = .ok (.bipush 13, 2) := by decide +kernel
theorem dX6_digest_8 : decode cX6_digest 8 = .ok (.if_icmp .ge 23, 3) := by decide +kernel
theorem dX6_digest_11 : decode cX6_digest 11 = .ok (.bipush 31, 2) := by decide +kernel
theorem dX6_digest_13 : decode cX6_digest 13 = .ok (.iload_n 1, 1) := by decide +kernel
theorem dX6_digest_14 : decode cX6_digest 14 = .ok (.imul, 1) := by decide +kernel
theorem dX6_digest_15 : decode cX6_digest 15 = .ok (.aload_n 0, 1) := by decide +kernel
theorem dX6_digest_16 : decode cX6_digest 16 = .ok (.getfield 21, 3) := by decide +kernel
theorem dX6_digest_19 : decode cX6_digest 19 = .ok (.iload_n 2, 1) := by decide +kernel
theorem dX6_digest_20 : decode cX6_digest 20 = .ok (.invokevirtual 87, 3) := by decide +kernel
theorem dX6_digest_23 : decode cX6_digest 23 = .ok (.iadd, 1) := by decide +kernel
theorem dX6_digest_24 : decode cX6_digest 24 = .ok (.istore_n 1, 1) := by decide +kernel
theorem dX6_digest_25 : decode cX6_digest 25 = .ok (.iinc 2 1, 3) := by decide +kernel
theorem dX6_digest_28 : decode cX6_digest 28 = .ok (.goto (-23), 3) := by decide +kernel
theorem dX6_digest_31 : decode cX6_digest 31 = .ok (.iconst 0, 1) := by decide +kernel
theorem dX6_digest_32 : decode cX6_digest 32 = .ok (.istore_n 2, 1) := by decide +kernel
theorem dX6_digest_33 : decode cX6_digest 33 = .ok (.iload_n 2, 1) := by decide +kernel
theorem dX6_digest_34 : decode cX6_digest 34 = .ok (.bipush 12, 2) := by decide +kernel
theorem dX6_digest_36 : decode cX6_digest 36 = .ok (.if_icmp .ge 26, 3) := by decide +kernel
theorem dX6_digest_39 : decode cX6_digest 39 = .ok (.bipush 31, 2) := by decide +kernel
theorem dX6_digest_41 : decode cX6_digest 41 = .ok (.iload_n 1, 1) := by decide +kernel
theorem dX6_digest_42 : decode cX6_digest 42 = .ok (.imul, 1) := by decide +kernel
theorem dX6_digest_43 : decode cX6_digest 43 = .ok (.aload_n 0, 1) := by decide +kernel
theorem dX6_digest_44 : decode cX6_digest 44 = .ok (.getfield 21, 3) := by decide +kernel
theorem dX6_digest_47 : decode cX6_digest 47 = .ok (.getfield 69, 3) := by decide +kernel
theorem dX6_digest_50 : decode cX6_digest 50 = .ok (.iload_n 2, 1) := by decide +kernel
theorem dX6_digest_51 : decode cX6_digest 51 = .ok (.invokevirtual 81, 3) := by decide +kernel
theorem dX6_digest_54 : decode cX6_digest 54 = .ok (.iadd, 1) := by decide +kernel
theorem dX6_digest_55 : decode cX6_digest 55 = .ok (.istore_n 1, 1) := by decide +kernel
theorem dX6_digest_56 : decode cX6_digest 56 = .ok (.iinc 2 1, 3) := by decide +kernel
theorem dX6_digest_59 : decode cX6_digest 59 = .ok (.goto (-26), 3) := by decide +kernel
theorem dX6_digest_62 : decode cX6_digest 62 = .ok (.iload_n 1, 1) := by decide +kernel
theorem dX6_digest_63 : decode cX6_digest 63 = .ok (.ireturn, 1) := by decide +kernel
theorem dX6_within_0 : decode cX6_within 0 = .ok (.iload_n 0, 1) := by decide +kernel
theorem dX6_within_1 : decode cX6_within 1 = .ok (.iload_n 1, 1) := by decide +kernel
theorem dX6_within_2 : decode cX6_within 2 = .ok (.if_icmp .lt 12, 3) := by decide +kernel
theorem dX6_within_5 : decode cX6_within 5 = .ok (.iload_n 0, 1) := by decide +kernel
theorem dX6_within_6 : decode cX6_within 6 = .ok (.iload_n 2, 1) := by decide +kernel
theorem dX6_within_7 : decode cX6_within 7 = .ok (.if_icmp .gt 7, 3) := by decide +kernel
theorem dX6_within_10 : decode cX6_within 10 = .ok (.iconst 1, 1) := by decide +kernel
theorem dX6_within_11 : decode cX6_within 11 = .ok (.goto 4, 3) := by decide +kernel
theorem dX6_within_14 : decode cX6_within 14 = .ok (.iconst 0, 1) := by decide +kernel
theorem dX6_within_15 : decode cX6_within 15 = .ok (.ireturn, 1) := by decide +kernel
theorem dX6_rowAt_0 : decode cX6_rowAt 0 = .ok (.iconst 0, 1) := by decide +kernel
theorem dX6_rowAt_1 : decode cX6_rowAt 1 = .ok (.istore_n 2, 1) := by decide +kernel
theorem dX6_rowAt_2 : decode cX6_rowAt 2 = .ok (.iconst 0, 1) := by decide +kernel
theorem dX6_rowAt_3 : decode cX6_rowAt 3 = .ok (.istore_n 3, 1) := by decide +kernel
theorem dX6_rowAt_4 : decode cX6_rowAt 4 = .ok (.iload_n 3, 1) := by decide +kernel
theorem dX6_rowAt_5 : decode cX6_rowAt 5 = .ok (.iload_n 1, 1) := by decide +kernel
theorem dX6_rowAt_6 : decode cX6_rowAt 6 = .ok (.if_icmp .ge 19, 3) := by decide +kernel
theorem dX6_rowAt_9 : decode cX6_rowAt 9 = .ok (.iload_n 2, 1) := by decide +kernel
theorem dX6_rowAt_10 : decode cX6_rowAt 10 = .ok (.iconst 2, 1) := by decide +kernel
theorem dX6_rowAt_11 : decode cX6_rowAt 11 = .ok (.imul, 1) := by decide +kernel
theorem dX6_rowAt_12 : decode cX6_rowAt 12 = .ok (.iload_n 0, 1) := by decide +kernel
theorem dX6_rowAt_13 : decode cX6_rowAt 13 = .ok (.iload_n 3, 1) := by decide +kernel
theorem dX6_rowAt_14 : decode cX6_rowAt 14 = .ok (.ishr, 1) := by decide +kernel
theorem dX6_rowAt_15 : decode cX6_rowAt 15 = .ok (.iconst 1, 1) := by decide +kernel
theorem dX6_rowAt_16 : decode cX6_rowAt 16 = .ok (.iand, 1) := by decide +kernel
theorem dX6_rowAt_17 : decode cX6_rowAt 17 = .ok (.iadd, 1) := by decide +kernel
theorem dX6_rowAt_18 : decode cX6_rowAt 18 = .ok (.istore_n 2, 1) := by decide +kernel
theorem dX6_rowAt_19 : decode cX6_rowAt 19 = .ok (.iinc 3 1, 3) := by decide +kernel
theorem dX6_rowAt_22 : decode cX6_rowAt 22 = .ok (.goto (-18), 3) := by decide +kernel
theorem dX6_rowAt_25 : decode cX6_rowAt 25 = .ok (.iload_n 2, 1) := by decide +kernel
theorem dX6_rowAt_26 : decode cX6_rowAt 26 = .ok (.ireturn, 1) := by decide +kernel
set_option maxRecDepth 20000 in
theorem ggX7_init_X7_first : GoodIn wsX7_init wsX7_first := goodIn_r _ [31, 6, 7, 5, 36, 37, 38, 39, 40, 41, 42, 43, 44, 45, 46, 47, 48, 49, 50, 51, 52, 53, 54, 55, 56, 57] (by decide +kernel) (by decide +kernel)
set_option maxRecDepth 20000 in
theorem gX7_init_X7_first : GoodIn wsX7_init (wsV RX7 74 RX7 yX7_first wsX7_first) := goodIn_app (goodIn_of _ (by decide +kernel)) ggX7_init_X7_first
set_option maxRecDepth 20000 in
theorem ggX7_init_X7_begin : GoodIn wsX7_init wsX7_begin := goodIn_r _ [35, 12, 13, 14, 20, 36, 37, 38, 39, 40, 41, 42, 43, 44, 45, 46, 47, 48, 49, 50, 51, 52, 53, 54, 55, 56, 57] (by decide +kernel) (by decide +kernel)
set_option maxRecDepth 20000 in
theorem gX7_init_X7_begin : GoodIn wsX7_init (wsV RX7 78 RX7 yX7_begin wsX7_begin) := goodIn_app (goodIn_of _ (by decide +kernel)) ggX7_init_X7_begin
theorem dX7_init_0 : decode cX7_init 0 = .ok (.aload_n 0, 1) := by decide +kernel
theorem dX7_init_1 : decode cX7_init 1 = .ok (.invokespecial 1, 3) := by decide +kernel
theorem dX7_init_4 : decode cX7_init 4 = .ok (.aload_n 0, 1) := by decide +kernel
theorem dX7_init_5 : decode cX7_init 5 = .ok (.bipush 19, 2) := by decide +kernel
theorem dX7_init_7 : decode cX7_init 7 = .ok (.newarray .int, 2) := by decide +kernel
theorem dX7_init_9 : decode cX7_init 9 = .ok (.putfield 7, 3) := by decide +kernel
theorem dX7_init_12 : decode cX7_init 12 = .ok (.aload_n 0, 1) := by decide +kernel
theorem dX7_init_13 : decode cX7_init 13 = .ok (.bipush 19, 2) := by decide +kernel
theorem dX7_init_15 : decode cX7_init 15 = .ok (.newarray .int, 2) := by decide +kernel
theorem dX7_init_17 : decode cX7_init 17 = .ok (.putfield 13, 3) := by decide +kernel
theorem dX7_init_20 : decode cX7_init 20 = .ok (.aload_n 0, 1) := by decide +kernel
theorem dX7_init_21 : decode cX7_init 21 = .ok (.bipush 19, 2) := by decide +kernel
theorem dX7_init_23 : decode cX7_init 23 = .ok (.newarray .int, 2) := by decide +kernel
theorem dX7_init_25 : decode cX7_init 25 = .ok (.putfield 16, 3) := by decide +kernel
theorem dX7_init_28 : decode cX7_init 28 = .ok (.aload_n 0, 1) := by decide +kernel
theorem dX7_init_29 : decode cX7_init 29 = .ok (.sipush 200, 3) := by decide +kernel
theorem dX7_init_32 : decode cX7_init 32 = .ok (.newarray .int, 2) := by decide +kernel
theorem dX7_init_34 : decode cX7_init 34 = .ok (.putfield 19, 3) := by decide +kernel
theorem dX7_init_37 : decode cX7_init 37 = .ok (.aload_n 0, 1) := by decide +kernel
theorem dX7_init_38 : decode cX7_init 38 = .ok (.sipush 200, 3) := by decide +kernel
theorem dX7_init_41 : decode cX7_init 41 = .ok (.newarray .boolean, 2) := by decide +kernel
theorem dX7_init_43 : decode cX7_init 43 = .ok (.putfield 22, 3) := by decide +kernel
theorem dX7_init_46 : decode cX7_init 46 = .ok (.aload_n 0, 1) := by decide +kernel
theorem dX7_init_47 : decode cX7_init 47 = .ok (.bipush 24, 2) := by decide +kernel
theorem dX7_init_49 : decode cX7_init 49 = .ok (.newarray .int, 2) := by decide +kernel
theorem dX7_init_51 : decode cX7_init 51 = .ok (.putfield 26, 3) := by decide +kernel
theorem dX7_init_54 : decode cX7_init 54 = .ok (.aload_n 0, 1) := by decide +kernel
theorem dX7_init_55 : decode cX7_init 55 = .ok (.bipush 8, 2) := by decide +kernel
theorem dX7_init_57 : decode cX7_init 57 = .ok (.newarray .int, 2) := by decide +kernel
theorem dX7_init_59 : decode cX7_init 59 = .ok (.putfield 29, 3) := by decide +kernel
theorem dX7_init_62 : decode cX7_init 62 = .ok (.aload_n 0, 1) := by decide +kernel
theorem dX7_init_63 : decode cX7_init 63 = .ok (.bipush 12, 2) := by decide +kernel
theorem dX7_init_65 : decode cX7_init 65 = .ok (.newarray .int, 2) := by decide +kernel
theorem dX7_init_67 : decode cX7_init 67 = .ok (.putfield 32, 3) := by decide +kernel
theorem dX7_init_70 : decode cX7_init 70 = .ok (.aload_n 0, 1) := by decide +kernel
theorem dX7_init_71 : decode cX7_init 71 = .ok (.bipush 12, 2) := by decide +kernel
theorem dX7_init_73 : decode cX7_init 73 = .ok (.newarray .int, 2) := by decide +kernel
theorem dX7_init_75 : decode cX7_init 75 = .ok (.putfield 35, 3) := by decide +kernel
theorem dX7_init_78 : decode cX7_init 78 = .ok (.aload_n 0, 1) := by decide +kernel
theorem dX7_init_79 : decode cX7_init 79 = .ok (.sipush 200, 3) := by decide +kernel
theorem dX7_init_82 : decode cX7_init 82 = .ok (.newarray .int, 2) := by decide +kernel
theorem dX7_init_84 : decode cX7_init 84 = .ok (.putfield 38, 3) := by decide +kernel
theorem dX7_init_87 : decode cX7_init 87 = .ok (.aload_n 0, 1) := by decide +kernel
theorem dX7_init_88 : decode cX7_init 88 = .ok (.sipush 200, 3) := by decide +kernel
theorem dX7_init_91 : decode cX7_init 91 = .ok (.newarray .int, 2) := by decide +kernel
theorem dX7_init_93 : decode cX7_init 93 = .ok (.putfield 41, 3) := by decide +kernel
theorem dX7_init_96 : decode cX7_init 96 = .ok (.aload_n 0, 1) := by decide +kernel
theorem dX7_init_97 : decode cX7_init 97 = .ok (.sipush 200, 3) := by decide +kernel
theorem dX7_init_100 : decode cX7_init 100 = .ok (.newarray .int, 2) := by decide +kernel
theorem dX7_init_102 : decode cX7_init 102 = .ok (.putfield 44, 3) := by decide +kernel
theorem dX7_init_105 : decode cX7_init 105 = .ok (.aload_n 0, 1) := by decide +kernel
theorem dX7_init_106 : decode cX7_init 106 = .ok (.sipush 200, 3) := by decide +kernel
theorem dX7_init_109 : decode cX7_init 109 = .ok (.newarray .int, 2) := by decide +kernel
theorem dX7_init_111 : decode cX7_init 111 = .ok (.putfield 47, 3) := by decide +kernel
theorem dX7_init_114 : decode cX7_init 114 = .ok (.aload_n 0, 1) := by decide +kernel
theorem dX7_init_115 : decode cX7_init 115 = .ok (.sipush 200, 3) := by decide +kernel
theorem dX7_init_118 : decode cX7_init 118 = .ok (.newarray .int, 2) := by decide +kernel
theorem dX7_init_120 : decode cX7_init 120 = .ok (.putfield 50, 3) := by decide +kernel
theorem dX7_init_123 : decode cX7_init 123 = .ok (.aload_n 0, 1) := by decide +kernel
theorem dX7_init_124 : decode cX7_init 124 = .ok (.iconst 2, 1) := by decide +kernel
theorem dX7_init_125 : decode cX7_init 125 = .ok (.newarray .int, 2) := by decide +kernel
theorem dX7_init_127 : decode cX7_init 127 = .ok (.putfield 53, 3) := by decide +kernel
theorem dX7_init_130 : decode cX7_init 130 = .ok (.aload_n 0, 1) := by decide +kernel
theorem dX7_init_131 : decode cX7_init 131 = .ok (.sipush 200, 3) := by decide +kernel
theorem dX7_init_134 : decode cX7_init 134 = .ok (.newarray .int, 2) := by decide +kernel
theorem dX7_init_136 : decode cX7_init 136 = .ok (.putfield 56, 3) := by decide +kernel
theorem dX7_init_139 : decode cX7_init 139 = .ok (.aload_n 0, 1) := by decide +kernel
theorem dX7_init_140 : decode cX7_init 140 = .ok (.sipush 1200, 3) := by decide +kernel
theorem dX7_init_143 : decode cX7_init 143 = .ok (.newarray .int, 2) := by decide +kernel
theorem dX7_init_145 : decode cX7_init 145 = .ok (.putfield 59, 3) := by decide +kernel
theorem dX7_init_148 : decode cX7_init 148 = .ok (.aload_n 0, 1) := by decide +kernel
theorem dX7_init_149 : decode cX7_init 149 = .ok (.sipush 2500, 3) := by decide +kernel
theorem dX7_init_152 : decode cX7_init 152 = .ok (.newarray .int, 2) := by decide +kernel
theorem dX7_init_154 : decode cX7_init 154 = .ok (.putfield 62, 3) := by decide +kernel
theorem dX7_init_157 : decode cX7_init 157 = .ok (.aload_n 0, 1) := by decide +kernel
theorem dX7_init_158 : decode cX7_init 158 = .ok (.sipush 8645, 3) := by decide +kernel
theorem dX7_init_161 : decode cX7_init 161 = .ok (.newarray .int, 2) := by decide +kernel
theorem dX7_init_163 : decode cX7_init 163 = .ok (.putfield 65, 3) := by decide +kernel
theorem dX7_init_166 : decode cX7_init 166 = .ok (.aload_n 0, 1) := by decide +kernel
theorem dX7_init_167 : decode cX7_init 167 = .ok (.sipush 8645, 3) := by decide +kernel
theorem dX7_init_170 : decode cX7_init 170 = .ok (.newarray .int, 2) := by decide +kernel
theorem dX7_init_172 : decode cX7_init 172 = .ok (.putfield 68, 3) := by decide +kernel
theorem dX7_init_175 : decode cX7_init 175 = .ok (.aload_n 0, 1) := by decide +kernel
theorem dX7_init_176 : decode cX7_init 176 = .ok (.sipush 200, 3) := by decide +kernel
theorem dX7_init_179 : decode cX7_init 179 = .ok (.newarray .int, 2) := by decide +kernel
theorem dX7_init_181 : decode cX7_init 181 = .ok (.putfield 71, 3) := by decide +kernel
theorem dX7_init_184 : decode cX7_init 184 = .ok (.aload_n 0, 1) := by decide +kernel
theorem dX7_init_185 : decode cX7_init 185 = .ok (.iconst 0, 1) := by decide +kernel
theorem dX7_init_186 : decode cX7_init 186 = .ok (.iconst 0, 1) := by decide +kernel
theorem dX7_init_187 : decode cX7_init 187 = .ok (.iconst 5, 1) := by decide +kernel
theorem dX7_init_188 : decode cX7_init 188 = .ok (.iconst 1, 1) := by decide +kernel
theorem dX7_init_189 : decode cX7_init 189 = .ok (.invokevirtual 74, 3) := by decide +kernel
theorem dX7_init_192 : decode cX7_init 192 = .ok (.aload_n 0, 1) := by decide +kernel
theorem dX7_init_193 : decode cX7_init 193 = .ok (.iconst 1, 1) := by decide +kernel
theorem dX7_init_194 : decode cX7_init 194 = .ok (.iconst 0, 1) := by decide +kernel
theorem dX7_init_195 : decode cX7_init 195 = .ok (.iconst 5, 1) := by decide +kernel
theorem dX7_init_196 : decode cX7_init 196 = .ok (.iconst 1, 1) := by decide +kernel
theorem dX7_init_197 : decode cX7_init 197 = .ok (.invokevirtual 74, 3) := by decide +kernel
theorem dX7_init_200 : decode cX7_init 200 = .ok (.aload_n 0, 1) := by decide +kernel
theorem dX7_init_201 : decode cX7_init 201 = .ok (.iconst 2, 1) := by decide +kernel
theorem dX7_init_202 : decode cX7_init 202 = .ok (.iconst 1, 1) := by decide +kernel
theorem dX7_init_203 : decode cX7_init 203 = .ok (.bipush 20, 2) := by decide +kernel
theorem dX7_init_205 : decode cX7_init 205 = .ok (.iconst 5, 1) := by decide +kernel
theorem dX7_init_206 : decode cX7_init 206 = .ok (.invokevirtual 74, 3) := by decide +kernel
theorem dX7_init_209 : decode cX7_init 209 = .ok (.aload_n 0, 1) := by decide +kernel
theorem dX7_init_210 : decode cX7_init 210 = .ok (.iconst 3, 1) := by decide +kernel
theorem dX7_init_211 : decode cX7_init 211 = .ok (.iconst 1, 1) := by decide +kernel
theorem dX7_init_212 : decode cX7_init 212 = .ok (.bipush 10, 2) := by decide +kernel
theorem dX7_init_214 : decode cX7_init 214 = .ok (.iconst 3, 1) := by decide +kernel
theorem dX7_init_215 : decode cX7_init 215 = .ok (.invokevirtual 74, 3) := by decide +kernel
theorem dX7_init_218 : decode cX7_init 218 = .ok (.aload_n 0, 1) := by decide +kernel
theorem dX7_init_219 : decode cX7_init 219 = .ok (.iconst 4, 1) := by decide +kernel
theorem dX7_init_220 : decode cX7_init 220 = .ok (.iconst 1, 1) := by decide +kernel
theorem dX7_init_221 : decode cX7_init 221 = .ok (.iconst 4, 1) := by decide +kernel
theorem dX7_init_222 : decode cX7_init 222 = .ok (.iconst 1, 1) := by decide +kernel
theorem dX7_init_223 : decode cX7_init 223 = .ok (.invokevirtual 74, 3) := by decide +kernel
theorem dX7_init_226 : decode cX7_init 226 = .ok (.aload_n 0, 1) := by decide +kernel
theorem dX7_init_227 : decode cX7_init 227 = .ok (.iconst 5, 1) := by decide +kernel
theorem dX7_init_228 : decode cX7_init 228 = .ok (.iconst 0, 1) := by decide +kernel
theorem dX7_init_229 : decode cX7_init 229 = .ok (.iconst 5, 1) := by decide +kernel
theorem dX7_init_230 : decode cX7_init 230 = .ok (.iconst 0, 1) := by decide +kernel
theorem dX7_init_231 : decode cX7_init 231 = .ok (.invokevirtual 74, 3) := by decide +kernel
theorem dX7_init_234 : decode cX7_init 234 = .ok (.aload_n 0, 1) := by decide +kernel
theorem dX7_init_235 : decode cX7_init 235 = .ok (.bipush 6, 2) := by decide +kernel
theorem dX7_init_237 : decode cX7_init 237 = .ok (.iconst 1, 1) := by decide +kernel
theorem dX7_init_238 : decode cX7_init 238 = .ok (.iconst 5, 1) := by decide +kernel
theorem dX7_init_239 : decode cX7_init 239 = .ok (.iconst 1, 1) := by decide +kernel
theorem dX7_init_240 : decode cX7_init 240 = .ok (.invokevirtual 74, 3) := by decide +kernel
theorem dX7_init_243 : decode cX7_init 243 = .ok (.aload_n 0, 1) := by decide +kernel
theorem dX7_init_244 : decode cX7_init 244 = .ok (.bipush 7, 2) := by decide +kernel
theorem dX7_init_246 : decode cX7_init 246 = .ok (.iconst 0, 1) := by decide +kernel
theorem dX7_init_247 : decode cX7_init 247 = .ok (.bipush 12, 2) := by decide +kernel
theorem dX7_init_249 : decode cX7_init 249 = .ok (.iconst 1, 1) := by decide +kernel
theorem dX7_init_250 : decode cX7_init 250 = .ok (.invokevirtual 74, 3) := by decide +kernel
theorem dX7_init_253 : decode cX7_init 253 = .ok (.aload_n 0, 1) := by decide +kernel
theorem dX7_init_254 : decode cX7_init 254 = .ok (.bipush 8, 2) := by decide +kernel
theorem dX7_init_256 : decode cX7_init 256 = .ok (.iconst 0, 1) := by decide +kernel
theorem dX7_init_257 : decode cX7_init 257 = .ok (.bipush 12, 2) := by decide +kernel
theorem dX7_init_259 : decode cX7_init 259 = .ok (.bipush 12, 2) := by decide +kernel
theorem dX7_init_261 : decode cX7_init 261 = .ok (.invokevirtual 74, 3) := by decide +kernel
theorem dX7_init_264 : decode cX7_init 264 = .ok (.aload_n 0, 1) := by decide +kernel
theorem dX7_init_265 : decode cX7_init 265 = .ok (.bipush 9, 2) := by decide +kernel
theorem dX7_init_267 : decode cX7_init 267 = .ok (.iconst 0, 1) := by decide +kernel
theorem dX7_init_268 : decode cX7_init 268 = .ok (.bipush 10, 2) := by decide +kernel
theorem dX7_init_270 : decode cX7_init 270 = .ok (.iconst 0, 1) := by decide +kernel
theorem dX7_init_271 : decode cX7_init 271 = .ok (.invokevirtual 74, 3) := by decide +kernel
theorem dX7_init_274 : decode cX7_init 274 = .ok (.aload_n 0, 1) := by decide +kernel
theorem dX7_init_275 : decode cX7_init 275 = .ok (.bipush 10, 2) := by decide +kernel
theorem dX7_init_277 : decode cX7_init 277 = .ok (.iconst 0, 1) := by decide +kernel
theorem dX7_init_278 : decode cX7_init 278 = .ok (.iconst 2, 1) := by decide +kernel
theorem dX7_init_279 : decode cX7_init 279 = .ok (.iconst 1, 1) := by decide +kernel
theorem dX7_init_280 : decode cX7_init 280 = .ok (.invokevirtual 74, 3) := by decide +kernel
theorem dX7_init_283 : decode cX7_init 283 = .ok (.aload_n 0, 1) := by decide +kernel
theorem dX7_init_284 : decode cX7_init 284 = .ok (.bipush 11, 2) := by decide +kernel
theorem dX7_init_286 : decode cX7_init 286 = .ok (.iconst 1, 1) := by decide +kernel
theorem dX7_init_287 : decode cX7_init 287 = .ok (.bipush 60, 2) := by decide +kernel
theorem dX7_init_289 : decode cX7_init 289 = .ok (.iconst 5, 1) := by decide +kernel
theorem dX7_init_290 : decode cX7_init 290 = .ok (.invokevirtual 74, 3) := by decide +kernel
theorem dX7_init_293 : decode cX7_init 293 = .ok (.aload_n 0, 1) := by decide +kernel
theorem dX7_init_294 : decode cX7_init 294 = .ok (.bipush 12, 2) := by decide +kernel
theorem dX7_init_296 : decode cX7_init 296 = .ok (.iconst 0, 1) := by decide +kernel
theorem dX7_init_297 : decode cX7_init 297 = .ok (.sipush 400, 3) := by decide +kernel
theorem dX7_init_300 : decode cX7_init 300 = .ok (.bipush 10, 2) := by decide +kernel
theorem dX7_init_302 : decode cX7_init 302 = .ok (.invokevirtual 74, 3) := by decide +kernel
theorem dX7_init_305 : decode cX7_init 305 = .ok (.aload_n 0, 1) := by decide +kernel
theorem dX7_init_306 : decode cX7_init 306 = .ok (.bipush 13, 2) := by decide +kernel
theorem dX7_init_308 : decode cX7_init 308 = .ok (.iconst 0, 1) := by decide +kernel
theorem dX7_init_309 : decode cX7_init 309 = .ok (.sipush 400, 3) := by decide +kernel
theorem dX7_init_312 : decode cX7_init 312 = .ok (.iconst 2, 1) := by decide +kernel
theorem dX7_init_313 : decode cX7_init 313 = .ok (.invokevirtual 74, 3) := by decide +kernel
theorem dX7_init_316 : decode cX7_init 316 = .ok (.aload_n 0, 1) := by decide +kernel
theorem dX7_init_317 : decode cX7_init 317 = .ok (.bipush 14, 2) := by decide +kernel
theorem dX7_init_319 : decode cX7_init 319 = .ok (.iconst 1, 1) := by decide +kernel
theorem dX7_init_320 : decode cX7_init 320 = .ok (.bipush 6, 2) := by decide +kernel
theorem dX7_init_322 : decode cX7_init 322 = .ok (.iconst 1, 1) := by decide +kernel
theorem dX7_init_323 : decode cX7_init 323 = .ok (.invokevirtual 74, 3) := by decide +kernel
theorem dX7_init_326 : decode cX7_init 326 = .ok (.aload_n 0, 1) := by decide +kernel
theorem dX7_init_327 : decode cX7_init 327 = .ok (.bipush 15, 2) := by decide +kernel
theorem dX7_init_329 : decode cX7_init 329 = .ok (.iconst 1, 1) := by decide +kernel
theorem dX7_init_330 : decode cX7_init 330 = .ok (.bipush 6, 2) := by decide +kernel
theorem dX7_init_332 : decode cX7_init 332 = .ok (.iconst 1, 1) := by decide +kernel
theorem dX7_init_333 : decode cX7_init 333 = .ok (.invokevirtual 74, 3) := by decide +kernel
theorem dX7_init_336 : decode cX7_init 336 = .ok (.aload_n 0, 1) := by decide +kernel
theorem dX7_init_337 : decode cX7_init 337 = .ok (.bipush 16, 2) := by decide +kernel
theorem dX7_init_339 : decode cX7_init 339 = .ok (.iconst 0, 1) := by decide +kernel
theorem dX7_init_340 : decode cX7_init 340 = .ok (.bipush 100, 2) := by decide +kernel
theorem dX7_init_342 : decode cX7_init 342 = .ok (.bipush 10, 2) := by decide +kernel
theorem dX7_init_344 : decode cX7_init 344 = .ok (.invokevirtual 74, 3) := by decide +kernel
theorem dX7_init_347 : decode cX7_init 347 = .ok (.aload_n 0, 1) := by decide +kernel
theorem dX7_init_348 : decode cX7_init 348 = .ok (.bipush 17, 2) := by decide +kernel
theorem dX7_init_350 : decode cX7_init 350 = .ok (.iconst 0, 1) := by decide +kernel
theorem dX7_init_351 : decode cX7_init 351 = .ok (.bipush 100, 2) := by decide +kernel
theorem dX7_init_353 : decode cX7_init 353 = .ok (.iconst 4, 1) := by decide +kernel
theorem dX7_init_354 : decode cX7_init 354 = .ok (.invokevirtual 74, 3) := by decide +kernel
theorem dX7_init_357 : decode cX7_init 357 = .ok (.aload_n 0, 1) := by decide +kernel
theorem dX7_init_358 : decode cX7_init 358 = .ok (.bipush 18, 2) := by decide +kernel
theorem dX7_init_360 : decode cX7_init 360 = .ok (.iconst 0, 1) := by decide +kernel
theorem dX7_init_361 : decode cX7_init 361 = .ok (.sipush 1000, 3) := by decide +kernel
theorem dX7_init_364 : decode cX7_init 364 = .ok (.bipush 50, 2) := by decide +kernel
theorem dX7_init_366 : decode cX7_init 366 = .ok (.invokevirtual 74, 3) := by decide +kernel
theorem dX7_init_369 : decode cX7_init 369 = .ok (.aload_n 0, 1) := by decide +kernel
theorem dX7_init_370 : decode cX7_init 370 = .ok (.invokevirtual 78, 3) := by decide +kernel
theorem dX7_init_373 : decode cX7_init 373 = .ok (.return_, 1) := by decide +kernel
theorem dX7_first_0 : decode cX7_first 0 = .ok (.aload_n 0, 1) := by decide +kernel
theorem dX7_first_1 : decode cX7_first 1 = .ok (.getfield 13, 3) := by decide +kernel
theorem dX7_first_4 : decode cX7_first 4 = .ok (.iload_n 1, 1) := by decide +kernel
theorem dX7_first_5 : decode cX7_first 5 = .ok (.iload_n 2, 1) := by decide +kernel
theorem dX7_first_6 : decode cX7_first 6 = .ok (.iastore, 1) := by decide +kernel
theorem dX7_first_7 : decode cX7_first 7 = .ok (.aload_n 0, 1) := by decide +kernel
theorem dX7_first_8 : decode cX7_first 8 = .ok (.getfield 16, 3) := by decide +kernel
theorem dX7_first_11 : decode cX7_first 11 = .ok (.iload_n 1, 1) := by decide +kernel
theorem dX7_first_12 : decode cX7_first 12 = .ok (.iload_n 3, 1) := by decide +kernel
theorem dX7_first_13 : decode cX7_first 13 = .ok (.iastore, 1) := by decide +kernel
theorem dX7_first_14 : decode cX7_first 14 = .ok (.aload_n 0, 1) := by decide +kernel
theorem dX7_first_15 : decode cX7_first 15 = .ok (.getfield 7, 3) := by decide +kernel
theorem dX7_first_18 : decode cX7_first 18 = .ok (.iload_n 1, 1) := by decide +kernel
theorem dX7_first_19 : decode cX7_first 19 = .ok (.iload 4, 2) := by decide +kernel
theorem dX7_first_21 : decode cX7_first 21 = .ok (.iastore, 1) := by decide +kernel
theorem dX7_first_22 : decode cX7_first 22 = .ok (.return_, 1) := by decide +kernel
theorem dX7_in_0 : decode cX7_in 0 = .ok (.lload_n 0, 1) := by decide +kernel
theorem dX7_in_1 : decode cX7_in 1 = .ok (.lload_n 2, 1) := by decide +kernel
theorem dX7_in_2 : decode cX7_in 2 = .ok (.lcmp, 1) := by decide +kernel
theorem dX7_in_3 : decode cX7_in 3 = .ok (.ifCond .lt 14, 3) := by decide +kernel
theorem dX7_in_6 : decode cX7_in 6 = .ok (.lload_n 0, 1) := by decide +kernel
theorem dX7_in_7 : decode cX7_in 7 = .ok (.lload 4, 2) := by decide +kernel
theorem dX7_in_9 : decode cX7_in 9 = .ok (.lcmp, 1) := by decide +kernel
theorem dX7_in_10 : decode cX7_in 10 = .ok (.ifCond .gt 7, 3) := by decide +kernel
theorem dX7_in_13 : decode cX7_in 13 = .ok (.iconst 1, 1) := by decide +kernel
theorem dX7_in_14 : decode cX7_in 14 = .ok (.goto 4, 3) := by decide +kernel
theorem dX7_in_17 : decode cX7_in 17 = .ok (.iconst 0, 1) := by decide +kernel
theorem dX7_in_18 : decode cX7_in 18 = .ok (.ireturn, 1) := by decide +kernel
theorem dX7_begin_0 : decode cX7_begin 0 = .ok (.iconst 0, 1) := by decide +kernel
theorem dX7_begin_1 : decode cX7_begin 1 = .ok (.istore_n 1, 1) := by decide +kernel
theorem dX7_begin_2 : decode cX7_begin 2 = .ok (.iload_n 1, 1) := by decide +kernel
theorem dX7_begin_3 : decode cX7_begin 3 = .ok (.bipush 8, 2) := by decide +kernel
theorem dX7_begin_5 : decode cX7_begin 5 = .ok (.if_icmp .ge 31, 3) := by decide +kernel
theorem dX7_begin_8 : decode cX7_begin 8 = .ok (.aload_n 0, 1) := by decide +kernel
theorem dX7_begin_9 : decode cX7_begin 9 = .ok (.getfield 29, 3) := by decide +kernel
theorem dX7_begin_12 : decode cX7_begin 12 = .ok (.iload_n 1, 1) := by decide +kernel
theorem dX7_begin_13 : decode cX7_begin 13 = .ok (.iload_n 1, 1) := by decide +kernel
theorem dX7_begin_14 : decode cX7_begin 14 = .ok (.iconst 5, 1) := by decide +kernel
theorem dX7_begin_15 : decode cX7_begin 15 = .ok (.if_icmp .eq 9, 3) := by decide +kernel
theorem dX7_begin_18 : decode cX7_begin 18 = .ok (.iload_n 1, 1) := by decide +kernel
theorem dX7_begin_19 : decode cX7_begin 19 = .ok (.bipush 6, 2) := by decide +kernel
theorem dX7_begin_21 : decode cX7_begin 21 = .ok (.if_icmp .ne 7, 3) := by decide +kernel
theorem dX7_begin_24 : decode cX7_begin 24 = .ok (.iconst (-1), 1) := by decide +kernel
theorem dX7_begin_25 : decode cX7_begin 25 = .ok (.goto 4, 3) := by decide +kernel
theorem dX7_begin_28 : decode cX7_begin 28 = .ok (.iconst 0, 1) := by decide +kernel
theorem dX7_begin_29 : decode cX7_begin 29 = .ok (.iastore, 1) := by decide +kernel
theorem dX7_begin_30 : decode cX7_begin 30 = .ok (.iinc 1 1, 3) := by decide +kernel
theorem dX7_begin_33 : decode cX7_begin 33 = .ok (.goto (-31), 3) := by decide +kernel
theorem dX7_begin_36 : decode cX7_begin 36 = .ok (.iconst 0, 1) := by decide +kernel
theorem dX7_begin_37 : decode cX7_begin 37 = .ok (.istore_n 1, 1) := by decide +kernel
theorem dX7_begin_38 : decode cX7_begin 38 = .ok (.iload_n 1, 1) := by decide +kernel
theorem dX7_begin_39 : decode cX7_begin 39 = .ok (.bipush 12, 2) := by decide +kernel
theorem dX7_begin_41 : decode cX7_begin 41 = .ok (.if_icmp .ge 23, 3) := by decide +kernel
theorem dX7_begin_44 : decode cX7_begin 44 = .ok (.aload_n 0, 1) := by decide +kernel
theorem dX7_begin_45 : decode cX7_begin 45 = .ok (.getfield 32, 3) := by decide +kernel
theorem dX7_begin_48 : decode cX7_begin 48 = .ok (.iload_n 1, 1) := by decide +kernel
theorem dX7_begin_49 : decode cX7_begin 49 = .ok (.iconst 0, 1) := by decide +kernel
theorem dX7_begin_50 : decode cX7_begin 50 = .ok (.iastore, 1) := by decide +kernel
theorem dX7_begin_51 : decode cX7_begin 51 = .ok (.aload_n 0, 1) := by decide +kernel
theorem dX7_begin_52 : decode cX7_begin 52 = .ok (.getfield 35, 3) := by decide +kernel
theorem dX7_begin_55 : decode cX7_begin 55 = .ok (.iload_n 1, 1) := by decide +kernel
theorem dX7_begin_56 : decode cX7_begin 56 = .ok (.iconst 0, 1) := by decide +kernel
theorem dX7_begin_57 : decode cX7_begin 57 = .ok (.iastore, 1) := by decide +kernel
theorem dX7_begin_58 : decode cX7_begin 58 = .ok (.iinc 1 1, 3) := by decide +kernel
theorem dX7_begin_61 : decode cX7_begin 61 = .ok (.goto (-23), 3) := by decide +kernel
theorem dX7_begin_64 : decode cX7_begin 64 = .ok (.aload_n 0, 1) := by decide +kernel
theorem dX7_begin_65 : decode cX7_begin 65 = .ok (.getfield 53, 3) := by decide +kernel
theorem dX7_begin_68 : decode cX7_begin 68 = .ok (.iconst 0, 1) := by decide +kernel
theorem dX7_begin_69 : decode cX7_begin 69 = .ok (.iconst 0, 1) := by decide +kernel
theorem dX7_begin_70 : decode cX7_begin 70 = .ok (.iastore, 1) := by decide +kernel
theorem dX7_begin_71 : decode cX7_begin 71 = .ok (.aload_n 0, 1) := by decide +kernel
theorem dX7_begin_72 : decode cX7_begin 72 = .ok (.getfield 53, 3) := by decide +kernel
theorem dX7_begin_75 : decode cX7_begin 75 = .ok (.iconst 1, 1) := by decide +kernel
theorem dX7_begin_76 : decode cX7_begin 76 = .ok (.iconst 0, 1) := by decide +kernel
theorem dX7_begin_77 : decode cX7_begin 77 = .ok (.iastore, 1) := by decide +kernel
theorem dX7_begin_78 : decode cX7_begin 78 = .ok (.return_, 1) := by decide +kernel
set_option maxRecDepth 20000 in
theorem ggX7_setting_X7_in : GoodIn wsX7_setting wsX7_in := goodIn_r _ [8] (by decide +kernel) (by decide +kernel)
set_option maxRecDepth 20000 in
theorem gX7_setting_X7_in : GoodIn wsX7_setting (va_wsS RX7 83 yX7_in wsX7_in) := goodIn_app (goodIn_of _ (by decide +kernel)) ggX7_setting_X7_in
theorem dX7_setting_0 : decode cX7_setting 0 = .ok (.iload_n 1, 1) := by decide +kernel
theorem dX7_setting_1 : decode cX7_setting 1 = .ok (.i2l, 1) := by decide +kernel
theorem dX7_setting_2 : decode cX7_setting 2 = .ok (.lconst 0, 1) := by decide +kernel
theorem dX7_setting_3 : decode cX7_setting 3 = .ok (.ldc2_w 81, 3) := by decide +kernel
theorem dX7_setting_6 : decode cX7_setting 6 = .ok (.invokestatic 83, 3) := by decide +kernel
theorem dX7_setting_9 : decode cX7_setting 9 = .ok (.ifCond .eq 59, 3) := by decide +kernel
theorem dX7_setting_12 : decode cX7_setting 12 = .ok (.iload_n 2, 1) := by decide +kernel
theorem dX7_setting_13 : decode cX7_setting 13 = .ok (.i2l, 1) := by decide +kernel
theorem dX7_setting_14 : decode cX7_setting 14 = .ok (.aload_n 0, 1) := by decide +kernel
theorem dX7_setting_15 : decode cX7_setting 15 = .ok (.getfield 13, 3) := by decide +kernel
theorem dX7_setting_18 : decode cX7_setting 18 = .ok (.iload_n 1, 1) := by decide +kernel
theorem dX7_setting_19 : decode cX7_setting 19 = .ok (.iaload, 1) := by decide +kernel
theorem dX7_setting_20 : decode cX7_setting 20 = .ok (.i2l, 1) := by decide +kernel
theorem dX7_setting_21 : decode cX7_setting 21 = .ok (.aload_n 0, 1) := by decide +kernel
theorem dX7_setting_22 : decode cX7_setting 22 = .ok (.getfield 16, 3) := by decide +kernel
theorem dX7_setting_25 : decode cX7_setting 25 = .ok (.iload_n 1, 1) := by decide +kernel
theorem dX7_setting_26 : decode cX7_setting 26 = .ok (.iaload, 1) := by decide +kernel
theorem dX7_setting_27 : decode cX7_setting 27 = .ok (.i2l, 1) := by decide +kernel
theorem dX7_setting_28 : decode cX7_setting 28 = .ok (.invokestatic 83, 3) := by decide +kernel
theorem dX7_setting_31 : decode cX7_setting 31 = .ok (.ifCond .eq 37, 3) := by decide +kernel
theorem dX7_setting_34 : decode cX7_setting 34 = .ok (.iload_n 1, 1) := by decide +kernel
theorem dX7_setting_35 : decode cX7_setting 35 = .ok (.bipush 7, 2) := by decide +kernel
theorem dX7_setting_37 : decode cX7_setting 37 = .ok (.if_icmp .ne 14, 3) := by decide +kernel
theorem dX7_setting_40 : decode cX7_setting 40 = .ok (.iload_n 2, 1) := by decide +kernel
theorem dX7_setting_41 : decode cX7_setting 41 = .ok (.aload_n 0, 1) := by decide +kernel
theorem dX7_setting_42 : decode cX7_setting 42 = .ok (.getfield 7, 3) := by decide +kernel
theorem dX7_setting_45 : decode cX7_setting 45 = .ok (.bipush 8, 2) := by decide +kernel
theorem dX7_setting_47 : decode cX7_setting 47 = .ok (.iaload, 1) := by decide +kernel
theorem dX7_setting_48 : decode cX7_setting 48 = .ok (.if_icmp .gt 20, 3) := by decide +kernel
theorem dX7_setting_51 : decode cX7_setting 51 = .ok (.iload_n 1, 1) := by decide +kernel
theorem dX7_setting_52 : decode cX7_setting 52 = .ok (.bipush 8, 2) := by decide +kernel
theorem dX7_setting_54 : decode cX7_setting 54 = .ok (.if_icmp .ne 18, 3) := by decide +kernel
theorem dX7_setting_57 : decode cX7_setting 57 = .ok (.iload_n 2, 1) := by decide +kernel
theorem dX7_setting_58 : decode cX7_setting 58 = .ok (.aload_n 0, 1) := by decide +kernel
theorem dX7_setting_59 : decode cX7_setting 59 = .ok (.getfield 7, 3) := by decide +kernel
theorem dX7_setting_62 : decode cX7_setting 62 = .ok (.bipush 7, 2) := by decide +kernel
theorem dX7_setting_64 : decode cX7_setting 64 = .ok (.iaload, 1) := by decide +kernel
theorem dX7_setting_65 : decode cX7_setting 65 = .ok (.if_icmp .ge 7, 3) := by decide +kernel
theorem dX7_setting_68 : decode cX7_setting 68 = .ok (.sipush (-1002), 3) := by decide +kernel
theorem dX7_setting_71 : decode cX7_setting 71 = .ok (.ireturn, 1) := by decide +kernel
theorem dX7_setting_72 : decode cX7_setting 72 = .ok (.aload_n 0, 1) := by decide +kernel
theorem dX7_setting_73 : decode cX7_setting 73 = .ok (.getfield 7, 3) := by decide +kernel
theorem dX7_setting_76 : decode cX7_setting 76 = .ok (.iload_n 1, 1) := by decide +kernel
theorem dX7_setting_77 : decode cX7_setting 77 = .ok (.iaload, 1) := by decide +kernel
theorem dX7_setting_78 : decode cX7_setting 78 = .ok (.istore_n 3, 1) := by decide +kernel
theorem dX7_setting_79 : decode cX7_setting 79 = .ok (.aload_n 0, 1) := by decide +kernel
theorem dX7_setting_80 : decode cX7_setting 80 = .ok (.getfield 7, 3) := by decide +kernel
theorem dX7_setting_83 : decode cX7_setting 83 = .ok (.iload_n 1, 1) := by decide +kernel
theorem dX7_setting_84 : decode cX7_setting 84 = .ok (.iload_n 2, 1) := by decide +kernel
theorem dX7_setting_85 : decode cX7_setting 85 = .ok (.iastore, 1) := by decide +kernel
theorem dX7_setting_86 : decode cX7_setting 86 = .ok (.iload_n 3, 1) := by decide +kernel
theorem dX7_setting_87 : decode cX7_setting 87 = .ok (.ireturn, 1) := by decide +kernel
set_option maxRecDepth 20000 in
theorem ggX7_told_X7_in : GoodIn wsX7_told wsX7_in := goodIn_r _ [6] (by decide +kernel) (by decide +kernel)
set_option maxRecDepth 20000 in
theorem gX7_told_X7_in : GoodIn wsX7_told (va_wsS RX7 83 yX7_in wsX7_in) := goodIn_app (goodIn_of _ (by decide +kernel)) ggX7_told_X7_in
theorem dX7_told_0 : decode cX7_told 0 = .ok (.iload_n 1, 1) := by decide +kernel
theorem dX7_told_1 : decode cX7_told 1 = .ok (.i2l, 1) := by decide +kernel
theorem dX7_told_2 : decode cX7_told 2 = .ok (.lconst 0, 1) := by decide +kernel
theorem dX7_told_3 : decode cX7_told 3 = .ok (.ldc2_w 81, 3) := by decide +kernel
theorem dX7_told_6 : decode cX7_told 6 = .ok (.invokestatic 83, 3) := by decide +kernel
theorem dX7_told_9 : decode cX7_told 9 = .ok (.ifCond .eq 12, 3) := by decide +kernel
theorem dX7_told_12 : decode cX7_told 12 = .ok (.aload_n 0, 1) := by decide +kernel
theorem dX7_told_13 : decode cX7_told 13 = .ok (.getfield 7, 3) := by decide +kernel
theorem dX7_told_16 : decode cX7_told 16 = .ok (.iload_n 1, 1) := by decide +kernel
theorem dX7_told_17 : decode cX7_told 17 = .ok (.iaload, 1) := by decide +kernel
theorem dX7_told_18 : decode cX7_told 18 = .ok (.goto 6, 3) := by decide +kernel
theorem dX7_told_21 : decode cX7_told 21 = .ok (.sipush (-1002), 3) := by decide +kernel
theorem dX7_told_24 : decode cX7_told 24 = .ok (.ireturn, 1) := by decide +kernel
set_option maxRecDepth 20000 in
theorem ggX7_isTick_X7_in : GoodIn wsX7_isTick wsX7_in := goodIn_r _ [5] (by decide +kernel) (by decide +kernel)
set_option maxRecDepth 20000 in
theorem gX7_isTick_X7_in : GoodIn wsX7_isTick (va_wsS RX7 83 yX7_in wsX7_in) := goodIn_app (goodIn_of _ (by decide +kernel)) ggX7_isTick_X7_in
theorem dX7_isTick_0 : decode cX7_isTick 0 = .ok (.iload_n 0, 1) := by decide +kernel
theorem dX7_isTick_1 : decode cX7_isTick 1 = .ok (.i2l, 1) := by decide +kernel
theorem dX7_isTick_2 : decode cX7_isTick 2 = .ok (.lconst 0, 1) := by decide +kernel
theorem dX7_isTick_3 : decode cX7_isTick 3 = .ok (.ldc2_w 87, 3) := by decide +kernel
theorem dX7_isTick_6 : decode cX7_isTick 6 = .ok (.invokestatic 83, 3) := by decide +kernel
theorem dX7_isTick_9 : decode cX7_isTick 9 = .ok (.ireturn, 1) := by decide +kernel
set_option maxRecDepth 20000 in
theorem ggX7_load_X7_isTick : GoodIn wsX7_load wsX7_isTick := goodIn_r _ [7, 8, 9, 10, 6, 11] (by decide +kernel) (by decide +kernel)
set_option maxRecDepth 20000 in
theorem gX7_load_X7_isTick : GoodIn wsX7_load (va_wsS RX7 89 yX7_isTick wsX7_isTick) := goodIn_app (goodIn_of _ (by decide +kernel)) ggX7_load_X7_isTick
set_option maxRecDepth 20000 in
theorem ggX7_load_X7_in : GoodIn wsX7_load wsX7_in := goodIn_r _ [11] (by decide +kernel) (by decide +kernel)
set_option maxRecDepth 20000 in
theorem gX7_load_X7_in : GoodIn wsX7_load (va_wsS RX7 83 yX7_in wsX7_in) := goodIn_app (goodIn_of _ (by decide +kernel)) ggX7_load_X7_in
theorem dX7_load_0 : decode cX7_load 0 = .ok (.iload_n 1, 1) := by decide +kernel
theorem dX7_load_1 : decode cX7_load 1 = .ok (.invokestatic 89, 3) := by decide +kernel
theorem dX7_load_4 : decode cX7_load 4 = .ok (.ifCond .eq 15, 3) := by decide +kernel
theorem dX7_load_7 : decode cX7_load 7 = .ok (.iload_n 2, 1) := by decide +kernel
theorem dX7_load_8 : decode cX7_load 8 = .ok (.i2l, 1) := by decide +kernel
theorem dX7_load_9 : decode cX7_load 9 = .ok (.lconst 0, 1) := by decide +kernel
theorem dX7_load_10 : decode cX7_load 10 = .ok (.ldc2_w 93, 3) := by decide +kernel
theorem dX7_load_13 : decode cX7_load 13 = .ok (.invokestatic 83, 3) := by decide +kernel
theorem dX7_load_16 : decode cX7_load 16 = .ok (.ifCond .ne 7, 3) := by decide +kernel
theorem dX7_load_19 : decode cX7_load 19 = .ok (.sipush (-1002), 3) := by decide +kernel
theorem dX7_load_22 : decode cX7_load 22 = .ok (.ireturn, 1) := by decide +kernel
theorem dX7_load_23 : decode cX7_load 23 = .ok (.iload_n 1, 1) := by decide +kernel
theorem dX7_load_24 : decode cX7_load 24 = .ok (.aload_n 0, 1) := by decide +kernel
theorem dX7_load_25 : decode cX7_load 25 = .ok (.getfield 29, 3) := by decide +kernel
theorem dX7_load_28 : decode cX7_load 28 = .ok (.iconst 0, 1) := by decide +kernel
theorem dX7_load_29 : decode cX7_load 29 = .ok (.iaload, 1) := by decide +kernel
theorem dX7_load_30 : decode cX7_load 30 = .ok (.if_icmp .ge 7, 3) := by decide +kernel
theorem dX7_load_33 : decode cX7_load 33 = .ok (.sipush (-1003), 3) := by decide +kernel
theorem dX7_load_36 : decode cX7_load 36 = .ok (.ireturn, 1) := by decide +kernel
theorem dX7_load_37 : decode cX7_load 37 = .ok (.aload_n 0, 1) := by decide +kernel
theorem dX7_load_38 : decode cX7_load 38 = .ok (.getfield 19, 3) := by decide +kernel
theorem dX7_load_41 : decode cX7_load 41 = .ok (.iload_n 1, 1) := by decide +kernel
theorem dX7_load_42 : decode cX7_load 42 = .ok (.iaload, 1) := by decide +kernel
theorem dX7_load_43 : decode cX7_load 43 = .ok (.istore_n 3, 1) := by decide +kernel
theorem dX7_load_44 : decode cX7_load 44 = .ok (.aload_n 0, 1) := by decide +kernel
theorem dX7_load_45 : decode cX7_load 45 = .ok (.getfield 19, 3) := by decide +kernel
theorem dX7_load_48 : decode cX7_load 48 = .ok (.iload_n 1, 1) := by decide +kernel
theorem dX7_load_49 : decode cX7_load 49 = .ok (.iload_n 2, 1) := by decide +kernel
theorem dX7_load_50 : decode cX7_load 50 = .ok (.iastore, 1) := by decide +kernel
theorem dX7_load_51 : decode cX7_load 51 = .ok (.iload_n 3, 1) := by decide +kernel
theorem dX7_load_52 : decode cX7_load 52 = .ok (.ireturn, 1) := by decide +kernel
set_option maxRecDepth 20000 in
theorem ggX7_plan_X7_in : GoodIn wsX7_plan wsX7_in := goodIn_r _ [7] (by decide +kernel) (by decide +kernel)
set_option maxRecDepth 20000 in
theorem gX7_plan_X7_in : GoodIn wsX7_plan (va_wsS RX7 83 yX7_in wsX7_in) := goodIn_app (goodIn_of _ (by decide +kernel)) ggX7_plan_X7_in
theorem dX7_plan_0 : decode cX7_plan 0 = .ok (.iload_n 1, 1) := by decide +kernel
theorem dX7_plan_1 : decode cX7_plan 1 = .ok (.i2l, 1) := by decide +kernel
theorem dX7_plan_2 : decode cX7_plan 2 = .ok (.lconst 0, 1) := by decide +kernel
theorem dX7_plan_3 : decode cX7_plan 3 = .ok (.ldc2_w 95, 3) := by decide +kernel
theorem dX7_plan_6 : decode cX7_plan 6 = .ok (.invokestatic 83, 3) := by decide +kernel
theorem dX7_plan_9 : decode cX7_plan 9 = .ok (.ifCond .eq 15, 3) := by decide +kernel
theorem dX7_plan_12 : decode cX7_plan 12 = .ok (.iload_n 2, 1) := by decide +kernel
theorem dX7_plan_13 : decode cX7_plan 13 = .ok (.i2l, 1) := by decide +kernel
theorem dX7_plan_14 : decode cX7_plan 14 = .ok (.lconst 0, 1) := by decide +kernel
theorem dX7_plan_15 : decode cX7_plan 15 = .ok (.ldc2_w 97, 3) := by decide +kernel
theorem dX7_plan_18 : decode cX7_plan 18 = .ok (.invokestatic 83, 3) := by decide +kernel
theorem dX7_plan_21 : decode cX7_plan 21 = .ok (.ifCond .ne 7, 3) := by decide +kernel
theorem dX7_plan_24 : decode cX7_plan 24 = .ok (.sipush (-1002), 3) := by decide +kernel
theorem dX7_plan_27 : decode cX7_plan 27 = .ok (.ireturn, 1) := by decide +kernel
theorem dX7_plan_28 : decode cX7_plan 28 = .ok (.aload_n 0, 1) := by decide +kernel
theorem dX7_plan_29 : decode cX7_plan 29 = .ok (.getfield 26, 3) := by decide +kernel
theorem dX7_plan_32 : decode cX7_plan 32 = .ok (.iload_n 1, 1) := by decide +kernel
theorem dX7_plan_33 : decode cX7_plan 33 = .ok (.iaload, 1) := by decide +kernel
theorem dX7_plan_34 : decode cX7_plan 34 = .ok (.istore_n 3, 1) := by decide +kernel
theorem dX7_plan_35 : decode cX7_plan 35 = .ok (.aload_n 0, 1) := by decide +kernel
theorem dX7_plan_36 : decode cX7_plan 36 = .ok (.getfield 26, 3) := by decide +kernel
theorem dX7_plan_39 : decode cX7_plan 39 = .ok (.iload_n 1, 1) := by decide +kernel
theorem dX7_plan_40 : decode cX7_plan 40 = .ok (.iload_n 2, 1) := by decide +kernel
theorem dX7_plan_41 : decode cX7_plan 41 = .ok (.iastore, 1) := by decide +kernel
theorem dX7_plan_42 : decode cX7_plan 42 = .ok (.iload_n 3, 1) := by decide +kernel
theorem dX7_plan_43 : decode cX7_plan 43 = .ok (.ireturn, 1) := by decide +kernel
set_option maxRecDepth 20000 in
theorem ggX7_lose_X7_isTick : GoodIn wsX7_lose wsX7_isTick := goodIn_r _ [6, 7, 8, 9, 5, 10] (by decide +kernel) (by decide +kernel)
set_option maxRecDepth 20000 in
theorem gX7_lose_X7_isTick : GoodIn wsX7_lose (va_wsS RX7 89 yX7_isTick wsX7_isTick) := goodIn_app (goodIn_of _ (by decide +kernel)) ggX7_lose_X7_isTick
theorem dX7_lose_0 : decode cX7_lose 0 = .ok (.iload_n 1, 1) := by decide +kernel
theorem dX7_lose_1 : decode cX7_lose 1 = .ok (.invokestatic 89, 3) := by decide +kernel
theorem dX7_lose_4 : decode cX7_lose 4 = .ok (.ifCond .ne 7, 3) := by decide +kernel
theorem dX7_lose_7 : decode cX7_lose 7 = .ok (.sipush (-1002), 3) := by decide +kernel
theorem dX7_lose_10 : decode cX7_lose 10 = .ok (.ireturn, 1) := by decide +kernel
theorem dX7_lose_11 : decode cX7_lose 11 = .ok (.iload_n 1, 1) := by decide +kernel
theorem dX7_lose_12 : decode cX7_lose 12 = .ok (.aload_n 0, 1) := by decide +kernel
theorem dX7_lose_13 : decode cX7_lose 13 = .ok (.getfield 29, 3) := by decide +kernel
theorem dX7_lose_16 : decode cX7_lose 16 = .ok (.iconst 0, 1) := by decide +kernel
theorem dX7_lose_17 : decode cX7_lose 17 = .ok (.iaload, 1) := by decide +kernel
theorem dX7_lose_18 : decode cX7_lose 18 = .ok (.if_icmp .ge 7, 3) := by decide +kernel
theorem dX7_lose_21 : decode cX7_lose 21 = .ok (.sipush (-1003), 3) := by decide +kernel
theorem dX7_lose_24 : decode cX7_lose 24 = .ok (.ireturn, 1) := by decide +kernel
theorem dX7_lose_25 : decode cX7_lose 25 = .ok (.aload_n 0, 1) := by decide +kernel
theorem dX7_lose_26 : decode cX7_lose 26 = .ok (.getfield 22, 3) := by decide +kernel
theorem dX7_lose_29 : decode cX7_lose 29 = .ok (.iload_n 1, 1) := by decide +kernel
theorem dX7_lose_30 : decode cX7_lose 30 = .ok (.baload, 1) := by decide +kernel
theorem dX7_lose_31 : decode cX7_lose 31 = .ok (.ifCond .eq 7, 3) := by decide +kernel
theorem dX7_lose_34 : decode cX7_lose 34 = .ok (.iconst 1, 1) := by decide +kernel
theorem dX7_lose_35 : decode cX7_lose 35 = .ok (.goto 4, 3) := by decide +kernel
theorem dX7_lose_38 : decode cX7_lose 38 = .ok (.iconst 0, 1) := by decide +kernel
theorem dX7_lose_39 : decode cX7_lose 39 = .ok (.istore_n 3, 1) := by decide +kernel
theorem dX7_lose_40 : decode cX7_lose 40 = .ok (.aload_n 0, 1) := by decide +kernel
theorem dX7_lose_41 : decode cX7_lose 41 = .ok (.getfield 22, 3) := by decide +kernel
theorem dX7_lose_44 : decode cX7_lose 44 = .ok (.iload_n 1, 1) := by decide +kernel
theorem dX7_lose_45 : decode cX7_lose 45 = .ok (.iload_n 2, 1) := by decide +kernel
theorem dX7_lose_46 : decode cX7_lose 46 = .ok (.bastore, 1) := by decide +kernel
theorem dX7_lose_47 : decode cX7_lose 47 = .ok (.iload_n 3, 1) := by decide +kernel
theorem dX7_lose_48 : decode cX7_lose 48 = .ok (.ireturn, 1) := by decide +kernel
theorem dX7_many_0 : decode cX7_many 0 = .ok (.iconst 0, 1) := by decide +kernel
theorem dX7_many_1 : decode cX7_many 1 = .ok (.istore_n 2, 1) := by decide +kernel
theorem dX7_many_2 : decode cX7_many 2 = .ok (.iconst 0, 1) := by decide +kernel
theorem dX7_many_3 : decode cX7_many 3 = .ok (.istore_n 3, 1) := by decide +kernel
theorem dX7_many_4 : decode cX7_many 4 = .ok (.iload_n 3, 1) := by decide +kernel
theorem dX7_many_5 : decode cX7_many 5 = .ok (.bipush 12, 2) := by decide +kernel
theorem dX7_many_7 : decode cX7_many 7 = .ok (.if_icmp .ge 27, 3) := by decide +kernel
theorem dX7_many_10 : decode cX7_many 10 = .ok (.iload_n 2, 1) := by decide +kernel
theorem dX7_many_11 : decode cX7_many 11 = .ok (.aload_n 0, 1) := by decide +kernel
theorem dX7_many_12 : decode cX7_many 12 = .ok (.getfield 32, 3) := by decide +kernel
theorem dX7_many_15 : decode cX7_many 15 = .ok (.iload_n 3, 1) := by decide +kernel
theorem dX7_many_16 : decode cX7_many 16 = .ok (.iaload, 1) := by decide +kernel
theorem dX7_many_17 : decode cX7_many 17 = .ok (.iload_n 1, 1) := by decide +kernel
theorem dX7_many_18 : decode cX7_many 18 = .ok (.if_icmp .ne 7, 3) := by decide +kernel
theorem dX7_many_21 : decode cX7_many 21 = .ok (.iconst 1, 1) := by decide +kernel
theorem dX7_many_22 : decode cX7_many 22 = .ok (.goto 4, 3) := by decide +kernel
theorem dX7_many_25 : decode cX7_many 25 = .ok (.iconst 0, 1) := by decide +kernel
theorem dX7_many_26 : decode cX7_many 26 = .ok (.iadd, 1) := by decide +kernel
theorem dX7_many_27 : decode cX7_many 27 = .ok (.istore_n 2, 1) := by decide +kernel
theorem dX7_many_28 : decode cX7_many 28 = .ok (.iinc 3 1, 3) := by decide +kernel
theorem dX7_many_31 : decode cX7_many 31 = .ok (.goto (-27), 3) := by decide +kernel
theorem dX7_many_34 : decode cX7_many 34 = .ok (.iload_n 2, 1) := by decide +kernel
theorem dX7_many_35 : decode cX7_many 35 = .ok (.ireturn, 1) := by decide +kernel
set_option maxRecDepth 20000 in
theorem ggX7_up_X7_many : GoodIn wsX7_up wsX7_many := goodIn_r _ [5, 6, 7, 8, 9, 10, 11, 12, 13, 14, 15, 16, 17, 18, 19, 20, 21, 22, 23, 24, 25, 26, 27, 28] (by decide +kernel) (by decide +kernel)
set_option maxRecDepth 20000 in
theorem gX7_up_X7_many : GoodIn wsX7_up (wsV RX7 99 RX7 yX7_many wsX7_many) := goodIn_app (goodIn_of _ (by decide +kernel)) ggX7_up_X7_many
theorem dX7_up_0 : decode cX7_up 0 = .ok (.aload_n 0, 1) := by decide +kernel
theorem dX7_up_1 : decode cX7_up 1 = .ok (.iconst 1, 1) := by decide +kernel
theorem dX7_up_2 : decode cX7_up 2 = .ok (.invokevirtual 99, 3) := by decide +kernel
theorem dX7_up_5 : decode cX7_up 5 = .ok (.aload_n 0, 1) := by decide +kernel
theorem dX7_up_6 : decode cX7_up 6 = .ok (.iconst 2, 1) := by decide +kernel
theorem dX7_up_7 : decode cX7_up 7 = .ok (.invokevirtual 99, 3) := by decide +kernel
theorem dX7_up_10 : decode cX7_up 10 = .ok (.iadd, 1) := by decide +kernel
theorem dX7_up_11 : decode cX7_up 11 = .ok (.ireturn, 1) := by decide +kernel
theorem dX7_waiting_0 : decode cX7_waiting 0 = .ok (.iconst 0, 1) := by decide +kernel
theorem dX7_waiting_1 : decode cX7_waiting 1 = .ok (.istore_n 1, 1) := by decide +kernel
theorem dX7_waiting_2 : decode cX7_waiting 2 = .ok (.iconst 0, 1) := by decide +kernel
theorem dX7_waiting_3 : decode cX7_waiting 3 = .ok (.istore_n 2, 1) := by decide +kernel
theorem dX7_waiting_4 : decode cX7_waiting 4 = .ok (.iload_n 2, 1) := by decide +kernel
theorem dX7_waiting_5 : decode cX7_waiting 5 = .ok (.aload_n 0, 1) := by decide +kernel
theorem dX7_waiting_6 : decode cX7_waiting 6 = .ok (.getfield 53, 3) := by decide +kernel
theorem dX7_waiting_9 : decode cX7_waiting 9 = .ok (.iconst 0, 1) := by decide +kernel
theorem dX7_waiting_10 : decode cX7_waiting 10 = .ok (.iaload, 1) := by decide +kernel
theorem dX7_waiting_11 : decode cX7_waiting 11 = .ok (.if_icmp .ge 18, 3) := by decide +kernel
theorem dX7_waiting_14 : decode cX7_waiting 14 = .ok (.iload_n 1, 1) := by decide +kernel
theorem dX7_waiting_15 : decode cX7_waiting 15 = .ok (.aload_n 0, 1) := by decide +kernel
theorem dX7_waiting_16 : decode cX7_waiting 16 = .ok (.getfield 44, 3) := by decide +kernel
theorem dX7_waiting_19 : decode cX7_waiting 19 = .ok (.iload_n 2, 1) := by decide +kernel
theorem dX7_waiting_20 : decode cX7_waiting 20 = .ok (.iaload, 1) := by decide +kernel
theorem dX7_waiting_21 : decode cX7_waiting 21 = .ok (.iadd, 1) := by decide +kernel
theorem dX7_waiting_22 : decode cX7_waiting 22 = .ok (.istore_n 1, 1) := by decide +kernel
theorem dX7_waiting_23 : decode cX7_waiting 23 = .ok (.iinc 2 1, 3) := by decide +kernel
theorem dX7_waiting_26 : decode cX7_waiting 26 = .ok (.goto (-22), 3) := by decide +kernel
theorem dX7_waiting_29 : decode cX7_waiting 29 = .ok (.iload_n 1, 1) := by decide +kernel
theorem dX7_waiting_30 : decode cX7_waiting 30 = .ok (.ireturn, 1) := by decide +kernel
theorem dX7_triers_0 : decode cX7_triers 0 = .ok (.iconst 0, 1) := by decide +kernel
theorem dX7_triers_1 : decode cX7_triers 1 = .ok (.istore_n 1, 1) := by decide +kernel
theorem dX7_triers_2 : decode cX7_triers 2 = .ok (.iconst 0, 1) := by decide +kernel
theorem dX7_triers_3 : decode cX7_triers 3 = .ok (.istore_n 2, 1) := by decide +kernel
theorem dX7_triers_4 : decode cX7_triers 4 = .ok (.iload_n 2, 1) := by decide +kernel
theorem dX7_triers_5 : decode cX7_triers 5 = .ok (.aload_n 0, 1) := by decide +kernel
theorem dX7_triers_6 : decode cX7_triers 6 = .ok (.getfield 53, 3) := by decide +kernel
theorem dX7_triers_9 : decode cX7_triers 9 = .ok (.iconst 1, 1) := by decide +kernel
theorem dX7_triers_10 : decode cX7_triers 10 = .ok (.iaload, 1) := by decide +kernel
theorem dX7_triers_11 : decode cX7_triers 11 = .ok (.if_icmp .ge 18, 3) := by decide +kernel
theorem dX7_triers_14 : decode cX7_triers 14 = .ok (.iload_n 1, 1) := by decide +kernel
theorem dX7_triers_15 : decode cX7_triers 15 = .ok (.aload_n 0, 1) := by decide +kernel
theorem dX7_triers_16 : decode cX7_triers 16 = .ok (.getfield 50, 3) := by decide +kernel
theorem dX7_triers_19 : decode cX7_triers 19 = .ok (.iload_n 2, 1) := by decide +kernel
theorem dX7_triers_20 : decode cX7_triers 20 = .ok (.iaload, 1) := by decide +kernel
theorem dX7_triers_21 : decode cX7_triers 21 = .ok (.iadd, 1) := by decide +kernel
theorem dX7_triers_22 : decode cX7_triers 22 = .ok (.istore_n 1, 1) := by decide +kernel
theorem dX7_triers_23 : decode cX7_triers 23 = .ok (.iinc 2 1, 3) := by decide +kernel
theorem dX7_triers_26 : decode cX7_triers 26 = .ok (.goto (-22), 3) := by decide +kernel
theorem dX7_triers_29 : decode cX7_triers 29 = .ok (.iload_n 1, 1) := by decide +kernel
theorem dX7_triers_30 : decode cX7_triers 30 = .ok (.ireturn, 1) := by decide +kernel
theorem dX7_read_0 : decode cX7_read 0 = .ok (.iconst 0, 1) := by decide +kernel
theorem dX7_read_1 : decode cX7_read 1 = .ok (.istore_n 2, 1) := by decide +kernel
theorem dX7_read_2 : decode cX7_read 2 = .ok (.iconst 0, 1) := by decide +kernel
theorem dX7_read_3 : decode cX7_read 3 = .ok (.istore_n 3, 1) := by decide +kernel
theorem dX7_read_4 : decode cX7_read 4 = .ok (.iload_n 1, 1) := by decide +kernel
theorem dX7_read_5 : decode cX7_read 5 = .ok (.aload_n 0, 1) := by decide +kernel
theorem dX7_read_6 : decode cX7_read 6 = .ok (.getfield 7, 3) := by decide +kernel
theorem dX7_read_9 : decode cX7_read 9 = .ok (.iconst 5, 1) := by decide +kernel
theorem dX7_read_10 : decode cX7_read 10 = .ok (.iaload, 1) := by decide +kernel
theorem dX7_read_11 : decode cX7_read 11 = .ok (.isub, 1) := by decide +kernel
theorem dX7_read_12 : decode cX7_read 12 = .ok (.istore 4, 2) := by decide +kernel
theorem dX7_read_14 : decode cX7_read 14 = .ok (.iload 4, 2) := by decide +kernel
theorem dX7_read_16 : decode cX7_read 16 = .ok (.iload_n 1, 1) := by decide +kernel
theorem dX7_read_17 : decode cX7_read 17 = .ok (.aload_n 0, 1) := by decide +kernel
theorem dX7_read_18 : decode cX7_read 18 = .ok (.getfield 7, 3) := by decide +kernel
theorem dX7_read_21 : decode cX7_read 21 = .ok (.iconst 5, 1) := by decide +kernel
theorem dX7_read_22 : decode cX7_read 22 = .ok (.iaload, 1) := by decide +kernel
theorem dX7_read_23 : decode cX7_read 23 = .ok (.isub, 1) := by decide +kernel
theorem dX7_read_24 : decode cX7_read 24 = .ok (.aload_n 0, 1) := by decide +kernel
theorem dX7_read_25 : decode cX7_read 25 = .ok (.getfield 7, 3) := by decide +kernel
theorem dX7_read_28 : decode cX7_read 28 = .ok (.bipush 6, 2) := by decide +kernel
theorem dX7_read_30 : decode cX7_read 30 = .ok (.iaload, 1) := by decide +kernel
theorem dX7_read_31 : decode cX7_read 31 = .ok (.isub, 1) := by decide +kernel
theorem dX7_read_32 : decode cX7_read 32 = .ok (.if_icmp .le 37, 3) := by decide +kernel
theorem dX7_read_35 : decode cX7_read 35 = .ok (.iload 4, 2) := by decide +kernel
theorem dX7_read_37 : decode cX7_read 37 = .ok (.ifCond .lt 26, 3) := by decide +kernel
theorem dX7_read_40 : decode cX7_read 40 = .ok (.aload_n 0, 1) := by decide +kernel
theorem dX7_read_41 : decode cX7_read 41 = .ok (.getfield 56, 3) := by decide +kernel
theorem dX7_read_44 : decode cX7_read 44 = .ok (.iload 4, 2) := by decide +kernel
theorem dX7_read_46 : decode cX7_read 46 = .ok (.iaload, 1) := by decide +kernel
theorem dX7_read_47 : decode cX7_read 47 = .ok (.ifCond .lt 16, 3) := by decide +kernel
theorem dX7_read_50 : decode cX7_read 50 = .ok (.iload_n 2, 1) := by decide +kernel
theorem dX7_read_51 : decode cX7_read 51 = .ok (.aload_n 0, 1) := by decide +kernel
theorem dX7_read_52 : decode cX7_read 52 = .ok (.getfield 56, 3) := by decide +kernel
theorem dX7_read_55 : decode cX7_read 55 = .ok (.iload 4, 2) := by decide +kernel
theorem dX7_read_57 : decode cX7_read 57 = .ok (.iaload, 1) := by decide +kernel
theorem dX7_read_58 : decode cX7_read 58 = .ok (.iadd, 1) := by decide +kernel
theorem dX7_read_59 : decode cX7_read 59 = .ok (.istore_n 2, 1) := by decide +kernel
theorem dX7_read_60 : decode cX7_read 60 = .ok (.iinc 3 1, 3) := by decide +kernel
theorem dX7_read_63 : decode cX7_read 63 = .ok (.iinc 4 (-1), 3) := by decide +kernel
theorem dX7_read_66 : decode cX7_read 66 = .ok (.goto (-52), 3) := by decide +kernel
theorem dX7_read_69 : decode cX7_read 69 = .ok (.aload_n 0, 1) := by decide +kernel
theorem dX7_read_70 : decode cX7_read 70 = .ok (.getfield 29, 3) := by decide +kernel
theorem dX7_read_73 : decode cX7_read 73 = .ok (.iconst 4, 1) := by decide +kernel
theorem dX7_read_74 : decode cX7_read 74 = .ok (.iload_n 3, 1) := by decide +kernel
theorem dX7_read_75 : decode cX7_read 75 = .ok (.ifCond .le 9, 3) := by decide +kernel
theorem dX7_read_78 : decode cX7_read 78 = .ok (.iload_n 2, 1) := by decide +kernel
theorem dX7_read_79 : decode cX7_read 79 = .ok (.iload_n 3, 1) := by decide +kernel
theorem dX7_read_80 : decode cX7_read 80 = .ok (.idiv, 1) := by decide +kernel
theorem dX7_read_81 : decode cX7_read 81 = .ok (.goto 9, 3) := by decide +kernel
theorem dX7_read_84 : decode cX7_read 84 = .ok (.aload_n 0, 1) := by decide +kernel
theorem dX7_read_85 : decode cX7_read 85 = .ok (.getfield 29, 3) := by decide +kernel
theorem dX7_read_88 : decode cX7_read 88 = .ok (.iconst 4, 1) := by decide +kernel
theorem dX7_read_89 : decode cX7_read 89 = .ok (.iaload, 1) := by decide +kernel
theorem dX7_read_90 : decode cX7_read 90 = .ok (.iastore, 1) := by decide +kernel
theorem dX7_read_91 : decode cX7_read 91 = .ok (.return_, 1) := by decide +kernel
set_option maxRecDepth 20000 in
theorem ggX7_wantedBy_X7_up : GoodIn wsX7_wantedBy wsX7_up := goodIn_r _ [7, 8, 9, 10, 6, 11, 12, 13, 14, 15, 16, 17, 18, 19, 20, 21, 22, 23, 24, 25, 26, 27, 28, 29, 30, 31, 32, 33, 34] (by decide +kernel) (by decide +kernel)
set_option maxRecDepth 20000 in
theorem gX7_wantedBy_X7_up : GoodIn wsX7_wantedBy (wsV RX7 103 RX7 yX7_up wsX7_up) := goodIn_app (goodIn_of _ (by decide +kernel)) ggX7_wantedBy_X7_up
theorem dX7_wantedBy_0 : decode cX7_wantedBy 0 = .ok (.aload_n 0, 1) := by decide +kernel
theorem dX7_wantedBy_1 : decode cX7_wantedBy 1 = .ok (.getfield 29, 3) := by decide +kernel
theorem dX7_wantedBy_4 : decode cX7_wantedBy 4 = .ok (.iconst 4, 1) := by decide +kernel
theorem dX7_wantedBy_5 : decode cX7_wantedBy 5 = .ok (.iaload, 1) := by decide +kernel
theorem dX7_wantedBy_6 : decode cX7_wantedBy 6 = .ok (.istore_n 1, 1) := by decide +kernel
theorem dX7_wantedBy_7 : decode cX7_wantedBy 7 = .ok (.aload_n 0, 1) := by decide +kernel
theorem dX7_wantedBy_8 : decode cX7_wantedBy 8 = .ok (.getfield 7, 3) := by decide +kernel
theorem dX7_wantedBy_11 : decode cX7_wantedBy 11 = .ok (.bipush 10, 2) := by decide +kernel
theorem dX7_wantedBy_13 : decode cX7_wantedBy 13 = .ok (.iaload, 1) := by decide +kernel
theorem dX7_wantedBy_14 : decode cX7_wantedBy 14 = .ok (.iconst 1, 1) := by decide +kernel
theorem dX7_wantedBy_15 : decode cX7_wantedBy 15 = .ok (.if_icmp .ne 23, 3) := by decide +kernel
theorem dX7_wantedBy_18 : decode cX7_wantedBy 18 = .ok (.iload_n 1, 1) := by decide +kernel
theorem dX7_wantedBy_19 : decode cX7_wantedBy 19 = .ok (.aload_n 0, 1) := by decide +kernel
theorem dX7_wantedBy_20 : decode cX7_wantedBy 20 = .ok (.getfield 7, 3) := by decide +kernel
theorem dX7_wantedBy_23 : decode cX7_wantedBy 23 = .ok (.bipush 11, 2) := by decide +kernel
theorem dX7_wantedBy_25 : decode cX7_wantedBy 25 = .ok (.iaload, 1) := by decide +kernel
theorem dX7_wantedBy_26 : decode cX7_wantedBy 26 = .ok (.iadd, 1) := by decide +kernel
theorem dX7_wantedBy_27 : decode cX7_wantedBy 27 = .ok (.iconst 1, 1) := by decide +kernel
theorem dX7_wantedBy_28 : decode cX7_wantedBy 28 = .ok (.isub, 1) := by decide +kernel
theorem dX7_wantedBy_29 : decode cX7_wantedBy 29 = .ok (.aload_n 0, 1) := by decide +kernel
theorem dX7_wantedBy_30 : decode cX7_wantedBy 30 = .ok (.getfield 7, 3) := by decide +kernel
theorem dX7_wantedBy_33 : decode cX7_wantedBy 33 = .ok (.bipush 11, 2) := by decide +kernel
theorem dX7_wantedBy_35 : decode cX7_wantedBy 35 = .ok (.iaload, 1) := by decide +kernel
theorem dX7_wantedBy_36 : decode cX7_wantedBy 36 = .ok (.idiv, 1) := by decide +kernel
theorem dX7_wantedBy_37 : decode cX7_wantedBy 37 = .ok (.ireturn, 1) := by decide +kernel
theorem dX7_wantedBy_38 : decode cX7_wantedBy 38 = .ok (.aload_n 0, 1) := by decide +kernel
theorem dX7_wantedBy_39 : decode cX7_wantedBy 39 = .ok (.getfield 7, 3) := by decide +kernel
theorem dX7_wantedBy_42 : decode cX7_wantedBy 42 = .ok (.bipush 10, 2) := by decide +kernel
theorem dX7_wantedBy_44 : decode cX7_wantedBy 44 = .ok (.iaload, 1) := by decide +kernel
theorem dX7_wantedBy_45 : decode cX7_wantedBy 45 = .ok (.iconst 2, 1) := by decide +kernel
theorem dX7_wantedBy_46 : decode cX7_wantedBy 46 = .ok (.if_icmp .ne 7, 3) := by decide +kernel
theorem dX7_wantedBy_49 : decode cX7_wantedBy 49 = .ok (.iconst 1, 1) := by decide +kernel
theorem dX7_wantedBy_50 : decode cX7_wantedBy 50 = .ok (.goto 4, 3) := by decide +kernel
theorem dX7_wantedBy_53 : decode cX7_wantedBy 53 = .ok (.iconst 0, 1) := by decide +kernel
theorem dX7_wantedBy_54 : decode cX7_wantedBy 54 = .ok (.istore_n 2, 1) := by decide +kernel
theorem dX7_wantedBy_55 : decode cX7_wantedBy 55 = .ok (.iload_n 2, 1) := by decide +kernel
theorem dX7_wantedBy_56 : decode cX7_wantedBy 56 = .ok (.ifCond .eq 29, 3) := by decide +kernel
theorem dX7_wantedBy_59 : decode cX7_wantedBy 59 = .ok (.iload_n 1, 1) := by decide +kernel
theorem dX7_wantedBy_60 : decode cX7_wantedBy 60 = .ok (.aload_n 0, 1) := by decide +kernel
theorem dX7_wantedBy_61 : decode cX7_wantedBy 61 = .ok (.getfield 7, 3) := by decide +kernel
theorem dX7_wantedBy_64 : decode cX7_wantedBy 64 = .ok (.bipush 12, 2) := by decide +kernel
theorem dX7_wantedBy_66 : decode cX7_wantedBy 66 = .ok (.iaload, 1) := by decide +kernel
theorem dX7_wantedBy_67 : decode cX7_wantedBy 67 = .ok (.if_icmp .le 18, 3) := by decide +kernel
theorem dX7_wantedBy_70 : decode cX7_wantedBy 70 = .ok (.aload_n 0, 1) := by decide +kernel
theorem dX7_wantedBy_71 : decode cX7_wantedBy 71 = .ok (.invokevirtual 103, 3) := by decide +kernel
theorem dX7_wantedBy_74 : decode cX7_wantedBy 74 = .ok (.aload_n 0, 1) := by decide +kernel
theorem dX7_wantedBy_75 : decode cX7_wantedBy 75 = .ok (.getfield 7, 3) := by decide +kernel
theorem dX7_wantedBy_78 : decode cX7_wantedBy 78 = .ok (.bipush 14, 2) := by decide +kernel
theorem dX7_wantedBy_80 : decode cX7_wantedBy 80 = .ok (.iaload, 1) := by decide +kernel
theorem dX7_wantedBy_81 : decode cX7_wantedBy 81 = .ok (.iadd, 1) := by decide +kernel
theorem dX7_wantedBy_82 : decode cX7_wantedBy 82 = .ok (.goto 37, 3) := by decide +kernel
theorem dX7_wantedBy_85 : decode cX7_wantedBy 85 = .ok (.iload_n 2, 1) := by decide +kernel
theorem dX7_wantedBy_86 : decode cX7_wantedBy 86 = .ok (.ifCond .eq 29, 3) := by decide +kernel
theorem dX7_wantedBy_89 : decode cX7_wantedBy 89 = .ok (.iload_n 1, 1) := by decide +kernel
theorem dX7_wantedBy_90 : decode cX7_wantedBy 90 = .ok (.aload_n 0, 1) := by decide +kernel
theorem dX7_wantedBy_91 : decode cX7_wantedBy 91 = .ok (.getfield 7, 3) := by decide +kernel
theorem dX7_wantedBy_94 : decode cX7_wantedBy 94 = .ok (.bipush 13, 2) := by decide +kernel
theorem dX7_wantedBy_96 : decode cX7_wantedBy 96 = .ok (.iaload, 1) := by decide +kernel
theorem dX7_wantedBy_97 : decode cX7_wantedBy 97 = .ok (.if_icmp .ge 18, 3) := by decide +kernel
theorem dX7_wantedBy_100 : decode cX7_wantedBy 100 = .ok (.aload_n 0, 1) := by decide +kernel
theorem dX7_wantedBy_101 : decode cX7_wantedBy 101 = .ok (.invokevirtual 103, 3) := by decide +kernel
theorem dX7_wantedBy_104 : decode cX7_wantedBy 104 = .ok (.aload_n 0, 1) := by decide +kernel
theorem dX7_wantedBy_105 : decode cX7_wantedBy 105 = .ok (.getfield 7, 3) := by decide +kernel
theorem dX7_wantedBy_108 : decode cX7_wantedBy 108 = .ok (.bipush 15, 2) := by decide +kernel
theorem dX7_wantedBy_110 : decode cX7_wantedBy 110 = .ok (.iaload, 1) := by decide +kernel
theorem dX7_wantedBy_111 : decode cX7_wantedBy 111 = .ok (.isub, 1) := by decide +kernel
theorem dX7_wantedBy_112 : decode cX7_wantedBy 112 = .ok (.goto 7, 3) := by decide +kernel
theorem dX7_wantedBy_115 : decode cX7_wantedBy 115 = .ok (.aload_n 0, 1) := by decide +kernel
theorem dX7_wantedBy_116 : decode cX7_wantedBy 116 = .ok (.invokevirtual 103, 3) := by decide +kernel
theorem dX7_wantedBy_119 : decode cX7_wantedBy 119 = .ok (.ireturn, 1) := by decide +kernel
theorem dX7_most_0 : decode cX7_most 0 = .ok (.iload_n 0, 1) := by decide +kernel
theorem dX7_most_1 : decode cX7_most 1 = .ok (.iload_n 1, 1) := by decide +kernel
theorem dX7_most_2 : decode cX7_most 2 = .ok (.if_icmp .le 7, 3) := by decide +kernel
theorem dX7_most_5 : decode cX7_most 5 = .ok (.iload_n 0, 1) := by decide +kernel
theorem dX7_most_6 : decode cX7_most 6 = .ok (.goto 4, 3) := by decide +kernel
theorem dX7_most_9 : decode cX7_most 9 = .ok (.iload_n 1, 1) := by decide +kernel
theorem dX7_most_10 : decode cX7_most 10 = .ok (.ireturn, 1) := by decide +kernel
theorem dX7_least_0 : decode cX7_least 0 = .ok (.iload_n 0, 1) := by decide +kernel
theorem dX7_least_1 : decode cX7_least 1 = .ok (.iload_n 1, 1) := by decide +kernel
theorem dX7_least_2 : decode cX7_least 2 = .ok (.if_icmp .ge 7, 3) := by decide +kernel
theorem dX7_least_5 : decode cX7_least 5 = .ok (.iload_n 0, 1) := by decide +kernel
theorem dX7_least_6 : decode cX7_least 6 = .ok (.goto 4, 3) := by decide +kernel
theorem dX7_least_9 : decode cX7_least 9 = .ok (.iload_n 1, 1) := by decide +kernel
theorem dX7_least_10 : decode cX7_least 10 = .ok (.ireturn, 1) := by decide +kernel
theorem dX7_add_0 : decode cX7_add 0 = .ok (.iload_n 1, 1) := by decide +kernel
theorem dX7_add_1 : decode cX7_add 1 = .ok (.istore_n 3, 1) := by decide +kernel
theorem dX7_add_2 : decode cX7_add 2 = .ok (.iconst 0, 1) := by decide +kernel
theorem dX7_add_3 : decode cX7_add 3 = .ok (.istore 4, 2) := by decide +kernel
theorem dX7_add_5 : decode cX7_add 5 = .ok (.iload 4, 2) := by decide +kernel
theorem dX7_add_7 : decode cX7_add 7 = .ok (.bipush 12, 2) := by decide +kernel
theorem dX7_add_9 : decode cX7_add 9 = .ok (.if_icmp .ge 42, 3) := by decide +kernel
theorem dX7_add_12 : decode cX7_add 12 = .ok (.iload_n 3, 1) := by decide +kernel
theorem dX7_add_13 : decode cX7_add 13 = .ok (.ifCond .le 38, 3) := by decide +kernel
theorem dX7_add_16 : decode cX7_add 16 = .ok (.aload_n 0, 1) := by decide +kernel
theorem dX7_add_17 : decode cX7_add 17 = .ok (.getfield 32, 3) := by decide +kernel
theorem dX7_add_20 : decode cX7_add 20 = .ok (.iload 4, 2) := by decide +kernel
theorem dX7_add_22 : decode cX7_add 22 = .ok (.iaload, 1) := by decide +kernel
theorem dX7_add_23 : decode cX7_add 23 = .ok (.ifCond .ne 22, 3) := by decide +kernel
theorem dX7_add_26 : decode cX7_add 26 = .ok (.aload_n 0, 1) := by decide +kernel
theorem dX7_add_27 : decode cX7_add 27 = .ok (.getfield 32, 3) := by decide +kernel
theorem dX7_add_30 : decode cX7_add 30 = .ok (.iload 4, 2) := by decide +kernel
theorem dX7_add_32 : decode cX7_add 32 = .ok (.iconst 1, 1) := by decide +kernel
theorem dX7_add_33 : decode cX7_add 33 = .ok (.iastore, 1) := by decide +kernel
theorem dX7_add_34 : decode cX7_add 34 = .ok (.aload_n 0, 1) := by decide +kernel
theorem dX7_add_35 : decode cX7_add 35 = .ok (.getfield 35, 3) := by decide +kernel
theorem dX7_add_38 : decode cX7_add 38 = .ok (.iload 4, 2) := by decide +kernel
theorem dX7_add_40 : decode cX7_add 40 = .ok (.iload_n 2, 1) := by decide +kernel
theorem dX7_add_41 : decode cX7_add 41 = .ok (.iastore, 1) := by decide +kernel
theorem dX7_add_42 : decode cX7_add 42 = .ok (.iinc 3 (-1), 3) := by decide +kernel
theorem dX7_add_45 : decode cX7_add 45 = .ok (.iinc 4 1, 3) := by decide +kernel
theorem dX7_add_48 : decode cX7_add 48 = .ok (.goto (-43), 3) := by decide +kernel
theorem dX7_add_51 : decode cX7_add 51 = .ok (.iload_n 3, 1) := by decide +kernel
theorem dX7_add_52 : decode cX7_add 52 = .ok (.iload_n 1, 1) := by decide +kernel
theorem dX7_add_53 : decode cX7_add 53 = .ok (.if_icmp .ge 7, 3) := by decide +kernel
theorem dX7_add_56 : decode cX7_add 56 = .ok (.iconst 1, 1) := by decide +kernel
theorem dX7_add_57 : decode cX7_add 57 = .ok (.goto 4, 3) := by decide +kernel
theorem dX7_add_60 : decode cX7_add 60 = .ok (.iconst 0, 1) := by decide +kernel
theorem dX7_add_61 : decode cX7_add 61 = .ok (.ireturn, 1) := by decide +kernel
theorem dX7_shed_0 : decode cX7_shed 0 = .ok (.iload_n 1, 1) := by decide +kernel
theorem dX7_shed_1 : decode cX7_shed 1 = .ok (.istore_n 3, 1) := by decide +kernel
theorem dX7_shed_2 : decode cX7_shed 2 = .ok (.bipush 11, 2) := by decide +kernel
theorem dX7_shed_4 : decode cX7_shed 4 = .ok (.istore 4, 2) := by decide +kernel
theorem dX7_shed_6 : decode cX7_shed 6 = .ok (.iload 4, 2) := by decide +kernel
theorem dX7_shed_8 : decode cX7_shed 8 = .ok (.ifCond .lt 35, 3) := by decide +kernel
theorem dX7_shed_11 : decode cX7_shed 11 = .ok (.iload_n 3, 1) := by decide +kernel
theorem dX7_shed_12 : decode cX7_shed 12 = .ok (.ifCond .le 31, 3) := by decide +kernel
theorem dX7_shed_15 : decode cX7_shed 15 = .ok (.aload_n 0, 1) := by decide +kernel
theorem dX7_shed_16 : decode cX7_shed 16 = .ok (.getfield 32, 3) := by decide +kernel
theorem dX7_shed_19 : decode cX7_shed 19 = .ok (.iload 4, 2) := by decide +kernel
theorem dX7_shed_21 : decode cX7_shed 21 = .ok (.iaload, 1) := by decide +kernel
theorem dX7_shed_22 : decode cX7_shed 22 = .ok (.iconst 1, 1) := by decide +kernel
theorem dX7_shed_23 : decode cX7_shed 23 = .ok (.if_icmp .ne 14, 3) := by decide +kernel
theorem dX7_shed_26 : decode cX7_shed 26 = .ok (.aload_n 0, 1) := by decide +kernel
theorem dX7_shed_27 : decode cX7_shed 27 = .ok (.getfield 32, 3) := by decide +kernel
theorem dX7_shed_30 : decode cX7_shed 30 = .ok (.iload 4, 2) := by decide +kernel
theorem dX7_shed_32 : decode cX7_shed 32 = .ok (.iconst 0, 1) := by decide +kernel
theorem dX7_shed_33 : decode cX7_shed 33 = .ok (.iastore, 1) := by decide +kernel
theorem dX7_shed_34 : decode cX7_shed 34 = .ok (.iinc 3 (-1), 3) := by decide +kernel
theorem dX7_shed_37 : decode cX7_shed 37 = .ok (.iinc 4 (-1), 3) := by decide +kernel
theorem dX7_shed_40 : decode cX7_shed 40 = .ok (.goto (-34), 3) := by decide +kernel
theorem dX7_shed_43 : decode cX7_shed 43 = .ok (.bipush 11, 2) := by decide +kernel
theorem dX7_shed_45 : decode cX7_shed 45 = .ok (.istore 4, 2) := by decide +kernel
theorem dX7_shed_47 : decode cX7_shed 47 = .ok (.iload 4, 2) := by decide +kernel
theorem dX7_shed_49 : decode cX7_shed 49 = .ok (.ifCond .lt 43, 3) := by decide +kernel
theorem dX7_shed_52 : decode cX7_shed 52 = .ok (.iload_n 3, 1) := by decide +kernel
theorem dX7_shed_53 : decode cX7_shed 53 = .ok (.ifCond .le 39, 3) := by decide +kernel
theorem dX7_shed_56 : decode cX7_shed 56 = .ok (.aload_n 0, 1) := by decide +kernel
theorem dX7_shed_57 : decode cX7_shed 57 = .ok (.getfield 32, 3) := by decide +kernel
theorem dX7_shed_60 : decode cX7_shed 60 = .ok (.iload 4, 2) := by decide +kernel
theorem dX7_shed_62 : decode cX7_shed 62 = .ok (.iaload, 1) := by decide +kernel
theorem dX7_shed_63 : decode cX7_shed 63 = .ok (.iconst 2, 1) := by decide +kernel
theorem dX7_shed_64 : decode cX7_shed 64 = .ok (.if_icmp .ne 22, 3) := by decide +kernel
theorem dX7_shed_67 : decode cX7_shed 67 = .ok (.aload_n 0, 1) := by decide +kernel
theorem dX7_shed_68 : decode cX7_shed 68 = .ok (.getfield 32, 3) := by decide +kernel
theorem dX7_shed_71 : decode cX7_shed 71 = .ok (.iload 4, 2) := by decide +kernel
theorem dX7_shed_73 : decode cX7_shed 73 = .ok (.iconst 3, 1) := by decide +kernel
theorem dX7_shed_74 : decode cX7_shed 74 = .ok (.iastore, 1) := by decide +kernel
theorem dX7_shed_75 : decode cX7_shed 75 = .ok (.aload_n 0, 1) := by decide +kernel
theorem dX7_shed_76 : decode cX7_shed 76 = .ok (.getfield 35, 3) := by decide +kernel
theorem dX7_shed_79 : decode cX7_shed 79 = .ok (.iload 4, 2) := by decide +kernel
theorem dX7_shed_81 : decode cX7_shed 81 = .ok (.iload_n 2, 1) := by decide +kernel
theorem dX7_shed_82 : decode cX7_shed 82 = .ok (.iastore, 1) := by decide +kernel
theorem dX7_shed_83 : decode cX7_shed 83 = .ok (.iinc 3 (-1), 3) := by decide +kernel
theorem dX7_shed_86 : decode cX7_shed 86 = .ok (.iinc 4 (-1), 3) := by decide +kernel
theorem dX7_shed_89 : decode cX7_shed 89 = .ok (.goto (-42), 3) := by decide +kernel
theorem dX7_shed_92 : decode cX7_shed 92 = .ok (.return_, 1) := by decide +kernel
set_option maxRecDepth 20000 in
theorem ggX7_change_X7_most : GoodIn wsX7_change wsX7_most := goodIn_r _ [7] (by decide +kernel) (by decide +kernel)
set_option maxRecDepth 20000 in
theorem gX7_change_X7_most : GoodIn wsX7_change (va_wsS RX7 107 yX7_most wsX7_most) := goodIn_app (goodIn_of _ (by decide +kernel)) ggX7_change_X7_most
set_option maxRecDepth 20000 in
theorem ggX7_change_X7_least : GoodIn wsX7_change wsX7_least := goodIn_r _ [10] (by decide +kernel) (by decide +kernel)
set_option maxRecDepth 20000 in
theorem gX7_change_X7_least : GoodIn wsX7_change (va_wsS RX7 111 yX7_least wsX7_least) := goodIn_app (goodIn_of _ (by decide +kernel)) ggX7_change_X7_least
set_option maxRecDepth 20000 in
theorem ggX7_change_X7_wantedBy : GoodIn wsX7_change wsX7_wantedBy := goodIn_r _ [14, 3, 2, 15, 16, 17, 6, 18, 19, 20, 21, 22, 23, 33, 34, 35, 36, 37, 38, 39, 40, 41, 42, 43, 44, 45, 46, 47, 48, 49, 50, 51, 52, 53, 54] (by decide +kernel) (by decide +kernel)
set_option maxRecDepth 20000 in
theorem gX7_change_X7_wantedBy : GoodIn wsX7_change (wsV RX7 114 RX7 yX7_wantedBy wsX7_wantedBy) := goodIn_app (goodIn_of _ (by decide +kernel)) ggX7_change_X7_wantedBy
set_option maxRecDepth 20000 in
theorem ggX7_change_X7_up : GoodIn wsX7_change wsX7_up := goodIn_r _ [18, 19, 20, 21, 6, 22, 23, 33, 34, 35, 36, 37, 38, 39, 40, 41, 42, 43, 44, 45, 46, 47, 48, 49, 50, 51, 52, 53, 54] (by decide +kernel) (by decide +kernel)
set_option maxRecDepth 20000 in
theorem gX7_change_X7_up : GoodIn wsX7_change (wsV RX7 103 RX7 yX7_up wsX7_up) := goodIn_app (goodIn_of _ (by decide +kernel)) ggX7_change_X7_up
set_option maxRecDepth 20000 in
theorem ggX7_change_X7_add : GoodIn wsX7_change wsX7_add := goodIn_r _ [27, 23, 28, 33, 34, 35, 36, 37, 38, 39, 40, 41, 42, 43, 44, 45, 46, 47, 48, 49, 50, 51, 52, 53, 54] (by decide +kernel) (by decide +kernel)
set_option maxRecDepth 20000 in
theorem gX7_change_X7_add : GoodIn wsX7_change (wsV RX7 117 RX7 yX7_add wsX7_add) := goodIn_app (goodIn_of _ (by decide +kernel)) ggX7_change_X7_add
set_option maxRecDepth 20000 in
theorem ggX7_change_X7_shed : GoodIn wsX7_change wsX7_shed := goodIn_r _ [32, 23, 28, 33, 34, 35, 36, 37, 38, 39, 40, 41, 42, 43, 44, 45, 46, 47, 48, 49, 50, 51, 52, 53, 54] (by decide +kernel) (by decide +kernel)
set_option maxRecDepth 20000 in
theorem gX7_change_X7_shed : GoodIn wsX7_change (wsV RX7 121 RX7 yX7_shed wsX7_shed) := goodIn_app (goodIn_of _ (by decide +kernel)) ggX7_change_X7_shed
theorem dX7_change_0 : decode cX7_change 0 = .ok (.aload_n 0, 1) := by decide +kernel
theorem dX7_change_1 : decode cX7_change 1 = .ok (.getfield 26, 3) := by decide +kernel
theorem dX7_change_4 : decode cX7_change 4 = .ok (.iload_n 1, 1) := by decide +kernel
theorem dX7_change_5 : decode cX7_change 5 = .ok (.bipush 24, 2) := by decide +kernel
theorem dX7_change_7 : decode cX7_change 7 = .ok (.irem, 1) := by decide +kernel
theorem dX7_change_8 : decode cX7_change 8 = .ok (.iaload, 1) := by decide +kernel
theorem dX7_change_9 : decode cX7_change 9 = .ok (.aload_n 0, 1) := by decide +kernel
theorem dX7_change_10 : decode cX7_change 10 = .ok (.getfield 7, 3) := by decide +kernel
theorem dX7_change_13 : decode cX7_change 13 = .ok (.bipush 7, 2) := by decide +kernel
theorem dX7_change_15 : decode cX7_change 15 = .ok (.iaload, 1) := by decide +kernel
theorem dX7_change_16 : decode cX7_change 16 = .ok (.invokestatic 107, 3) := by decide +kernel
theorem dX7_change_19 : decode cX7_change 19 = .ok (.aload_n 0, 1) := by decide +kernel
theorem dX7_change_20 : decode cX7_change 20 = .ok (.getfield 7, 3) := by decide +kernel
theorem dX7_change_23 : decode cX7_change 23 = .ok (.bipush 8, 2) := by decide +kernel
theorem dX7_change_25 : decode cX7_change 25 = .ok (.iaload, 1) := by decide +kernel
theorem dX7_change_26 : decode cX7_change 26 = .ok (.invokestatic 111, 3) := by decide +kernel
theorem dX7_change_29 : decode cX7_change 29 = .ok (.istore_n 2, 1) := by decide +kernel
theorem dX7_change_30 : decode cX7_change 30 = .ok (.aload_n 0, 1) := by decide +kernel
theorem dX7_change_31 : decode cX7_change 31 = .ok (.invokevirtual 114, 3) := by decide +kernel
theorem dX7_change_34 : decode cX7_change 34 = .ok (.aload_n 0, 1) := by decide +kernel
theorem dX7_change_35 : decode cX7_change 35 = .ok (.getfield 26, 3) := by decide +kernel
theorem dX7_change_38 : decode cX7_change 38 = .ok (.iload_n 1, 1) := by decide +kernel
theorem dX7_change_39 : decode cX7_change 39 = .ok (.bipush 24, 2) := by decide +kernel
theorem dX7_change_41 : decode cX7_change 41 = .ok (.irem, 1) := by decide +kernel
theorem dX7_change_42 : decode cX7_change 42 = .ok (.iaload, 1) := by decide +kernel
theorem dX7_change_43 : decode cX7_change 43 = .ok (.aload_n 0, 1) := by decide +kernel
theorem dX7_change_44 : decode cX7_change 44 = .ok (.getfield 7, 3) := by decide +kernel
theorem dX7_change_47 : decode cX7_change 47 = .ok (.bipush 7, 2) := by decide +kernel
theorem dX7_change_49 : decode cX7_change 49 = .ok (.iaload, 1) := by decide +kernel
theorem dX7_change_50 : decode cX7_change 50 = .ok (.invokestatic 107, 3) := by decide +kernel
theorem dX7_change_53 : decode cX7_change 53 = .ok (.invokestatic 107, 3) := by decide +kernel
theorem dX7_change_56 : decode cX7_change 56 = .ok (.aload_n 0, 1) := by decide +kernel
theorem dX7_change_57 : decode cX7_change 57 = .ok (.getfield 7, 3) := by decide +kernel
theorem dX7_change_60 : decode cX7_change 60 = .ok (.bipush 8, 2) := by decide +kernel
theorem dX7_change_62 : decode cX7_change 62 = .ok (.iaload, 1) := by decide +kernel
theorem dX7_change_63 : decode cX7_change 63 = .ok (.invokestatic 111, 3) := by decide +kernel
theorem dX7_change_66 : decode cX7_change 66 = .ok (.istore_n 3, 1) := by decide +kernel
theorem dX7_change_67 : decode cX7_change 67 = .ok (.aload_n 0, 1) := by decide +kernel
theorem dX7_change_68 : decode cX7_change 68 = .ok (.getfield 29, 3) := by decide +kernel
theorem dX7_change_71 : decode cX7_change 71 = .ok (.iconst 5, 1) := by decide +kernel
theorem dX7_change_72 : decode cX7_change 72 = .ok (.iload_n 3, 1) := by decide +kernel
theorem dX7_change_73 : decode cX7_change 73 = .ok (.iastore, 1) := by decide +kernel
theorem dX7_change_74 : decode cX7_change 74 = .ok (.aload_n 0, 1) := by decide +kernel
theorem dX7_change_75 : decode cX7_change 75 = .ok (.invokevirtual 103, 3) := by decide +kernel
theorem dX7_change_78 : decode cX7_change 78 = .ok (.istore 4, 2) := by decide +kernel
theorem dX7_change_80 : decode cX7_change 80 = .ok (.aload_n 0, 1) := by decide +kernel
theorem dX7_change_81 : decode cX7_change 81 = .ok (.getfield 29, 3) := by decide +kernel
theorem dX7_change_84 : decode cX7_change 84 = .ok (.bipush 6, 2) := by decide +kernel
theorem dX7_change_86 : decode cX7_change 86 = .ok (.iaload, 1) := by decide +kernel
theorem dX7_change_87 : decode cX7_change 87 = .ok (.ifCond .lt 26, 3) := by decide +kernel
theorem dX7_change_90 : decode cX7_change 90 = .ok (.iload_n 1, 1) := by decide +kernel
theorem dX7_change_91 : decode cX7_change 91 = .ok (.aload_n 0, 1) := by decide +kernel
theorem dX7_change_92 : decode cX7_change 92 = .ok (.getfield 29, 3) := by decide +kernel
theorem dX7_change_95 : decode cX7_change 95 = .ok (.bipush 6, 2) := by decide +kernel
theorem dX7_change_97 : decode cX7_change 97 = .ok (.iaload, 1) := by decide +kernel
theorem dX7_change_98 : decode cX7_change 98 = .ok (.isub, 1) := by decide +kernel
theorem dX7_change_99 : decode cX7_change 99 = .ok (.aload_n 0, 1) := by decide +kernel
theorem dX7_change_100 : decode cX7_change 100 = .ok (.getfield 7, 3) := by decide +kernel
theorem dX7_change_103 : decode cX7_change 103 = .ok (.bipush 9, 2) := by decide +kernel
theorem dX7_change_105 : decode cX7_change 105 = .ok (.iaload, 1) := by decide +kernel
theorem dX7_change_106 : decode cX7_change 106 = .ok (.if_icmp .ge 7, 3) := by decide +kernel
theorem dX7_change_109 : decode cX7_change 109 = .ok (.iconst 1, 1) := by decide +kernel
theorem dX7_change_110 : decode cX7_change 110 = .ok (.goto 4, 3) := by decide +kernel
theorem dX7_change_113 : decode cX7_change 113 = .ok (.iconst 0, 1) := by decide +kernel
theorem dX7_change_114 : decode cX7_change 114 = .ok (.istore 5, 2) := by decide +kernel
theorem dX7_change_116 : decode cX7_change 116 = .ok (.iload 5, 2) := by decide +kernel
theorem dX7_change_118 : decode cX7_change 118 = .ok (.ifCond .ne 7, 3) := by decide +kernel
theorem dX7_change_121 : decode cX7_change 121 = .ok (.iload_n 3, 1) := by decide +kernel
theorem dX7_change_122 : decode cX7_change 122 = .ok (.goto 15, 3) := by decide +kernel
theorem dX7_change_125 : decode cX7_change 125 = .ok (.iload 4, 2) := by decide +kernel
theorem dX7_change_127 : decode cX7_change 127 = .ok (.iload_n 2, 1) := by decide +kernel
theorem dX7_change_128 : decode cX7_change 128 = .ok (.if_icmp .ge 7, 3) := by decide +kernel
theorem dX7_change_131 : decode cX7_change 131 = .ok (.iload_n 2, 1) := by decide +kernel
theorem dX7_change_132 : decode cX7_change 132 = .ok (.goto 5, 3) := by decide +kernel
theorem dX7_change_135 : decode cX7_change 135 = .ok (.iload 4, 2) := by decide +kernel
theorem dX7_change_137 : decode cX7_change 137 = .ok (.istore 6, 2) := by decide +kernel
theorem dX7_change_139 : decode cX7_change 139 = .ok (.iconst 0, 1) := by decide +kernel
theorem dX7_change_140 : decode cX7_change 140 = .ok (.istore 7, 2) := by decide +kernel
theorem dX7_change_142 : decode cX7_change 142 = .ok (.iload 6, 2) := by decide +kernel
theorem dX7_change_144 : decode cX7_change 144 = .ok (.iload 4, 2) := by decide +kernel
theorem dX7_change_146 : decode cX7_change 146 = .ok (.if_icmp .le 18, 3) := by decide +kernel
theorem dX7_change_149 : decode cX7_change 149 = .ok (.aload_n 0, 1) := by decide +kernel
theorem dX7_change_150 : decode cX7_change 150 = .ok (.iload 6, 2) := by decide +kernel
theorem dX7_change_152 : decode cX7_change 152 = .ok (.iload 4, 2) := by decide +kernel
theorem dX7_change_154 : decode cX7_change 154 = .ok (.isub, 1) := by decide +kernel
theorem dX7_change_155 : decode cX7_change 155 = .ok (.iload_n 1, 1) := by decide +kernel
theorem dX7_change_156 : decode cX7_change 156 = .ok (.invokevirtual 117, 3) := by decide +kernel
theorem dX7_change_159 : decode cX7_change 159 = .ok (.istore 7, 2) := by decide +kernel
theorem dX7_change_161 : decode cX7_change 161 = .ok (.goto 23, 3) := by decide +kernel
theorem dX7_change_164 : decode cX7_change 164 = .ok (.iload 6, 2) := by decide +kernel
theorem dX7_change_166 : decode cX7_change 166 = .ok (.iload 4, 2) := by decide +kernel
theorem dX7_change_168 : decode cX7_change 168 = .ok (.if_icmp .ge 16, 3) := by decide +kernel
theorem dX7_change_171 : decode cX7_change 171 = .ok (.aload_n 0, 1) := by decide +kernel
theorem dX7_change_172 : decode cX7_change 172 = .ok (.iload 4, 2) := by decide +kernel
theorem dX7_change_174 : decode cX7_change 174 = .ok (.iload 6, 2) := by decide +kernel
theorem dX7_change_176 : decode cX7_change 176 = .ok (.isub, 1) := by decide +kernel
theorem dX7_change_177 : decode cX7_change 177 = .ok (.iload_n 1, 1) := by decide +kernel
theorem dX7_change_178 : decode cX7_change 178 = .ok (.invokevirtual 121, 3) := by decide +kernel
theorem dX7_change_181 : decode cX7_change 181 = .ok (.iconst 1, 1) := by decide +kernel
theorem dX7_change_182 : decode cX7_change 182 = .ok (.istore 7, 2) := by decide +kernel
theorem dX7_change_184 : decode cX7_change 184 = .ok (.aload_n 0, 1) := by decide +kernel
theorem dX7_change_185 : decode cX7_change 185 = .ok (.getfield 29, 3) := by decide +kernel
theorem dX7_change_188 : decode cX7_change 188 = .ok (.bipush 6, 2) := by decide +kernel
theorem dX7_change_190 : decode cX7_change 190 = .ok (.iload 7, 2) := by decide +kernel
theorem dX7_change_192 : decode cX7_change 192 = .ok (.ifCond .eq 7, 3) := by decide +kernel
theorem dX7_change_195 : decode cX7_change 195 = .ok (.iload_n 1, 1) := by decide +kernel
theorem dX7_change_196 : decode cX7_change 196 = .ok (.goto 10, 3) := by decide +kernel
theorem dX7_change_199 : decode cX7_change 199 = .ok (.aload_n 0, 1) := by decide +kernel
theorem dX7_change_200 : decode cX7_change 200 = .ok (.getfield 29, 3) := by decide +kernel
theorem dX7_change_203 : decode cX7_change 203 = .ok (.bipush 6, 2) := by decide +kernel
theorem dX7_change_205 : decode cX7_change 205 = .ok (.iaload, 1) := by decide +kernel
theorem dX7_change_206 : decode cX7_change 206 = .ok (.iastore, 1) := by decide +kernel
theorem dX7_change_207 : decode cX7_change 207 = .ok (.return_, 1) := by decide +kernel
set_option maxRecDepth 20000 in
theorem ggX7_serve_X7_least : GoodIn wsX7_serve wsX7_least := goodIn_r _ [6] (by decide +kernel) (by decide +kernel)
set_option maxRecDepth 20000 in
theorem gX7_serve_X7_least : GoodIn wsX7_serve (va_wsS RX7 111 yX7_least wsX7_least) := goodIn_app (goodIn_of _ (by decide +kernel)) ggX7_serve_X7_least
theorem dX7_serve_0 : decode cX7_serve 0 = .ok (.iload_n 1, 1) := by decide +kernel
theorem dX7_serve_1 : decode cX7_serve 1 = .ok (.istore_n 2, 1) := by decide +kernel
theorem dX7_serve_2 : decode cX7_serve 2 = .ok (.iconst 0, 1) := by decide +kernel
theorem dX7_serve_3 : decode cX7_serve 3 = .ok (.istore_n 3, 1) := by decide +kernel
theorem dX7_serve_4 : decode cX7_serve 4 = .ok (.iload_n 3, 1) := by decide +kernel
theorem dX7_serve_5 : decode cX7_serve 5 = .ok (.aload_n 0, 1) := by decide +kernel
theorem dX7_serve_6 : decode cX7_serve 6 = .ok (.getfield 53, 3) := by decide +kernel
theorem dX7_serve_9 : decode cX7_serve 9 = .ok (.iconst 0, 1) := by decide +kernel
theorem dX7_serve_10 : decode cX7_serve 10 = .ok (.iaload, 1) := by decide +kernel
theorem dX7_serve_11 : decode cX7_serve 11 = .ok (.if_icmp .ge 37, 3) := by decide +kernel
theorem dX7_serve_14 : decode cX7_serve 14 = .ok (.iload_n 2, 1) := by decide +kernel
theorem dX7_serve_15 : decode cX7_serve 15 = .ok (.aload_n 0, 1) := by decide +kernel
theorem dX7_serve_16 : decode cX7_serve 16 = .ok (.getfield 44, 3) := by decide +kernel
theorem dX7_serve_19 : decode cX7_serve 19 = .ok (.iload_n 3, 1) := by decide +kernel
theorem dX7_serve_20 : decode cX7_serve 20 = .ok (.iaload, 1) := by decide +kernel
theorem dX7_serve_21 : decode cX7_serve 21 = .ok (.invokestatic 111, 3) := by decide +kernel
theorem dX7_serve_24 : decode cX7_serve 24 = .ok (.istore 4, 2) := by decide +kernel
theorem dX7_serve_26 : decode cX7_serve 26 = .ok (.aload_n 0, 1) := by decide +kernel
theorem dX7_serve_27 : decode cX7_serve 27 = .ok (.getfield 44, 3) := by decide +kernel
theorem dX7_serve_30 : decode cX7_serve 30 = .ok (.iload_n 3, 1) := by decide +kernel
theorem dX7_serve_31 : decode cX7_serve 31 = .ok (.dup2, 1) := by decide +kernel
theorem dX7_serve_32 : decode cX7_serve 32 = .ok (.iaload, 1) := by decide +kernel
theorem dX7_serve_33 : decode cX7_serve 33 = .ok (.iload 4, 2) := by decide +kernel
theorem dX7_serve_35 : decode cX7_serve 35 = .ok (.isub, 1) := by decide +kernel
theorem dX7_serve_36 : decode cX7_serve 36 = .ok (.iastore, 1) := by decide +kernel
theorem dX7_serve_37 : decode cX7_serve 37 = .ok (.iload_n 2, 1) := by decide +kernel
theorem dX7_serve_38 : decode cX7_serve 38 = .ok (.iload 4, 2) := by decide +kernel
theorem dX7_serve_40 : decode cX7_serve 40 = .ok (.isub, 1) := by decide +kernel
theorem dX7_serve_41 : decode cX7_serve 41 = .ok (.istore_n 2, 1) := by decide +kernel
theorem dX7_serve_42 : decode cX7_serve 42 = .ok (.iinc 3 1, 3) := by decide +kernel
theorem dX7_serve_45 : decode cX7_serve 45 = .ok (.goto (-41), 3) := by decide +kernel
theorem dX7_serve_48 : decode cX7_serve 48 = .ok (.iload_n 1, 1) := by decide +kernel
theorem dX7_serve_49 : decode cX7_serve 49 = .ok (.iload_n 2, 1) := by decide +kernel
theorem dX7_serve_50 : decode cX7_serve 50 = .ok (.isub, 1) := by decide +kernel
theorem dX7_serve_51 : decode cX7_serve 51 = .ok (.ireturn, 1) := by decide +kernel
theorem dX7_goAway_0 : decode cX7_goAway 0 = .ok (.iconst 0, 1) := by decide +kernel
theorem dX7_goAway_1 : decode cX7_goAway 1 = .ok (.istore_n 2, 1) := by decide +kernel
theorem dX7_goAway_2 : decode cX7_goAway 2 = .ok (.iconst 0, 1) := by decide +kernel
theorem dX7_goAway_3 : decode cX7_goAway 3 = .ok (.istore_n 3, 1) := by decide +kernel
theorem dX7_goAway_4 : decode cX7_goAway 4 = .ok (.aload_n 0, 1) := by decide +kernel
theorem dX7_goAway_5 : decode cX7_goAway 5 = .ok (.getfield 53, 3) := by decide +kernel
theorem dX7_goAway_8 : decode cX7_goAway 8 = .ok (.iconst 1, 1) := by decide +kernel
theorem dX7_goAway_9 : decode cX7_goAway 9 = .ok (.iconst 0, 1) := by decide +kernel
theorem dX7_goAway_10 : decode cX7_goAway 10 = .ok (.iastore, 1) := by decide +kernel
theorem dX7_goAway_11 : decode cX7_goAway 11 = .ok (.iconst 0, 1) := by decide +kernel
theorem dX7_goAway_12 : decode cX7_goAway 12 = .ok (.istore 4, 2) := by decide +kernel
theorem dX7_goAway_14 : decode cX7_goAway 14 = .ok (.iload 4, 2) := by decide +kernel
theorem dX7_goAway_16 : decode cX7_goAway 16 = .ok (.aload_n 0, 1) := by decide +kernel
theorem dX7_goAway_17 : decode cX7_goAway 17 = .ok (.getfield 53, 3) := by decide +kernel
theorem dX7_goAway_20 : decode cX7_goAway 20 = .ok (.iconst 0, 1) := by decide +kernel
theorem dX7_goAway_21 : decode cX7_goAway 21 = .ok (.iaload, 1) := by decide +kernel
theorem dX7_goAway_22 : decode cX7_goAway 22 = .ok (.if_icmp .ge 188, 3) := by decide +kernel
theorem dX7_goAway_25 : decode cX7_goAway 25 = .ok (.aload_n 0, 1) := by decide +kernel
theorem dX7_goAway_26 : decode cX7_goAway 26 = .ok (.getfield 38, 3) := by decide +kernel
theorem dX7_goAway_29 : decode cX7_goAway 29 = .ok (.iload 4, 2) := by decide +kernel
theorem dX7_goAway_31 : decode cX7_goAway 31 = .ok (.iaload, 1) := by decide +kernel
theorem dX7_goAway_32 : decode cX7_goAway 32 = .ok (.iload_n 1, 1) := by decide +kernel
theorem dX7_goAway_33 : decode cX7_goAway 33 = .ok (.aload_n 0, 1) := by decide +kernel
theorem dX7_goAway_34 : decode cX7_goAway 34 = .ok (.getfield 7, 3) := by decide +kernel
theorem dX7_goAway_37 : decode cX7_goAway 37 = .ok (.iconst 3, 1) := by decide +kernel
theorem dX7_goAway_38 : decode cX7_goAway 38 = .ok (.iaload, 1) := by decide +kernel
theorem dX7_goAway_39 : decode cX7_goAway 39 = .ok (.isub, 1) := by decide +kernel
theorem dX7_goAway_40 : decode cX7_goAway 40 = .ok (.iconst 1, 1) := by decide +kernel
theorem dX7_goAway_41 : decode cX7_goAway 41 = .ok (.iadd, 1) := by decide +kernel
theorem dX7_goAway_42 : decode cX7_goAway 42 = .ok (.if_icmp .gt 7, 3) := by decide +kernel
theorem dX7_goAway_45 : decode cX7_goAway 45 = .ok (.iconst 1, 1) := by decide +kernel
theorem dX7_goAway_46 : decode cX7_goAway 46 = .ok (.goto 4, 3) := by decide +kernel
theorem dX7_goAway_49 : decode cX7_goAway 49 = .ok (.iconst 0, 1) := by decide +kernel
theorem dX7_goAway_50 : decode cX7_goAway 50 = .ok (.istore 5, 2) := by decide +kernel
theorem dX7_goAway_52 : decode cX7_goAway 52 = .ok (.iload 5, 2) := by decide +kernel
theorem dX7_goAway_54 : decode cX7_goAway 54 = .ok (.ifCond .eq 80, 3) := by decide +kernel
theorem dX7_goAway_57 : decode cX7_goAway 57 = .ok (.aload_n 0, 1) := by decide +kernel
theorem dX7_goAway_58 : decode cX7_goAway 58 = .ok (.getfield 41, 3) := by decide +kernel
theorem dX7_goAway_61 : decode cX7_goAway 61 = .ok (.iload 4, 2) := by decide +kernel
theorem dX7_goAway_63 : decode cX7_goAway 63 = .ok (.iaload, 1) := by decide +kernel
theorem dX7_goAway_64 : decode cX7_goAway 64 = .ok (.aload_n 0, 1) := by decide +kernel
theorem dX7_goAway_65 : decode cX7_goAway 65 = .ok (.getfield 7, 3) := by decide +kernel
theorem dX7_goAway_68 : decode cX7_goAway 68 = .ok (.iconst 4, 1) := by decide +kernel
theorem dX7_goAway_69 : decode cX7_goAway 69 = .ok (.iaload, 1) := by decide +kernel
theorem dX7_goAway_70 : decode cX7_goAway 70 = .ok (.if_icmp .ge 64, 3) := by decide +kernel
theorem dX7_goAway_73 : decode cX7_goAway 73 = .ok (.aload_n 0, 1) := by decide +kernel
theorem dX7_goAway_74 : decode cX7_goAway 74 = .ok (.getfield 44, 3) := by decide +kernel
theorem dX7_goAway_77 : decode cX7_goAway 77 = .ok (.iload 4, 2) := by decide +kernel
theorem dX7_goAway_79 : decode cX7_goAway 79 = .ok (.iaload, 1) := by decide +kernel
theorem dX7_goAway_80 : decode cX7_goAway 80 = .ok (.ifCond .le 124, 3) := by decide +kernel
theorem dX7_goAway_83 : decode cX7_goAway 83 = .ok (.aload_n 0, 1) := by decide +kernel
theorem dX7_goAway_84 : decode cX7_goAway 84 = .ok (.getfield 47, 3) := by decide +kernel
theorem dX7_goAway_87 : decode cX7_goAway 87 = .ok (.aload_n 0, 1) := by decide +kernel
theorem dX7_goAway_88 : decode cX7_goAway 88 = .ok (.getfield 53, 3) := by decide +kernel
theorem dX7_goAway_91 : decode cX7_goAway 91 = .ok (.iconst 1, 1) := by decide +kernel
theorem dX7_goAway_92 : decode cX7_goAway 92 = .ok (.iaload, 1) := by decide +kernel
theorem dX7_goAway_93 : decode cX7_goAway 93 = .ok (.aload_n 0, 1) := by decide +kernel
theorem dX7_goAway_94 : decode cX7_goAway 94 = .ok (.getfield 41, 3) := by decide +kernel
theorem dX7_goAway_97 : decode cX7_goAway 97 = .ok (.iload 4, 2) := by decide +kernel
theorem dX7_goAway_99 : decode cX7_goAway 99 = .ok (.iaload, 1) := by decide +kernel
theorem dX7_goAway_100 : decode cX7_goAway 100 = .ok (.iconst 1, 1) := by decide +kernel
theorem dX7_goAway_101 : decode cX7_goAway 101 = .ok (.iadd, 1) := by decide +kernel
theorem dX7_goAway_102 : decode cX7_goAway 102 = .ok (.iastore, 1) := by decide +kernel
theorem dX7_goAway_103 : decode cX7_goAway 103 = .ok (.aload_n 0, 1) := by decide +kernel
theorem dX7_goAway_104 : decode cX7_goAway 104 = .ok (.getfield 50, 3) := by decide +kernel
theorem dX7_goAway_107 : decode cX7_goAway 107 = .ok (.aload_n 0, 1) := by decide +kernel
theorem dX7_goAway_108 : decode cX7_goAway 108 = .ok (.getfield 53, 3) := by decide +kernel
theorem dX7_goAway_111 : decode cX7_goAway 111 = .ok (.iconst 1, 1) := by decide +kernel
theorem dX7_goAway_112 : decode cX7_goAway 112 = .ok (.iaload, 1) := by decide +kernel
theorem dX7_goAway_113 : decode cX7_goAway 113 = .ok (.aload_n 0, 1) := by decide +kernel
theorem dX7_goAway_114 : decode cX7_goAway 114 = .ok (.getfield 44, 3) := by decide +kernel
theorem dX7_goAway_117 : decode cX7_goAway 117 = .ok (.iload 4, 2) := by decide +kernel
theorem dX7_goAway_119 : decode cX7_goAway 119 = .ok (.iaload, 1) := by decide +kernel
theorem dX7_goAway_120 : decode cX7_goAway 120 = .ok (.iastore, 1) := by decide +kernel
theorem dX7_goAway_121 : decode cX7_goAway 121 = .ok (.aload_n 0, 1) := by decide +kernel
theorem dX7_goAway_122 : decode cX7_goAway 122 = .ok (.getfield 53, 3) := by decide +kernel
theorem dX7_goAway_125 : decode cX7_goAway 125 = .ok (.iconst 1, 1) := by decide +kernel
theorem dX7_goAway_126 : decode cX7_goAway 126 = .ok (.dup2, 1) := by decide +kernel
theorem dX7_goAway_127 : decode cX7_goAway 127 = .ok (.iaload, 1) := by decide +kernel
theorem dX7_goAway_128 : decode cX7_goAway 128 = .ok (.iconst 1, 1) := by decide +kernel
theorem dX7_goAway_129 : decode cX7_goAway 129 = .ok (.iadd, 1) := by decide +kernel
theorem dX7_goAway_130 : decode cX7_goAway 130 = .ok (.iastore, 1) := by decide +kernel
theorem dX7_goAway_131 : decode cX7_goAway 131 = .ok (.goto 73, 3) := by decide +kernel
theorem dX7_goAway_134 : decode cX7_goAway 134 = .ok (.iload 5, 2) := by decide +kernel
theorem dX7_goAway_136 : decode cX7_goAway 136 = .ok (.ifCond .eq 16, 3) := by decide +kernel
theorem dX7_goAway_139 : decode cX7_goAway 139 = .ok (.iload_n 2, 1) := by decide +kernel
theorem dX7_goAway_140 : decode cX7_goAway 140 = .ok (.aload_n 0, 1) := by decide +kernel
theorem dX7_goAway_141 : decode cX7_goAway 141 = .ok (.getfield 44, 3) := by decide +kernel
theorem dX7_goAway_144 : decode cX7_goAway 144 = .ok (.iload 4, 2) := by decide +kernel
theorem dX7_goAway_146 : decode cX7_goAway 146 = .ok (.iaload, 1) := by decide +kernel
theorem dX7_goAway_147 : decode cX7_goAway 147 = .ok (.iadd, 1) := by decide +kernel
theorem dX7_goAway_148 : decode cX7_goAway 148 = .ok (.istore_n 2, 1) := by decide +kernel
theorem dX7_goAway_149 : decode cX7_goAway 149 = .ok (.goto 55, 3) := by decide +kernel
theorem dX7_goAway_152 : decode cX7_goAway 152 = .ok (.aload_n 0, 1) := by decide +kernel
theorem dX7_goAway_153 : decode cX7_goAway 153 = .ok (.getfield 44, 3) := by decide +kernel
theorem dX7_goAway_156 : decode cX7_goAway 156 = .ok (.iload 4, 2) := by decide +kernel
theorem dX7_goAway_158 : decode cX7_goAway 158 = .ok (.iaload, 1) := by decide +kernel
theorem dX7_goAway_159 : decode cX7_goAway 159 = .ok (.ifCond .le 45, 3) := by decide +kernel
theorem dX7_goAway_162 : decode cX7_goAway 162 = .ok (.aload_n 0, 1) := by decide +kernel
theorem dX7_goAway_163 : decode cX7_goAway 163 = .ok (.getfield 38, 3) := by decide +kernel
theorem dX7_goAway_166 : decode cX7_goAway 166 = .ok (.iload_n 3, 1) := by decide +kernel
theorem dX7_goAway_167 : decode cX7_goAway 167 = .ok (.aload_n 0, 1) := by decide +kernel
theorem dX7_goAway_168 : decode cX7_goAway 168 = .ok (.getfield 38, 3) := by decide +kernel
theorem dX7_goAway_171 : decode cX7_goAway 171 = .ok (.iload 4, 2) := by decide +kernel
theorem dX7_goAway_173 : decode cX7_goAway 173 = .ok (.iaload, 1) := by decide +kernel
theorem dX7_goAway_174 : decode cX7_goAway 174 = .ok (.iastore, 1) := by decide +kernel
theorem dX7_goAway_175 : decode cX7_goAway 175 = .ok (.aload_n 0, 1) := by decide +kernel
theorem dX7_goAway_176 : decode cX7_goAway 176 = .ok (.getfield 41, 3) := by decide +kernel
theorem dX7_goAway_179 : decode cX7_goAway 179 = .ok (.iload_n 3, 1) := by decide +kernel
theorem dX7_goAway_180 : decode cX7_goAway 180 = .ok (.aload_n 0, 1) := by decide +kernel
theorem dX7_goAway_181 : decode cX7_goAway 181 = .ok (.getfield 41, 3) := by decide +kernel
theorem dX7_goAway_184 : decode cX7_goAway 184 = .ok (.iload 4, 2) := by decide +kernel
theorem dX7_goAway_186 : decode cX7_goAway 186 = .ok (.iaload, 1) := by decide +kernel
theorem dX7_goAway_187 : decode cX7_goAway 187 = .ok (.iastore, 1) := by decide +kernel
theorem dX7_goAway_188 : decode cX7_goAway 188 = .ok (.aload_n 0, 1) := by decide +kernel
theorem dX7_goAway_189 : decode cX7_goAway 189 = .ok (.getfield 44, 3) := by decide +kernel
theorem dX7_goAway_192 : decode cX7_goAway 192 = .ok (.iload_n 3, 1) := by decide +kernel
theorem dX7_goAway_193 : decode cX7_goAway 193 = .ok (.aload_n 0, 1) := by decide +kernel
theorem dX7_goAway_194 : decode cX7_goAway 194 = .ok (.getfield 44, 3) := by decide +kernel
theorem dX7_goAway_197 : decode cX7_goAway 197 = .ok (.iload 4, 2) := by decide +kernel
theorem dX7_goAway_199 : decode cX7_goAway 199 = .ok (.iaload, 1) := by decide +kernel
theorem dX7_goAway_200 : decode cX7_goAway 200 = .ok (.iastore, 1) := by decide +kernel
theorem dX7_goAway_201 : decode cX7_goAway 201 = .ok (.iinc 3 1, 3) := by decide +kernel
theorem dX7_goAway_204 : decode cX7_goAway 204 = .ok (.iinc 4 1, 3) := by decide +kernel
theorem dX7_goAway_207 : decode cX7_goAway 207 = .ok (.goto (-193), 3) := by decide +kernel
theorem dX7_goAway_210 : decode cX7_goAway 210 = .ok (.aload_n 0, 1) := by decide +kernel
theorem dX7_goAway_211 : decode cX7_goAway 211 = .ok (.getfield 53, 3) := by decide +kernel
theorem dX7_goAway_214 : decode cX7_goAway 214 = .ok (.iconst 0, 1) := by decide +kernel
theorem dX7_goAway_215 : decode cX7_goAway 215 = .ok (.iload_n 3, 1) := by decide +kernel
theorem dX7_goAway_216 : decode cX7_goAway 216 = .ok (.iastore, 1) := by decide +kernel
theorem dX7_goAway_217 : decode cX7_goAway 217 = .ok (.iload_n 2, 1) := by decide +kernel
theorem dX7_goAway_218 : decode cX7_goAway 218 = .ok (.ireturn, 1) := by decide +kernel
theorem dX7_join_0 : decode cX7_join 0 = .ok (.iload_n 3, 1) := by decide +kernel
theorem dX7_join_1 : decode cX7_join 1 = .ok (.ifCond .le 49, 3) := by decide +kernel
theorem dX7_join_4 : decode cX7_join 4 = .ok (.aload_n 0, 1) := by decide +kernel
theorem dX7_join_5 : decode cX7_join 5 = .ok (.getfield 38, 3) := by decide +kernel
theorem dX7_join_8 : decode cX7_join 8 = .ok (.aload_n 0, 1) := by decide +kernel
theorem dX7_join_9 : decode cX7_join 9 = .ok (.getfield 53, 3) := by decide +kernel
theorem dX7_join_12 : decode cX7_join 12 = .ok (.iconst 0, 1) := by decide +kernel
theorem dX7_join_13 : decode cX7_join 13 = .ok (.iaload, 1) := by decide +kernel
theorem dX7_join_14 : decode cX7_join 14 = .ok (.iload_n 1, 1) := by decide +kernel
theorem dX7_join_15 : decode cX7_join 15 = .ok (.iastore, 1) := by decide +kernel
theorem dX7_join_16 : decode cX7_join 16 = .ok (.aload_n 0, 1) := by decide +kernel
theorem dX7_join_17 : decode cX7_join 17 = .ok (.getfield 41, 3) := by decide +kernel
theorem dX7_join_20 : decode cX7_join 20 = .ok (.aload_n 0, 1) := by decide +kernel
theorem dX7_join_21 : decode cX7_join 21 = .ok (.getfield 53, 3) := by decide +kernel
theorem dX7_join_24 : decode cX7_join 24 = .ok (.iconst 0, 1) := by decide +kernel
theorem dX7_join_25 : decode cX7_join 25 = .ok (.iaload, 1) := by decide +kernel
theorem dX7_join_26 : decode cX7_join 26 = .ok (.iload_n 2, 1) := by decide +kernel
theorem dX7_join_27 : decode cX7_join 27 = .ok (.iastore, 1) := by decide +kernel
theorem dX7_join_28 : decode cX7_join 28 = .ok (.aload_n 0, 1) := by decide +kernel
theorem dX7_join_29 : decode cX7_join 29 = .ok (.getfield 44, 3) := by decide +kernel
theorem dX7_join_32 : decode cX7_join 32 = .ok (.aload_n 0, 1) := by decide +kernel
theorem dX7_join_33 : decode cX7_join 33 = .ok (.getfield 53, 3) := by decide +kernel
theorem dX7_join_36 : decode cX7_join 36 = .ok (.iconst 0, 1) := by decide +kernel
theorem dX7_join_37 : decode cX7_join 37 = .ok (.iaload, 1) := by decide +kernel
theorem dX7_join_38 : decode cX7_join 38 = .ok (.iload_n 3, 1) := by decide +kernel
theorem dX7_join_39 : decode cX7_join 39 = .ok (.iastore, 1) := by decide +kernel
theorem dX7_join_40 : decode cX7_join 40 = .ok (.aload_n 0, 1) := by decide +kernel
theorem dX7_join_41 : decode cX7_join 41 = .ok (.getfield 53, 3) := by decide +kernel
theorem dX7_join_44 : decode cX7_join 44 = .ok (.iconst 0, 1) := by decide +kernel
theorem dX7_join_45 : decode cX7_join 45 = .ok (.dup2, 1) := by decide +kernel
theorem dX7_join_46 : decode cX7_join 46 = .ok (.iaload, 1) := by decide +kernel
theorem dX7_join_47 : decode cX7_join 47 = .ok (.iconst 1, 1) := by decide +kernel
theorem dX7_join_48 : decode cX7_join 48 = .ok (.iadd, 1) := by decide +kernel
theorem dX7_join_49 : decode cX7_join 49 = .ok (.iastore, 1) := by decide +kernel
theorem dX7_join_50 : decode cX7_join 50 = .ok (.return_, 1) := by decide +kernel
set_option maxRecDepth 20000 in
theorem ggX7_oneTick_X7_join : GoodIn wsX7_oneTick wsX7_join := goodIn_r _ [15, 16, 2, 17, 18, 66, 67, 68, 69, 70, 71, 72, 73, 74, 75, 76, 77, 78, 79, 80, 81, 82, 83, 84, 85, 86, 87] (by decide +kernel) (by decide +kernel)
set_option maxRecDepth 20000 in
theorem gX7_oneTick_X7_join : GoodIn wsX7_oneTick (wsV RX7 125 RX7 yX7_join wsX7_join) := goodIn_app (goodIn_of _ (by decide +kernel)) ggX7_oneTick_X7_join
set_option maxRecDepth 20000 in
theorem ggX7_oneTick_X7_waiting : GoodIn wsX7_oneTick wsX7_waiting := goodIn_r _ [22, 2, 18, 66, 67, 68, 69, 70, 71, 72, 73, 74, 75, 76, 77, 78, 79, 80, 81, 82, 83, 84, 85, 86, 87] (by decide +kernel) (by decide +kernel)
set_option maxRecDepth 20000 in
theorem gX7_oneTick_X7_waiting : GoodIn wsX7_oneTick (wsV RX7 129 RX7 yX7_waiting wsX7_waiting) := goodIn_app (goodIn_of _ (by decide +kernel)) ggX7_oneTick_X7_waiting
set_option maxRecDepth 20000 in
theorem ggX7_oneTick_X7_read : GoodIn wsX7_oneTick wsX7_read := goodIn_r _ [26, 9, 6, 1, 66, 67, 68, 69, 70, 71, 72, 73, 74, 75, 76, 77, 78, 79, 80, 81, 82, 83, 84, 85, 86, 87] (by decide +kernel) (by decide +kernel)
set_option maxRecDepth 20000 in
theorem gX7_oneTick_X7_read : GoodIn wsX7_oneTick (wsV RX7 132 RX7 yX7_read wsX7_read) := goodIn_app (goodIn_of _ (by decide +kernel)) ggX7_oneTick_X7_read
set_option maxRecDepth 20000 in
theorem ggX7_oneTick_X7_change : GoodIn wsX7_oneTick wsX7_change := goodIn_r _ [30, 31, 9, 1, 32, 33, 14, 34, 35, 36, 37, 38, 39, 40, 41, 42, 43, 44, 45, 46, 47, 48, 49, 7, 50, 51, 52, 53, 8, 54, 55, 56, 57, 66, 67, 68, 69, 70, 71, 72, 73, 74, 75, 76, 77, 78, 79, 80, 81, 82, 83, 84, 85, 86, 87] (by decide +kernel) (by decide +kernel)
set_option maxRecDepth 20000 in
theorem gX7_oneTick_X7_change : GoodIn wsX7_oneTick (wsV RX7 136 RX7 yX7_change wsX7_change) := goodIn_app (goodIn_of _ (by decide +kernel)) ggX7_oneTick_X7_change
set_option maxRecDepth 20000 in
theorem ggX7_oneTick_X7_serve : GoodIn wsX7_oneTick wsX7_serve := goodIn_r _ [61, 2, 18, 35, 36, 14, 37, 66, 67, 68, 69, 70, 71, 72, 73, 74, 75, 76, 77, 78, 79, 80, 81, 82, 83, 84, 85, 86, 87] (by decide +kernel) (by decide +kernel)
set_option maxRecDepth 20000 in
theorem gX7_oneTick_X7_serve : GoodIn wsX7_oneTick (wsV RX7 139 RX7 yX7_serve wsX7_serve) := goodIn_app (goodIn_of _ (by decide +kernel)) ggX7_oneTick_X7_serve
set_option maxRecDepth 20000 in
theorem ggX7_oneTick_X7_goAway : GoodIn wsX7_oneTick wsX7_goAway := goodIn_r _ [65, 2, 16, 9, 17, 18, 3, 4, 66, 67, 68, 69, 70, 71, 72, 73, 74, 75, 76, 77, 78, 79, 80, 81, 82, 83, 84, 85, 86, 87] (by decide +kernel) (by decide +kernel)
set_option maxRecDepth 20000 in
theorem gX7_oneTick_X7_goAway : GoodIn wsX7_oneTick (wsV RX7 142 RX7 yX7_goAway wsX7_goAway) := goodIn_app (goodIn_of _ (by decide +kernel)) ggX7_oneTick_X7_goAway
set_option maxRecDepth 20000 in
theorem ggX7_oneTick_X7_up : GoodIn wsX7_oneTick wsX7_up := goodIn_r _ [45, 46, 47, 48, 14, 49, 7, 66, 67, 68, 69, 70, 71, 72, 73, 74, 75, 76, 77, 78, 79, 80, 81, 82, 83, 84, 85, 86, 87] (by decide +kernel) (by decide +kernel)
set_option maxRecDepth 20000 in
theorem gX7_oneTick_X7_up : GoodIn wsX7_oneTick (wsV RX7 103 RX7 yX7_up wsX7_up) := goodIn_app (goodIn_of _ (by decide +kernel)) ggX7_oneTick_X7_up
theorem dX7_oneTick_0 : decode cX7_oneTick 0 = .ok (.aload_n 0, 1) := by decide +kernel
theorem dX7_oneTick_1 : decode cX7_oneTick 1 = .ok (.getfield 29, 3) := by decide +kernel
theorem dX7_oneTick_4 : decode cX7_oneTick 4 = .ok (.iconst 0, 1) := by decide +kernel
theorem dX7_oneTick_5 : decode cX7_oneTick 5 = .ok (.iaload, 1) := by decide +kernel
theorem dX7_oneTick_6 : decode cX7_oneTick 6 = .ok (.istore_n 2, 1) := by decide +kernel
theorem dX7_oneTick_7 : decode cX7_oneTick 7 = .ok (.iconst 0, 1) := by decide +kernel
theorem dX7_oneTick_8 : decode cX7_oneTick 8 = .ok (.istore_n 3, 1) := by decide +kernel
theorem dX7_oneTick_9 : decode cX7_oneTick 9 = .ok (.iload_n 3, 1) := by decide +kernel
theorem dX7_oneTick_10 : decode cX7_oneTick 10 = .ok (.aload_n 0, 1) := by decide +kernel
theorem dX7_oneTick_11 : decode cX7_oneTick 11 = .ok (.getfield 53, 3) := by decide +kernel
theorem dX7_oneTick_14 : decode cX7_oneTick 14 = .ok (.iconst 1, 1) := by decide +kernel
theorem dX7_oneTick_15 : decode cX7_oneTick 15 = .ok (.iaload, 1) := by decide +kernel
theorem dX7_oneTick_16 : decode cX7_oneTick 16 = .ok (.if_icmp .ge 26, 3) := by decide +kernel
theorem dX7_oneTick_19 : decode cX7_oneTick 19 = .ok (.aload_n 0, 1) := by decide +kernel
theorem dX7_oneTick_20 : decode cX7_oneTick 20 = .ok (.iload_n 2, 1) := by decide +kernel
theorem dX7_oneTick_21 : decode cX7_oneTick 21 = .ok (.aload_n 0, 1) := by decide +kernel
theorem dX7_oneTick_22 : decode cX7_oneTick 22 = .ok (.getfield 47, 3) := by decide +kernel
theorem dX7_oneTick_25 : decode cX7_oneTick 25 = .ok (.iload_n 3, 1) := by decide +kernel
theorem dX7_oneTick_26 : decode cX7_oneTick 26 = .ok (.iaload, 1) := by decide +kernel
theorem dX7_oneTick_27 : decode cX7_oneTick 27 = .ok (.aload_n 0, 1) := by decide +kernel
theorem dX7_oneTick_28 : decode cX7_oneTick 28 = .ok (.getfield 50, 3) := by decide +kernel
theorem dX7_oneTick_31 : decode cX7_oneTick 31 = .ok (.iload_n 3, 1) := by decide +kernel
theorem dX7_oneTick_32 : decode cX7_oneTick 32 = .ok (.iaload, 1) := by decide +kernel
theorem dX7_oneTick_33 : decode cX7_oneTick 33 = .ok (.invokevirtual 125, 3) := by decide +kernel
theorem dX7_oneTick_36 : decode cX7_oneTick 36 = .ok (.iinc 3 1, 3) := by decide +kernel
theorem dX7_oneTick_39 : decode cX7_oneTick 39 = .ok (.goto (-30), 3) := by decide +kernel
theorem dX7_oneTick_42 : decode cX7_oneTick 42 = .ok (.aload_n 0, 1) := by decide +kernel
theorem dX7_oneTick_43 : decode cX7_oneTick 43 = .ok (.iload_n 2, 1) := by decide +kernel
theorem dX7_oneTick_44 : decode cX7_oneTick 44 = .ok (.iconst 1, 1) := by decide +kernel
theorem dX7_oneTick_45 : decode cX7_oneTick 45 = .ok (.aload_n 0, 1) := by decide +kernel
theorem dX7_oneTick_46 : decode cX7_oneTick 46 = .ok (.getfield 19, 3) := by decide +kernel
theorem dX7_oneTick_49 : decode cX7_oneTick 49 = .ok (.iload_n 2, 1) := by decide +kernel
theorem dX7_oneTick_50 : decode cX7_oneTick 50 = .ok (.iaload, 1) := by decide +kernel
theorem dX7_oneTick_51 : decode cX7_oneTick 51 = .ok (.invokevirtual 125, 3) := by decide +kernel
theorem dX7_oneTick_54 : decode cX7_oneTick 54 = .ok (.aload_n 0, 1) := by decide +kernel
theorem dX7_oneTick_55 : decode cX7_oneTick 55 = .ok (.getfield 29, 3) := by decide +kernel
theorem dX7_oneTick_58 : decode cX7_oneTick 58 = .ok (.bipush 7, 2) := by decide +kernel
theorem dX7_oneTick_60 : decode cX7_oneTick 60 = .ok (.dup2, 1) := by decide +kernel
theorem dX7_oneTick_61 : decode cX7_oneTick 61 = .ok (.iaload, 1) := by decide +kernel
theorem dX7_oneTick_62 : decode cX7_oneTick 62 = .ok (.aload_n 0, 1) := by decide +kernel
theorem dX7_oneTick_63 : decode cX7_oneTick 63 = .ok (.getfield 19, 3) := by decide +kernel
theorem dX7_oneTick_66 : decode cX7_oneTick 66 = .ok (.iload_n 2, 1) := by decide +kernel
theorem dX7_oneTick_67 : decode cX7_oneTick 67 = .ok (.iaload, 1) := by decide +kernel
theorem dX7_oneTick_68 : decode cX7_oneTick 68 = .ok (.iadd, 1) := by decide +kernel
theorem dX7_oneTick_69 : decode cX7_oneTick 69 = .ok (.iastore, 1) := by decide +kernel
theorem dX7_oneTick_70 : decode cX7_oneTick 70 = .ok (.aload_n 0, 1) := by decide +kernel
theorem dX7_oneTick_71 : decode cX7_oneTick 71 = .ok (.invokevirtual 129, 3) := by decide +kernel
theorem dX7_oneTick_74 : decode cX7_oneTick 74 = .ok (.istore_n 3, 1) := by decide +kernel
theorem dX7_oneTick_75 : decode cX7_oneTick 75 = .ok (.aload_n 0, 1) := by decide +kernel
theorem dX7_oneTick_76 : decode cX7_oneTick 76 = .ok (.getfield 56, 3) := by decide +kernel
theorem dX7_oneTick_79 : decode cX7_oneTick 79 = .ok (.iload_n 2, 1) := by decide +kernel
theorem dX7_oneTick_80 : decode cX7_oneTick 80 = .ok (.iload_n 1, 1) := by decide +kernel
theorem dX7_oneTick_81 : decode cX7_oneTick 81 = .ok (.ifCond .eq 7, 3) := by decide +kernel
theorem dX7_oneTick_84 : decode cX7_oneTick 84 = .ok (.iconst (-1), 1) := by decide +kernel
theorem dX7_oneTick_85 : decode cX7_oneTick 85 = .ok (.goto 4, 3) := by decide +kernel
theorem dX7_oneTick_88 : decode cX7_oneTick 88 = .ok (.iload_n 3, 1) := by decide +kernel
theorem dX7_oneTick_89 : decode cX7_oneTick 89 = .ok (.iastore, 1) := by decide +kernel
theorem dX7_oneTick_90 : decode cX7_oneTick 90 = .ok (.aload_n 0, 1) := by decide +kernel
theorem dX7_oneTick_91 : decode cX7_oneTick 91 = .ok (.iload_n 2, 1) := by decide +kernel
theorem dX7_oneTick_92 : decode cX7_oneTick 92 = .ok (.invokevirtual 132, 3) := by decide +kernel
theorem dX7_oneTick_95 : decode cX7_oneTick 95 = .ok (.aload_n 0, 1) := by decide +kernel
theorem dX7_oneTick_96 : decode cX7_oneTick 96 = .ok (.iload_n 2, 1) := by decide +kernel
theorem dX7_oneTick_97 : decode cX7_oneTick 97 = .ok (.invokevirtual 136, 3) := by decide +kernel
theorem dX7_oneTick_100 : decode cX7_oneTick 100 = .ok (.iconst 0, 1) := by decide +kernel
theorem dX7_oneTick_101 : decode cX7_oneTick 101 = .ok (.istore 4, 2) := by decide +kernel
theorem dX7_oneTick_103 : decode cX7_oneTick 103 = .ok (.iconst 0, 1) := by decide +kernel
theorem dX7_oneTick_104 : decode cX7_oneTick 104 = .ok (.istore 5, 2) := by decide +kernel
theorem dX7_oneTick_106 : decode cX7_oneTick 106 = .ok (.iconst 0, 1) := by decide +kernel
theorem dX7_oneTick_107 : decode cX7_oneTick 107 = .ok (.istore 6, 2) := by decide +kernel
theorem dX7_oneTick_109 : decode cX7_oneTick 109 = .ok (.iload 6, 2) := by decide +kernel
theorem dX7_oneTick_111 : decode cX7_oneTick 111 = .ok (.bipush 12, 2) := by decide +kernel
theorem dX7_oneTick_113 : decode cX7_oneTick 113 = .ok (.if_icmp .ge 131, 3) := by decide +kernel
theorem dX7_oneTick_116 : decode cX7_oneTick 116 = .ok (.aload_n 0, 1) := by decide +kernel
theorem dX7_oneTick_117 : decode cX7_oneTick 117 = .ok (.getfield 32, 3) := by decide +kernel
theorem dX7_oneTick_120 : decode cX7_oneTick 120 = .ok (.iload 6, 2) := by decide +kernel
theorem dX7_oneTick_122 : decode cX7_oneTick 122 = .ok (.aload_n 0, 1) := by decide +kernel
theorem dX7_oneTick_123 : decode cX7_oneTick 123 = .ok (.getfield 32, 3) := by decide +kernel
theorem dX7_oneTick_126 : decode cX7_oneTick 126 = .ok (.iload 6, 2) := by decide +kernel
theorem dX7_oneTick_128 : decode cX7_oneTick 128 = .ok (.iaload, 1) := by decide +kernel
theorem dX7_oneTick_129 : decode cX7_oneTick 129 = .ok (.iconst 1, 1) := by decide +kernel
theorem dX7_oneTick_130 : decode cX7_oneTick 130 = .ok (.if_icmp .ne 25, 3) := by decide +kernel
theorem dX7_oneTick_133 : decode cX7_oneTick 133 = .ok (.iload_n 2, 1) := by decide +kernel
theorem dX7_oneTick_134 : decode cX7_oneTick 134 = .ok (.aload_n 0, 1) := by decide +kernel
theorem dX7_oneTick_135 : decode cX7_oneTick 135 = .ok (.getfield 35, 3) := by decide +kernel
theorem dX7_oneTick_138 : decode cX7_oneTick 138 = .ok (.iload 6, 2) := by decide +kernel
theorem dX7_oneTick_140 : decode cX7_oneTick 140 = .ok (.iaload, 1) := by decide +kernel
theorem dX7_oneTick_141 : decode cX7_oneTick 141 = .ok (.isub, 1) := by decide +kernel
theorem dX7_oneTick_142 : decode cX7_oneTick 142 = .ok (.aload_n 0, 1) := by decide +kernel
theorem dX7_oneTick_143 : decode cX7_oneTick 143 = .ok (.getfield 7, 3) := by decide +kernel
theorem dX7_oneTick_146 : decode cX7_oneTick 146 = .ok (.iconst 0, 1) := by decide +kernel
theorem dX7_oneTick_147 : decode cX7_oneTick 147 = .ok (.iaload, 1) := by decide +kernel
theorem dX7_oneTick_148 : decode cX7_oneTick 148 = .ok (.if_icmp .lt 7, 3) := by decide +kernel
theorem dX7_oneTick_151 : decode cX7_oneTick 151 = .ok (.iconst 2, 1) := by decide +kernel
theorem dX7_oneTick_152 : decode cX7_oneTick 152 = .ok (.goto 10, 3) := by decide +kernel
theorem dX7_oneTick_155 : decode cX7_oneTick 155 = .ok (.aload_n 0, 1) := by decide +kernel
theorem dX7_oneTick_156 : decode cX7_oneTick 156 = .ok (.getfield 32, 3) := by decide +kernel
theorem dX7_oneTick_159 : decode cX7_oneTick 159 = .ok (.iload 6, 2) := by decide +kernel
theorem dX7_oneTick_161 : decode cX7_oneTick 161 = .ok (.iaload, 1) := by decide +kernel
theorem dX7_oneTick_162 : decode cX7_oneTick 162 = .ok (.iastore, 1) := by decide +kernel
theorem dX7_oneTick_163 : decode cX7_oneTick 163 = .ok (.iload 4, 2) := by decide +kernel
theorem dX7_oneTick_165 : decode cX7_oneTick 165 = .ok (.aload_n 0, 1) := by decide +kernel
theorem dX7_oneTick_166 : decode cX7_oneTick 166 = .ok (.getfield 32, 3) := by decide +kernel
theorem dX7_oneTick_169 : decode cX7_oneTick 169 = .ok (.iload 6, 2) := by decide +kernel
theorem dX7_oneTick_171 : decode cX7_oneTick 171 = .ok (.iaload, 1) := by decide +kernel
theorem dX7_oneTick_172 : decode cX7_oneTick 172 = .ok (.iconst 2, 1) := by decide +kernel
theorem dX7_oneTick_173 : decode cX7_oneTick 173 = .ok (.if_icmp .eq 14, 3) := by decide +kernel
theorem dX7_oneTick_176 : decode cX7_oneTick 176 = .ok (.aload_n 0, 1) := by decide +kernel
theorem dX7_oneTick_177 : decode cX7_oneTick 177 = .ok (.getfield 32, 3) := by decide +kernel
theorem dX7_oneTick_180 : decode cX7_oneTick 180 = .ok (.iload 6, 2) := by decide +kernel
theorem dX7_oneTick_182 : decode cX7_oneTick 182 = .ok (.iaload, 1) := by decide +kernel
theorem dX7_oneTick_183 : decode cX7_oneTick 183 = .ok (.iconst 3, 1) := by decide +kernel
theorem dX7_oneTick_184 : decode cX7_oneTick 184 = .ok (.if_icmp .ne 7, 3) := by decide +kernel
theorem dX7_oneTick_187 : decode cX7_oneTick 187 = .ok (.iconst 1, 1) := by decide +kernel
theorem dX7_oneTick_188 : decode cX7_oneTick 188 = .ok (.goto 4, 3) := by decide +kernel
theorem dX7_oneTick_191 : decode cX7_oneTick 191 = .ok (.iconst 0, 1) := by decide +kernel
theorem dX7_oneTick_192 : decode cX7_oneTick 192 = .ok (.iadd, 1) := by decide +kernel
theorem dX7_oneTick_193 : decode cX7_oneTick 193 = .ok (.istore 4, 2) := by decide +kernel
theorem dX7_oneTick_195 : decode cX7_oneTick 195 = .ok (.iload 5, 2) := by decide +kernel
theorem dX7_oneTick_197 : decode cX7_oneTick 197 = .ok (.aload_n 0, 1) := by decide +kernel
theorem dX7_oneTick_198 : decode cX7_oneTick 198 = .ok (.getfield 32, 3) := by decide +kernel
theorem dX7_oneTick_201 : decode cX7_oneTick 201 = .ok (.iload 6, 2) := by decide +kernel
theorem dX7_oneTick_203 : decode cX7_oneTick 203 = .ok (.iaload, 1) := by decide +kernel
theorem dX7_oneTick_204 : decode cX7_oneTick 204 = .ok (.ifCond .ne 7, 3) := by decide +kernel
theorem dX7_oneTick_207 : decode cX7_oneTick 207 = .ok (.iconst 0, 1) := by decide +kernel
theorem dX7_oneTick_208 : decode cX7_oneTick 208 = .ok (.goto 27, 3) := by decide +kernel
theorem dX7_oneTick_211 : decode cX7_oneTick 211 = .ok (.iload 6, 2) := by decide +kernel
theorem dX7_oneTick_213 : decode cX7_oneTick 213 = .ok (.bipush 8, 2) := by decide +kernel
theorem dX7_oneTick_215 : decode cX7_oneTick 215 = .ok (.if_icmp .ge 13, 3) := by decide +kernel
theorem dX7_oneTick_218 : decode cX7_oneTick 218 = .ok (.aload_n 0, 1) := by decide +kernel
theorem dX7_oneTick_219 : decode cX7_oneTick 219 = .ok (.getfield 7, 3) := by decide +kernel
theorem dX7_oneTick_222 : decode cX7_oneTick 222 = .ok (.bipush 16, 2) := by decide +kernel
theorem dX7_oneTick_224 : decode cX7_oneTick 224 = .ok (.iaload, 1) := by decide +kernel
theorem dX7_oneTick_225 : decode cX7_oneTick 225 = .ok (.goto 10, 3) := by decide +kernel
theorem dX7_oneTick_228 : decode cX7_oneTick 228 = .ok (.aload_n 0, 1) := by decide +kernel
theorem dX7_oneTick_229 : decode cX7_oneTick 229 = .ok (.getfield 7, 3) := by decide +kernel
theorem dX7_oneTick_232 : decode cX7_oneTick 232 = .ok (.bipush 17, 2) := by decide +kernel
theorem dX7_oneTick_234 : decode cX7_oneTick 234 = .ok (.iaload, 1) := by decide +kernel
theorem dX7_oneTick_235 : decode cX7_oneTick 235 = .ok (.iadd, 1) := by decide +kernel
theorem dX7_oneTick_236 : decode cX7_oneTick 236 = .ok (.istore 5, 2) := by decide +kernel
theorem dX7_oneTick_238 : decode cX7_oneTick 238 = .ok (.iinc 6 1, 3) := by decide +kernel
theorem dX7_oneTick_241 : decode cX7_oneTick 241 = .ok (.goto (-132), 3) := by decide +kernel
theorem dX7_oneTick_244 : decode cX7_oneTick 244 = .ok (.aload_n 0, 1) := by decide +kernel
theorem dX7_oneTick_245 : decode cX7_oneTick 245 = .ok (.iload 4, 2) := by decide +kernel
theorem dX7_oneTick_247 : decode cX7_oneTick 247 = .ok (.aload_n 0, 1) := by decide +kernel
theorem dX7_oneTick_248 : decode cX7_oneTick 248 = .ok (.getfield 7, 3) := by decide +kernel
theorem dX7_oneTick_251 : decode cX7_oneTick 251 = .ok (.iconst 2, 1) := by decide +kernel
theorem dX7_oneTick_252 : decode cX7_oneTick 252 = .ok (.iaload, 1) := by decide +kernel
theorem dX7_oneTick_253 : decode cX7_oneTick 253 = .ok (.imul, 1) := by decide +kernel
theorem dX7_oneTick_254 : decode cX7_oneTick 254 = .ok (.invokevirtual 139, 3) := by decide +kernel
theorem dX7_oneTick_257 : decode cX7_oneTick 257 = .ok (.istore 6, 2) := by decide +kernel
theorem dX7_oneTick_259 : decode cX7_oneTick 259 = .ok (.iconst 0, 1) := by decide +kernel
theorem dX7_oneTick_260 : decode cX7_oneTick 260 = .ok (.istore 7, 2) := by decide +kernel
theorem dX7_oneTick_262 : decode cX7_oneTick 262 = .ok (.iload 7, 2) := by decide +kernel
theorem dX7_oneTick_264 : decode cX7_oneTick 264 = .ok (.bipush 12, 2) := by decide +kernel
theorem dX7_oneTick_266 : decode cX7_oneTick 266 = .ok (.if_icmp .ge 56, 3) := by decide +kernel
theorem dX7_oneTick_269 : decode cX7_oneTick 269 = .ok (.aload_n 0, 1) := by decide +kernel
theorem dX7_oneTick_270 : decode cX7_oneTick 270 = .ok (.getfield 32, 3) := by decide +kernel
theorem dX7_oneTick_273 : decode cX7_oneTick 273 = .ok (.iload 7, 2) := by decide +kernel
theorem dX7_oneTick_275 : decode cX7_oneTick 275 = .ok (.aload_n 0, 1) := by decide +kernel
theorem dX7_oneTick_276 : decode cX7_oneTick 276 = .ok (.getfield 32, 3) := by decide +kernel
theorem dX7_oneTick_279 : decode cX7_oneTick 279 = .ok (.iload 7, 2) := by decide +kernel
theorem dX7_oneTick_281 : decode cX7_oneTick 281 = .ok (.iaload, 1) := by decide +kernel
theorem dX7_oneTick_282 : decode cX7_oneTick 282 = .ok (.iconst 3, 1) := by decide +kernel
theorem dX7_oneTick_283 : decode cX7_oneTick 283 = .ok (.if_icmp .ne 25, 3) := by decide +kernel
theorem dX7_oneTick_286 : decode cX7_oneTick 286 = .ok (.iload_n 2, 1) := by decide +kernel
theorem dX7_oneTick_287 : decode cX7_oneTick 287 = .ok (.aload_n 0, 1) := by decide +kernel
theorem dX7_oneTick_288 : decode cX7_oneTick 288 = .ok (.getfield 35, 3) := by decide +kernel
theorem dX7_oneTick_291 : decode cX7_oneTick 291 = .ok (.iload 7, 2) := by decide +kernel
theorem dX7_oneTick_293 : decode cX7_oneTick 293 = .ok (.iaload, 1) := by decide +kernel
theorem dX7_oneTick_294 : decode cX7_oneTick 294 = .ok (.isub, 1) := by decide +kernel
theorem dX7_oneTick_295 : decode cX7_oneTick 295 = .ok (.aload_n 0, 1) := by decide +kernel
theorem dX7_oneTick_296 : decode cX7_oneTick 296 = .ok (.getfield 7, 3) := by decide +kernel
theorem dX7_oneTick_299 : decode cX7_oneTick 299 = .ok (.iconst 1, 1) := by decide +kernel
theorem dX7_oneTick_300 : decode cX7_oneTick 300 = .ok (.iaload, 1) := by decide +kernel
theorem dX7_oneTick_301 : decode cX7_oneTick 301 = .ok (.if_icmp .lt 7, 3) := by decide +kernel
theorem dX7_oneTick_304 : decode cX7_oneTick 304 = .ok (.iconst 0, 1) := by decide +kernel
theorem dX7_oneTick_305 : decode cX7_oneTick 305 = .ok (.goto 10, 3) := by decide +kernel
theorem dX7_oneTick_308 : decode cX7_oneTick 308 = .ok (.aload_n 0, 1) := by decide +kernel
theorem dX7_oneTick_309 : decode cX7_oneTick 309 = .ok (.getfield 32, 3) := by decide +kernel
theorem dX7_oneTick_312 : decode cX7_oneTick 312 = .ok (.iload 7, 2) := by decide +kernel
theorem dX7_oneTick_314 : decode cX7_oneTick 314 = .ok (.iaload, 1) := by decide +kernel
theorem dX7_oneTick_315 : decode cX7_oneTick 315 = .ok (.iastore, 1) := by decide +kernel
theorem dX7_oneTick_316 : decode cX7_oneTick 316 = .ok (.iinc 7 1, 3) := by decide +kernel
theorem dX7_oneTick_319 : decode cX7_oneTick 319 = .ok (.goto (-57), 3) := by decide +kernel
theorem dX7_oneTick_322 : decode cX7_oneTick 322 = .ok (.aload_n 0, 1) := by decide +kernel
theorem dX7_oneTick_323 : decode cX7_oneTick 323 = .ok (.iload_n 2, 1) := by decide +kernel
theorem dX7_oneTick_324 : decode cX7_oneTick 324 = .ok (.invokevirtual 142, 3) := by decide +kernel
theorem dX7_oneTick_327 : decode cX7_oneTick 327 = .ok (.istore 7, 2) := by decide +kernel
theorem dX7_oneTick_329 : decode cX7_oneTick 329 = .ok (.iload 5, 2) := by decide +kernel
theorem dX7_oneTick_331 : decode cX7_oneTick 331 = .ok (.iload 7, 2) := by decide +kernel
theorem dX7_oneTick_333 : decode cX7_oneTick 333 = .ok (.aload_n 0, 1) := by decide +kernel
theorem dX7_oneTick_334 : decode cX7_oneTick 334 = .ok (.getfield 7, 3) := by decide +kernel
theorem dX7_oneTick_337 : decode cX7_oneTick 337 = .ok (.bipush 18, 2) := by decide +kernel
theorem dX7_oneTick_339 : decode cX7_oneTick 339 = .ok (.iaload, 1) := by decide +kernel
theorem dX7_oneTick_340 : decode cX7_oneTick 340 = .ok (.imul, 1) := by decide +kernel
theorem dX7_oneTick_341 : decode cX7_oneTick 341 = .ok (.iadd, 1) := by decide +kernel
theorem dX7_oneTick_342 : decode cX7_oneTick 342 = .ok (.istore 5, 2) := by decide +kernel
theorem dX7_oneTick_344 : decode cX7_oneTick 344 = .ok (.aload_n 0, 1) := by decide +kernel
theorem dX7_oneTick_345 : decode cX7_oneTick 345 = .ok (.getfield 29, 3) := by decide +kernel
theorem dX7_oneTick_348 : decode cX7_oneTick 348 = .ok (.iconst 1, 1) := by decide +kernel
theorem dX7_oneTick_349 : decode cX7_oneTick 349 = .ok (.dup2, 1) := by decide +kernel
theorem dX7_oneTick_350 : decode cX7_oneTick 350 = .ok (.iaload, 1) := by decide +kernel
theorem dX7_oneTick_351 : decode cX7_oneTick 351 = .ok (.iload 6, 2) := by decide +kernel
theorem dX7_oneTick_353 : decode cX7_oneTick 353 = .ok (.iadd, 1) := by decide +kernel
theorem dX7_oneTick_354 : decode cX7_oneTick 354 = .ok (.iastore, 1) := by decide +kernel
theorem dX7_oneTick_355 : decode cX7_oneTick 355 = .ok (.aload_n 0, 1) := by decide +kernel
theorem dX7_oneTick_356 : decode cX7_oneTick 356 = .ok (.getfield 29, 3) := by decide +kernel
theorem dX7_oneTick_359 : decode cX7_oneTick 359 = .ok (.iconst 2, 1) := by decide +kernel
theorem dX7_oneTick_360 : decode cX7_oneTick 360 = .ok (.dup2, 1) := by decide +kernel
theorem dX7_oneTick_361 : decode cX7_oneTick 361 = .ok (.iaload, 1) := by decide +kernel
theorem dX7_oneTick_362 : decode cX7_oneTick 362 = .ok (.iload 7, 2) := by decide +kernel
theorem dX7_oneTick_364 : decode cX7_oneTick 364 = .ok (.iadd, 1) := by decide +kernel
theorem dX7_oneTick_365 : decode cX7_oneTick 365 = .ok (.iastore, 1) := by decide +kernel
theorem dX7_oneTick_366 : decode cX7_oneTick 366 = .ok (.aload_n 0, 1) := by decide +kernel
theorem dX7_oneTick_367 : decode cX7_oneTick 367 = .ok (.getfield 29, 3) := by decide +kernel
theorem dX7_oneTick_370 : decode cX7_oneTick 370 = .ok (.iconst 3, 1) := by decide +kernel
theorem dX7_oneTick_371 : decode cX7_oneTick 371 = .ok (.dup2, 1) := by decide +kernel
theorem dX7_oneTick_372 : decode cX7_oneTick 372 = .ok (.iaload, 1) := by decide +kernel
theorem dX7_oneTick_373 : decode cX7_oneTick 373 = .ok (.iload 5, 2) := by decide +kernel
theorem dX7_oneTick_375 : decode cX7_oneTick 375 = .ok (.iadd, 1) := by decide +kernel
theorem dX7_oneTick_376 : decode cX7_oneTick 376 = .ok (.iastore, 1) := by decide +kernel
theorem dX7_oneTick_377 : decode cX7_oneTick 377 = .ok (.aload_n 0, 1) := by decide +kernel
theorem dX7_oneTick_378 : decode cX7_oneTick 378 = .ok (.getfield 59, 3) := by decide +kernel
theorem dX7_oneTick_381 : decode cX7_oneTick 381 = .ok (.bipush 6, 2) := by decide +kernel
theorem dX7_oneTick_383 : decode cX7_oneTick 383 = .ok (.iload_n 2, 1) := by decide +kernel
theorem dX7_oneTick_384 : decode cX7_oneTick 384 = .ok (.imul, 1) := by decide +kernel
theorem dX7_oneTick_385 : decode cX7_oneTick 385 = .ok (.iload_n 3, 1) := by decide +kernel
theorem dX7_oneTick_386 : decode cX7_oneTick 386 = .ok (.iastore, 1) := by decide +kernel
theorem dX7_oneTick_387 : decode cX7_oneTick 387 = .ok (.aload_n 0, 1) := by decide +kernel
theorem dX7_oneTick_388 : decode cX7_oneTick 388 = .ok (.getfield 59, 3) := by decide +kernel
theorem dX7_oneTick_391 : decode cX7_oneTick 391 = .ok (.bipush 6, 2) := by decide +kernel
theorem dX7_oneTick_393 : decode cX7_oneTick 393 = .ok (.iload_n 2, 1) := by decide +kernel
theorem dX7_oneTick_394 : decode cX7_oneTick 394 = .ok (.imul, 1) := by decide +kernel
theorem dX7_oneTick_395 : decode cX7_oneTick 395 = .ok (.iconst 1, 1) := by decide +kernel
theorem dX7_oneTick_396 : decode cX7_oneTick 396 = .ok (.iadd, 1) := by decide +kernel
theorem dX7_oneTick_397 : decode cX7_oneTick 397 = .ok (.iload 6, 2) := by decide +kernel
theorem dX7_oneTick_399 : decode cX7_oneTick 399 = .ok (.iastore, 1) := by decide +kernel
theorem dX7_oneTick_400 : decode cX7_oneTick 400 = .ok (.aload_n 0, 1) := by decide +kernel
theorem dX7_oneTick_401 : decode cX7_oneTick 401 = .ok (.getfield 59, 3) := by decide +kernel
theorem dX7_oneTick_404 : decode cX7_oneTick 404 = .ok (.bipush 6, 2) := by decide +kernel
theorem dX7_oneTick_406 : decode cX7_oneTick 406 = .ok (.iload_n 2, 1) := by decide +kernel
theorem dX7_oneTick_407 : decode cX7_oneTick 407 = .ok (.imul, 1) := by decide +kernel
theorem dX7_oneTick_408 : decode cX7_oneTick 408 = .ok (.iconst 2, 1) := by decide +kernel
theorem dX7_oneTick_409 : decode cX7_oneTick 409 = .ok (.iadd, 1) := by decide +kernel
theorem dX7_oneTick_410 : decode cX7_oneTick 410 = .ok (.iload 7, 2) := by decide +kernel
theorem dX7_oneTick_412 : decode cX7_oneTick 412 = .ok (.iastore, 1) := by decide +kernel
theorem dX7_oneTick_413 : decode cX7_oneTick 413 = .ok (.aload_n 0, 1) := by decide +kernel
theorem dX7_oneTick_414 : decode cX7_oneTick 414 = .ok (.getfield 59, 3) := by decide +kernel
theorem dX7_oneTick_417 : decode cX7_oneTick 417 = .ok (.bipush 6, 2) := by decide +kernel
theorem dX7_oneTick_419 : decode cX7_oneTick 419 = .ok (.iload_n 2, 1) := by decide +kernel
theorem dX7_oneTick_420 : decode cX7_oneTick 420 = .ok (.imul, 1) := by decide +kernel
theorem dX7_oneTick_421 : decode cX7_oneTick 421 = .ok (.iconst 3, 1) := by decide +kernel
theorem dX7_oneTick_422 : decode cX7_oneTick 422 = .ok (.iadd, 1) := by decide +kernel
theorem dX7_oneTick_423 : decode cX7_oneTick 423 = .ok (.aload_n 0, 1) := by decide +kernel
theorem dX7_oneTick_424 : decode cX7_oneTick 424 = .ok (.invokevirtual 103, 3) := by decide +kernel
theorem dX7_oneTick_427 : decode cX7_oneTick 427 = .ok (.iastore, 1) := by decide +kernel
theorem dX7_oneTick_428 : decode cX7_oneTick 428 = .ok (.aload_n 0, 1) := by decide +kernel
theorem dX7_oneTick_429 : decode cX7_oneTick 429 = .ok (.getfield 59, 3) := by decide +kernel
theorem dX7_oneTick_432 : decode cX7_oneTick 432 = .ok (.bipush 6, 2) := by decide +kernel
theorem dX7_oneTick_434 : decode cX7_oneTick 434 = .ok (.iload_n 2, 1) := by decide +kernel
theorem dX7_oneTick_435 : decode cX7_oneTick 435 = .ok (.imul, 1) := by decide +kernel
theorem dX7_oneTick_436 : decode cX7_oneTick 436 = .ok (.iconst 4, 1) := by decide +kernel
theorem dX7_oneTick_437 : decode cX7_oneTick 437 = .ok (.iadd, 1) := by decide +kernel
theorem dX7_oneTick_438 : decode cX7_oneTick 438 = .ok (.aload_n 0, 1) := by decide +kernel
theorem dX7_oneTick_439 : decode cX7_oneTick 439 = .ok (.getfield 29, 3) := by decide +kernel
theorem dX7_oneTick_442 : decode cX7_oneTick 442 = .ok (.iconst 5, 1) := by decide +kernel
theorem dX7_oneTick_443 : decode cX7_oneTick 443 = .ok (.iaload, 1) := by decide +kernel
theorem dX7_oneTick_444 : decode cX7_oneTick 444 = .ok (.iastore, 1) := by decide +kernel
theorem dX7_oneTick_445 : decode cX7_oneTick 445 = .ok (.aload_n 0, 1) := by decide +kernel
theorem dX7_oneTick_446 : decode cX7_oneTick 446 = .ok (.getfield 59, 3) := by decide +kernel
theorem dX7_oneTick_449 : decode cX7_oneTick 449 = .ok (.bipush 6, 2) := by decide +kernel
theorem dX7_oneTick_451 : decode cX7_oneTick 451 = .ok (.iload_n 2, 1) := by decide +kernel
theorem dX7_oneTick_452 : decode cX7_oneTick 452 = .ok (.imul, 1) := by decide +kernel
theorem dX7_oneTick_453 : decode cX7_oneTick 453 = .ok (.iconst 5, 1) := by decide +kernel
theorem dX7_oneTick_454 : decode cX7_oneTick 454 = .ok (.iadd, 1) := by decide +kernel
theorem dX7_oneTick_455 : decode cX7_oneTick 455 = .ok (.iload 5, 2) := by decide +kernel
theorem dX7_oneTick_457 : decode cX7_oneTick 457 = .ok (.iastore, 1) := by decide +kernel
theorem dX7_oneTick_458 : decode cX7_oneTick 458 = .ok (.aload_n 0, 1) := by decide +kernel
theorem dX7_oneTick_459 : decode cX7_oneTick 459 = .ok (.getfield 29, 3) := by decide +kernel
theorem dX7_oneTick_462 : decode cX7_oneTick 462 = .ok (.iconst 0, 1) := by decide +kernel
theorem dX7_oneTick_463 : decode cX7_oneTick 463 = .ok (.dup2, 1) := by decide +kernel
theorem dX7_oneTick_464 : decode cX7_oneTick 464 = .ok (.iaload, 1) := by decide +kernel
theorem dX7_oneTick_465 : decode cX7_oneTick 465 = .ok (.iconst 1, 1) := by decide +kernel
theorem dX7_oneTick_466 : decode cX7_oneTick 466 = .ok (.iadd, 1) := by decide +kernel
theorem dX7_oneTick_467 : decode cX7_oneTick 467 = .ok (.iastore, 1) := by decide +kernel
theorem dX7_oneTick_468 : decode cX7_oneTick 468 = .ok (.return_, 1) := by decide +kernel
set_option maxRecDepth 20000 in
theorem ggX7_tick_X7_in : GoodIn wsX7_tick wsX7_in := goodIn_r _ [7] (by decide +kernel) (by decide +kernel)
set_option maxRecDepth 20000 in
theorem gX7_tick_X7_in : GoodIn wsX7_tick (va_wsS RX7 83 yX7_in wsX7_in) := goodIn_app (goodIn_of _ (by decide +kernel)) ggX7_tick_X7_in
set_option maxRecDepth 20000 in
theorem ggX7_tick_X7_oneTick : GoodIn wsX7_tick wsX7_oneTick := goodIn_r _ [11, 2, 12, 13, 14, 15, 16, 17, 18, 19, 20, 21, 22, 23, 6, 24, 25, 26, 27, 28, 29, 30, 31, 32, 33, 34, 35, 36, 37, 38, 39, 40, 41, 42, 43, 44, 45, 46, 47, 48, 49, 50, 51, 52, 53, 54, 55, 56, 57, 58, 59, 60, 61, 62, 63, 64, 65, 66, 67, 68, 69, 70, 71, 72, 73, 74, 75, 76, 77, 78, 79, 80, 81, 82, 83, 84, 85, 86, 87, 88, 89, 90, 91, 92, 93, 94, 95, 96] (by decide +kernel) (by decide +kernel)
set_option maxRecDepth 20000 in
theorem gX7_tick_X7_oneTick : GoodIn wsX7_tick (wsV RX7 147 RX7 yX7_oneTick wsX7_oneTick) := goodIn_app (goodIn_of _ (by decide +kernel)) ggX7_tick_X7_oneTick
theorem dX7_tick_0 : decode cX7_tick 0 = .ok (.iload_n 1, 1) := by decide +kernel
theorem dX7_tick_1 : decode cX7_tick 1 = .ok (.i2l, 1) := by decide +kernel
theorem dX7_tick_2 : decode cX7_tick 2 = .ok (.lconst 0, 1) := by decide +kernel
theorem dX7_tick_3 : decode cX7_tick 3 = .ok (.ldc2_w 145, 3) := by decide +kernel
theorem dX7_tick_6 : decode cX7_tick 6 = .ok (.invokestatic 83, 3) := by decide +kernel
theorem dX7_tick_9 : decode cX7_tick 9 = .ok (.ifCond .ne 7, 3) := by decide +kernel
theorem dX7_tick_12 : decode cX7_tick 12 = .ok (.sipush (-1002), 3) := by decide +kernel
theorem dX7_tick_15 : decode cX7_tick 15 = .ok (.ireturn, 1) := by decide +kernel
theorem dX7_tick_16 : decode cX7_tick 16 = .ok (.aload_n 0, 1) := by decide +kernel
theorem dX7_tick_17 : decode cX7_tick 17 = .ok (.getfield 29, 3) := by decide +kernel
theorem dX7_tick_20 : decode cX7_tick 20 = .ok (.iconst 0, 1) := by decide +kernel
theorem dX7_tick_21 : decode cX7_tick 21 = .ok (.iaload, 1) := by decide +kernel
theorem dX7_tick_22 : decode cX7_tick 22 = .ok (.iload_n 1, 1) := by decide +kernel
theorem dX7_tick_23 : decode cX7_tick 23 = .ok (.iadd, 1) := by decide +kernel
theorem dX7_tick_24 : decode cX7_tick 24 = .ok (.sipush 200, 3) := by decide +kernel
theorem dX7_tick_27 : decode cX7_tick 27 = .ok (.if_icmp .le 7, 3) := by decide +kernel
theorem dX7_tick_30 : decode cX7_tick 30 = .ok (.sipush (-1003), 3) := by decide +kernel
theorem dX7_tick_33 : decode cX7_tick 33 = .ok (.ireturn, 1) := by decide +kernel
theorem dX7_tick_34 : decode cX7_tick 34 = .ok (.iconst 0, 1) := by decide +kernel
theorem dX7_tick_35 : decode cX7_tick 35 = .ok (.istore_n 2, 1) := by decide +kernel
theorem dX7_tick_36 : decode cX7_tick 36 = .ok (.iload_n 2, 1) := by decide +kernel
theorem dX7_tick_37 : decode cX7_tick 37 = .ok (.iload_n 1, 1) := by decide +kernel
theorem dX7_tick_38 : decode cX7_tick 38 = .ok (.if_icmp .ge 24, 3) := by decide +kernel
theorem dX7_tick_41 : decode cX7_tick 41 = .ok (.aload_n 0, 1) := by decide +kernel
theorem dX7_tick_42 : decode cX7_tick 42 = .ok (.aload_n 0, 1) := by decide +kernel
theorem dX7_tick_43 : decode cX7_tick 43 = .ok (.getfield 22, 3) := by decide +kernel
theorem dX7_tick_46 : decode cX7_tick 46 = .ok (.aload_n 0, 1) := by decide +kernel
theorem dX7_tick_47 : decode cX7_tick 47 = .ok (.getfield 29, 3) := by decide +kernel
theorem dX7_tick_50 : decode cX7_tick 50 = .ok (.iconst 0, 1) := by decide +kernel
theorem dX7_tick_51 : decode cX7_tick 51 = .ok (.iaload, 1) := by decide +kernel
theorem dX7_tick_52 : decode cX7_tick 52 = .ok (.baload, 1) := by decide +kernel
theorem dX7_tick_53 : decode cX7_tick 53 = .ok (.invokevirtual 147, 3) := by decide +kernel
theorem dX7_tick_56 : decode cX7_tick 56 = .ok (.iinc 2 1, 3) := by decide +kernel
theorem dX7_tick_59 : decode cX7_tick 59 = .ok (.goto (-23), 3) := by decide +kernel
theorem dX7_tick_62 : decode cX7_tick 62 = .ok (.aload_n 0, 1) := by decide +kernel
theorem dX7_tick_63 : decode cX7_tick 63 = .ok (.getfield 29, 3) := by decide +kernel
theorem dX7_tick_66 : decode cX7_tick 66 = .ok (.iconst 0, 1) := by decide +kernel
theorem dX7_tick_67 : decode cX7_tick 67 = .ok (.iaload, 1) := by decide +kernel
theorem dX7_tick_68 : decode cX7_tick 68 = .ok (.ireturn, 1) := by decide +kernel
set_option maxRecDepth 20000 in
theorem ggX7_fail_X7_in : GoodIn wsX7_fail wsX7_in := goodIn_r _ [6] (by decide +kernel) (by decide +kernel)
set_option maxRecDepth 20000 in
theorem gX7_fail_X7_in : GoodIn wsX7_fail (va_wsS RX7 83 yX7_in wsX7_in) := goodIn_app (goodIn_of _ (by decide +kernel)) ggX7_fail_X7_in
theorem dX7_fail_0 : decode cX7_fail 0 = .ok (.iload_n 1, 1) := by decide +kernel
theorem dX7_fail_1 : decode cX7_fail 1 = .ok (.i2l, 1) := by decide +kernel
theorem dX7_fail_2 : decode cX7_fail 2 = .ok (.lconst 0, 1) := by decide +kernel
theorem dX7_fail_3 : decode cX7_fail 3 = .ok (.ldc2_w 151, 3) := by decide +kernel
theorem dX7_fail_6 : decode cX7_fail 6 = .ok (.invokestatic 83, 3) := by decide +kernel
theorem dX7_fail_9 : decode cX7_fail 9 = .ok (.ifCond .ne 7, 3) := by decide +kernel
theorem dX7_fail_12 : decode cX7_fail 12 = .ok (.sipush (-1001), 3) := by decide +kernel
theorem dX7_fail_15 : decode cX7_fail 15 = .ok (.ireturn, 1) := by decide +kernel
theorem dX7_fail_16 : decode cX7_fail 16 = .ok (.iload_n 2, 1) := by decide +kernel
theorem dX7_fail_17 : decode cX7_fail 17 = .ok (.ifCond .eq 13, 3) := by decide +kernel
theorem dX7_fail_20 : decode cX7_fail 20 = .ok (.iload_n 1, 1) := by decide +kernel
theorem dX7_fail_21 : decode cX7_fail 21 = .ok (.bipush 8, 2) := by decide +kernel
theorem dX7_fail_23 : decode cX7_fail 23 = .ok (.if_icmp .ge 7, 3) := by decide +kernel
theorem dX7_fail_26 : decode cX7_fail 26 = .ok (.sipush (-1003), 3) := by decide +kernel
theorem dX7_fail_29 : decode cX7_fail 29 = .ok (.ireturn, 1) := by decide +kernel
theorem dX7_fail_30 : decode cX7_fail 30 = .ok (.aload_n 0, 1) := by decide +kernel
theorem dX7_fail_31 : decode cX7_fail 31 = .ok (.getfield 32, 3) := by decide +kernel
theorem dX7_fail_34 : decode cX7_fail 34 = .ok (.iload_n 1, 1) := by decide +kernel
theorem dX7_fail_35 : decode cX7_fail 35 = .ok (.iaload, 1) := by decide +kernel
theorem dX7_fail_36 : decode cX7_fail 36 = .ok (.istore_n 3, 1) := by decide +kernel
theorem dX7_fail_37 : decode cX7_fail 37 = .ok (.aload_n 0, 1) := by decide +kernel
theorem dX7_fail_38 : decode cX7_fail 38 = .ok (.getfield 32, 3) := by decide +kernel
theorem dX7_fail_41 : decode cX7_fail 41 = .ok (.iload_n 1, 1) := by decide +kernel
theorem dX7_fail_42 : decode cX7_fail 42 = .ok (.iconst 0, 1) := by decide +kernel
theorem dX7_fail_43 : decode cX7_fail 43 = .ok (.iastore, 1) := by decide +kernel
theorem dX7_fail_44 : decode cX7_fail 44 = .ok (.iload_n 3, 1) := by decide +kernel
theorem dX7_fail_45 : decode cX7_fail 45 = .ok (.ireturn, 1) := by decide +kernel
set_option maxRecDepth 20000 in
theorem ggX7_again_X7_begin : GoodIn wsX7_again wsX7_begin := goodIn_r _ [6, 1, 7, 8, 9, 10, 11, 12, 13, 14, 15, 16, 17, 18, 19, 20, 21, 22, 23, 24, 25, 26, 27, 28, 29, 30, 31] (by decide +kernel) (by decide +kernel)
set_option maxRecDepth 20000 in
theorem gX7_again_X7_begin : GoodIn wsX7_again (wsV RX7 78 RX7 yX7_begin wsX7_begin) := goodIn_app (goodIn_of _ (by decide +kernel)) ggX7_again_X7_begin
theorem dX7_again_0 : decode cX7_again 0 = .ok (.aload_n 0, 1) := by decide +kernel
theorem dX7_again_1 : decode cX7_again 1 = .ok (.getfield 29, 3) := by decide +kernel
theorem dX7_again_4 : decode cX7_again 4 = .ok (.iconst 0, 1) := by decide +kernel
theorem dX7_again_5 : decode cX7_again 5 = .ok (.iaload, 1) := by decide +kernel
theorem dX7_again_6 : decode cX7_again 6 = .ok (.istore_n 1, 1) := by decide +kernel
theorem dX7_again_7 : decode cX7_again 7 = .ok (.aload_n 0, 1) := by decide +kernel
theorem dX7_again_8 : decode cX7_again 8 = .ok (.invokevirtual 78, 3) := by decide +kernel
theorem dX7_again_11 : decode cX7_again 11 = .ok (.iload_n 1, 1) := by decide +kernel
theorem dX7_again_12 : decode cX7_again 12 = .ok (.ireturn, 1) := by decide +kernel
set_option maxRecDepth 20000 in
theorem ggX7_server_X7_in : GoodIn wsX7_server wsX7_in := goodIn_r _ [8] (by decide +kernel) (by decide +kernel)
set_option maxRecDepth 20000 in
theorem gX7_server_X7_in : GoodIn wsX7_server (va_wsS RX7 83 yX7_in wsX7_in) := goodIn_app (goodIn_of _ (by decide +kernel)) ggX7_server_X7_in
theorem dX7_server_0 : decode cX7_server 0 = .ok (.iload_n 1, 1) := by decide +kernel
theorem dX7_server_1 : decode cX7_server 1 = .ok (.i2l, 1) := by decide +kernel
theorem dX7_server_2 : decode cX7_server 2 = .ok (.lconst 0, 1) := by decide +kernel
theorem dX7_server_3 : decode cX7_server 3 = .ok (.ldc2_w 151, 3) := by decide +kernel
theorem dX7_server_6 : decode cX7_server 6 = .ok (.invokestatic 83, 3) := by decide +kernel
theorem dX7_server_9 : decode cX7_server 9 = .ok (.ifCond .ne 7, 3) := by decide +kernel
theorem dX7_server_12 : decode cX7_server 12 = .ok (.sipush (-1001), 3) := by decide +kernel
theorem dX7_server_15 : decode cX7_server 15 = .ok (.ireturn, 1) := by decide +kernel
theorem dX7_server_16 : decode cX7_server 16 = .ok (.iload_n 2, 1) := by decide +kernel
theorem dX7_server_17 : decode cX7_server 17 = .ok (.i2l, 1) := by decide +kernel
theorem dX7_server_18 : decode cX7_server 18 = .ok (.lconst 0, 1) := by decide +kernel
theorem dX7_server_19 : decode cX7_server 19 = .ok (.lconst 1, 1) := by decide +kernel
theorem dX7_server_20 : decode cX7_server 20 = .ok (.invokestatic 83, 3) := by decide +kernel
theorem dX7_server_23 : decode cX7_server 23 = .ok (.ifCond .ne 7, 3) := by decide +kernel
theorem dX7_server_26 : decode cX7_server 26 = .ok (.sipush (-1002), 3) := by decide +kernel
theorem dX7_server_29 : decode cX7_server 29 = .ok (.ireturn, 1) := by decide +kernel
theorem dX7_server_30 : decode cX7_server 30 = .ok (.aload_n 0, 1) := by decide +kernel
theorem dX7_server_31 : decode cX7_server 31 = .ok (.getfield 32, 3) := by decide +kernel
theorem dX7_server_34 : decode cX7_server 34 = .ok (.iload_n 1, 1) := by decide +kernel
theorem dX7_server_35 : decode cX7_server 35 = .ok (.iaload, 1) := by decide +kernel
theorem dX7_server_36 : decode cX7_server 36 = .ok (.iconst 1, 1) := by decide +kernel
theorem dX7_server_37 : decode cX7_server 37 = .ok (.if_icmp .eq 13, 3) := by decide +kernel
theorem dX7_server_40 : decode cX7_server 40 = .ok (.aload_n 0, 1) := by decide +kernel
theorem dX7_server_41 : decode cX7_server 41 = .ok (.getfield 32, 3) := by decide +kernel
theorem dX7_server_44 : decode cX7_server 44 = .ok (.iload_n 1, 1) := by decide +kernel
theorem dX7_server_45 : decode cX7_server 45 = .ok (.iaload, 1) := by decide +kernel
theorem dX7_server_46 : decode cX7_server 46 = .ok (.iconst 3, 1) := by decide +kernel
theorem dX7_server_47 : decode cX7_server 47 = .ok (.if_icmp .ne 7, 3) := by decide +kernel
theorem dX7_server_50 : decode cX7_server 50 = .ok (.iconst 1, 1) := by decide +kernel
theorem dX7_server_51 : decode cX7_server 51 = .ok (.goto 4, 3) := by decide +kernel
theorem dX7_server_54 : decode cX7_server 54 = .ok (.iconst 0, 1) := by decide +kernel
theorem dX7_server_55 : decode cX7_server 55 = .ok (.istore_n 3, 1) := by decide +kernel
theorem dX7_server_56 : decode cX7_server 56 = .ok (.iload_n 2, 1) := by decide +kernel
theorem dX7_server_57 : decode cX7_server 57 = .ok (.ifCond .ne 12, 3) := by decide +kernel
theorem dX7_server_60 : decode cX7_server 60 = .ok (.aload_n 0, 1) := by decide +kernel
theorem dX7_server_61 : decode cX7_server 61 = .ok (.getfield 32, 3) := by decide +kernel
theorem dX7_server_64 : decode cX7_server 64 = .ok (.iload_n 1, 1) := by decide +kernel
theorem dX7_server_65 : decode cX7_server 65 = .ok (.iaload, 1) := by decide +kernel
theorem dX7_server_66 : decode cX7_server 66 = .ok (.goto 26, 3) := by decide +kernel
theorem dX7_server_69 : decode cX7_server 69 = .ok (.iload_n 3, 1) := by decide +kernel
theorem dX7_server_70 : decode cX7_server 70 = .ok (.ifCond .eq 21, 3) := by decide +kernel
theorem dX7_server_73 : decode cX7_server 73 = .ok (.aload_n 0, 1) := by decide +kernel
theorem dX7_server_74 : decode cX7_server 74 = .ok (.getfield 29, 3) := by decide +kernel
theorem dX7_server_77 : decode cX7_server 77 = .ok (.iconst 0, 1) := by decide +kernel
theorem dX7_server_78 : decode cX7_server 78 = .ok (.iaload, 1) := by decide +kernel
theorem dX7_server_79 : decode cX7_server 79 = .ok (.iconst 1, 1) := by decide +kernel
theorem dX7_server_80 : decode cX7_server 80 = .ok (.isub, 1) := by decide +kernel
theorem dX7_server_81 : decode cX7_server 81 = .ok (.aload_n 0, 1) := by decide +kernel
theorem dX7_server_82 : decode cX7_server 82 = .ok (.getfield 35, 3) := by decide +kernel
theorem dX7_server_85 : decode cX7_server 85 = .ok (.iload_n 1, 1) := by decide +kernel
theorem dX7_server_86 : decode cX7_server 86 = .ok (.iaload, 1) := by decide +kernel
theorem dX7_server_87 : decode cX7_server 87 = .ok (.isub, 1) := by decide +kernel
theorem dX7_server_88 : decode cX7_server 88 = .ok (.goto 4, 3) := by decide +kernel
theorem dX7_server_91 : decode cX7_server 91 = .ok (.iconst 0, 1) := by decide +kernel
theorem dX7_server_92 : decode cX7_server 92 = .ok (.ireturn, 1) := by decide +kernel
set_option maxRecDepth 20000 in
theorem ggX7_now_X7_waiting : GoodIn wsX7_now wsX7_waiting := goodIn_r _ [6, 7, 8, 23, 24, 25, 26, 27, 28, 29, 30, 31, 32, 33, 34, 35, 36, 37, 38, 39, 40, 41, 42, 43, 44] (by decide +kernel) (by decide +kernel)
set_option maxRecDepth 20000 in
theorem gX7_now_X7_waiting : GoodIn wsX7_now (wsV RX7 129 RX7 yX7_waiting wsX7_waiting) := goodIn_app (goodIn_of _ (by decide +kernel)) ggX7_now_X7_waiting
set_option maxRecDepth 20000 in
theorem ggX7_now_X7_triers : GoodIn wsX7_now wsX7_triers := goodIn_r _ [12, 7, 13, 23, 24, 25, 26, 27, 28, 29, 30, 31, 32, 33, 34, 35, 36, 37, 38, 39, 40, 41, 42, 43, 44] (by decide +kernel) (by decide +kernel)
set_option maxRecDepth 20000 in
theorem gX7_now_X7_triers : GoodIn wsX7_now (wsV RX7 153 RX7 yX7_triers wsX7_triers) := goodIn_app (goodIn_of _ (by decide +kernel)) ggX7_now_X7_triers
set_option maxRecDepth 20000 in
theorem ggX7_now_X7_up : GoodIn wsX7_now wsX7_up := goodIn_r _ [17, 18, 19, 20, 5, 21, 22, 23, 24, 25, 26, 27, 28, 29, 30, 31, 32, 33, 34, 35, 36, 37, 38, 39, 40, 41, 42, 43, 44] (by decide +kernel) (by decide +kernel)
set_option maxRecDepth 20000 in
theorem gX7_now_X7_up : GoodIn wsX7_now (wsV RX7 103 RX7 yX7_up wsX7_up) := goodIn_app (goodIn_of _ (by decide +kernel)) ggX7_now_X7_up
set_option maxRecDepth 20000 in
theorem ggX7_now_X7_many : GoodIn wsX7_now wsX7_many := goodIn_r _ [21, 22, 23, 24, 25, 26, 27, 28, 29, 30, 31, 32, 33, 34, 35, 36, 37, 38, 39, 40, 41, 42, 43, 44] (by decide +kernel) (by decide +kernel)
set_option maxRecDepth 20000 in
theorem gX7_now_X7_many : GoodIn wsX7_now (wsV RX7 99 RX7 yX7_many wsX7_many) := goodIn_app (goodIn_of _ (by decide +kernel)) ggX7_now_X7_many
theorem dX7_now_0 : decode cX7_now 0 = .ok (.iload_n 1, 1) := by decide +kernel
theorem dX7_now_1 : decode cX7_now 1 = .ok (.tableswitch 173 0 12 #[67, 74, 79, 84, 91, 98, 105, 112, 119, 124, 130, 136, 165], 67) := by decide +kernel
theorem dX7_now_68 : decode cX7_now 68 = .ok (.aload_n 0, 1) := by decide +kernel
theorem dX7_now_69 : decode cX7_now 69 = .ok (.getfield 29, 3) := by decide +kernel
theorem dX7_now_72 : decode cX7_now 72 = .ok (.iconst 0, 1) := by decide +kernel
theorem dX7_now_73 : decode cX7_now 73 = .ok (.iaload, 1) := by decide +kernel
theorem dX7_now_74 : decode cX7_now 74 = .ok (.ireturn, 1) := by decide +kernel
theorem dX7_now_75 : decode cX7_now 75 = .ok (.aload_n 0, 1) := by decide +kernel
theorem dX7_now_76 : decode cX7_now 76 = .ok (.invokevirtual 129, 3) := by decide +kernel
theorem dX7_now_79 : decode cX7_now 79 = .ok (.ireturn, 1) := by decide +kernel
theorem dX7_now_80 : decode cX7_now 80 = .ok (.aload_n 0, 1) := by decide +kernel
theorem dX7_now_81 : decode cX7_now 81 = .ok (.invokevirtual 153, 3) := by decide +kernel
theorem dX7_now_84 : decode cX7_now 84 = .ok (.ireturn, 1) := by decide +kernel
theorem dX7_now_85 : decode cX7_now 85 = .ok (.aload_n 0, 1) := by decide +kernel
theorem dX7_now_86 : decode cX7_now 86 = .ok (.getfield 29, 3) := by decide +kernel
theorem dX7_now_89 : decode cX7_now 89 = .ok (.iconst 1, 1) := by decide +kernel
theorem dX7_now_90 : decode cX7_now 90 = .ok (.iaload, 1) := by decide +kernel
theorem dX7_now_91 : decode cX7_now 91 = .ok (.ireturn, 1) := by decide +kernel
theorem dX7_now_92 : decode cX7_now 92 = .ok (.aload_n 0, 1) := by decide +kernel
theorem dX7_now_93 : decode cX7_now 93 = .ok (.getfield 29, 3) := by decide +kernel
theorem dX7_now_96 : decode cX7_now 96 = .ok (.iconst 2, 1) := by decide +kernel
theorem dX7_now_97 : decode cX7_now 97 = .ok (.iaload, 1) := by decide +kernel
theorem dX7_now_98 : decode cX7_now 98 = .ok (.ireturn, 1) := by decide +kernel
theorem dX7_now_99 : decode cX7_now 99 = .ok (.aload_n 0, 1) := by decide +kernel
theorem dX7_now_100 : decode cX7_now 100 = .ok (.getfield 29, 3) := by decide +kernel
theorem dX7_now_103 : decode cX7_now 103 = .ok (.iconst 3, 1) := by decide +kernel
theorem dX7_now_104 : decode cX7_now 104 = .ok (.iaload, 1) := by decide +kernel
theorem dX7_now_105 : decode cX7_now 105 = .ok (.ireturn, 1) := by decide +kernel
theorem dX7_now_106 : decode cX7_now 106 = .ok (.aload_n 0, 1) := by decide +kernel
theorem dX7_now_107 : decode cX7_now 107 = .ok (.getfield 29, 3) := by decide +kernel
theorem dX7_now_110 : decode cX7_now 110 = .ok (.iconst 4, 1) := by decide +kernel
theorem dX7_now_111 : decode cX7_now 111 = .ok (.iaload, 1) := by decide +kernel
theorem dX7_now_112 : decode cX7_now 112 = .ok (.ireturn, 1) := by decide +kernel
theorem dX7_now_113 : decode cX7_now 113 = .ok (.aload_n 0, 1) := by decide +kernel
theorem dX7_now_114 : decode cX7_now 114 = .ok (.getfield 29, 3) := by decide +kernel
theorem dX7_now_117 : decode cX7_now 117 = .ok (.iconst 5, 1) := by decide +kernel
theorem dX7_now_118 : decode cX7_now 118 = .ok (.iaload, 1) := by decide +kernel
theorem dX7_now_119 : decode cX7_now 119 = .ok (.ireturn, 1) := by decide +kernel
theorem dX7_now_120 : decode cX7_now 120 = .ok (.aload_n 0, 1) := by decide +kernel
theorem dX7_now_121 : decode cX7_now 121 = .ok (.invokevirtual 103, 3) := by decide +kernel
theorem dX7_now_124 : decode cX7_now 124 = .ok (.ireturn, 1) := by decide +kernel
theorem dX7_now_125 : decode cX7_now 125 = .ok (.aload_n 0, 1) := by decide +kernel
theorem dX7_now_126 : decode cX7_now 126 = .ok (.iconst 2, 1) := by decide +kernel
theorem dX7_now_127 : decode cX7_now 127 = .ok (.invokevirtual 99, 3) := by decide +kernel
theorem dX7_now_130 : decode cX7_now 130 = .ok (.ireturn, 1) := by decide +kernel
theorem dX7_now_131 : decode cX7_now 131 = .ok (.aload_n 0, 1) := by decide +kernel
theorem dX7_now_132 : decode cX7_now 132 = .ok (.iconst 3, 1) := by decide +kernel
theorem dX7_now_133 : decode cX7_now 133 = .ok (.invokevirtual 99, 3) := by decide +kernel
theorem dX7_now_136 : decode cX7_now 136 = .ok (.ireturn, 1) := by decide +kernel
theorem dX7_now_137 : decode cX7_now 137 = .ok (.aload_n 0, 1) := by decide +kernel
theorem dX7_now_138 : decode cX7_now 138 = .ok (.getfield 29, 3) := by decide +kernel
theorem dX7_now_141 : decode cX7_now 141 = .ok (.bipush 6, 2) := by decide +kernel
theorem dX7_now_143 : decode cX7_now 143 = .ok (.iaload, 1) := by decide +kernel
theorem dX7_now_144 : decode cX7_now 144 = .ok (.ifCond .ge 7, 3) := by decide +kernel
theorem dX7_now_147 : decode cX7_now 147 = .ok (.iconst (-1), 1) := by decide +kernel
theorem dX7_now_148 : decode cX7_now 148 = .ok (.goto 17, 3) := by decide +kernel
theorem dX7_now_151 : decode cX7_now 151 = .ok (.aload_n 0, 1) := by decide +kernel
theorem dX7_now_152 : decode cX7_now 152 = .ok (.getfield 29, 3) := by decide +kernel
theorem dX7_now_155 : decode cX7_now 155 = .ok (.iconst 0, 1) := by decide +kernel
theorem dX7_now_156 : decode cX7_now 156 = .ok (.iaload, 1) := by decide +kernel
theorem dX7_now_157 : decode cX7_now 157 = .ok (.aload_n 0, 1) := by decide +kernel
theorem dX7_now_158 : decode cX7_now 158 = .ok (.getfield 29, 3) := by decide +kernel
theorem dX7_now_161 : decode cX7_now 161 = .ok (.bipush 6, 2) := by decide +kernel
theorem dX7_now_163 : decode cX7_now 163 = .ok (.iaload, 1) := by decide +kernel
theorem dX7_now_164 : decode cX7_now 164 = .ok (.isub, 1) := by decide +kernel
theorem dX7_now_165 : decode cX7_now 165 = .ok (.ireturn, 1) := by decide +kernel
theorem dX7_now_166 : decode cX7_now 166 = .ok (.aload_n 0, 1) := by decide +kernel
theorem dX7_now_167 : decode cX7_now 167 = .ok (.getfield 29, 3) := by decide +kernel
theorem dX7_now_170 : decode cX7_now 170 = .ok (.bipush 7, 2) := by decide +kernel
theorem dX7_now_172 : decode cX7_now 172 = .ok (.iaload, 1) := by decide +kernel
theorem dX7_now_173 : decode cX7_now 173 = .ok (.ireturn, 1) := by decide +kernel
theorem dX7_now_174 : decode cX7_now 174 = .ok (.sipush (-1002), 3) := by decide +kernel
theorem dX7_now_177 : decode cX7_now 177 = .ok (.ireturn, 1) := by decide +kernel
set_option maxRecDepth 20000 in
theorem ggX7_was_X7_isTick : GoodIn wsX7_was wsX7_isTick := goodIn_r _ [7, 8, 9, 10, 6, 11] (by decide +kernel) (by decide +kernel)
set_option maxRecDepth 20000 in
theorem gX7_was_X7_isTick : GoodIn wsX7_was (va_wsS RX7 89 yX7_isTick wsX7_isTick) := goodIn_app (goodIn_of _ (by decide +kernel)) ggX7_was_X7_isTick
set_option maxRecDepth 20000 in
theorem ggX7_was_X7_in : GoodIn wsX7_was wsX7_in := goodIn_r _ [11] (by decide +kernel) (by decide +kernel)
set_option maxRecDepth 20000 in
theorem gX7_was_X7_in : GoodIn wsX7_was (va_wsS RX7 83 yX7_in wsX7_in) := goodIn_app (goodIn_of _ (by decide +kernel)) ggX7_was_X7_in
theorem dX7_was_0 : decode cX7_was 0 = .ok (.iload_n 1, 1) := by decide +kernel
theorem dX7_was_1 : decode cX7_was 1 = .ok (.invokestatic 89, 3) := by decide +kernel
theorem dX7_was_4 : decode cX7_was 4 = .ok (.ifCond .eq 15, 3) := by decide +kernel
theorem dX7_was_7 : decode cX7_was 7 = .ok (.iload_n 2, 1) := by decide +kernel
theorem dX7_was_8 : decode cX7_was 8 = .ok (.i2l, 1) := by decide +kernel
theorem dX7_was_9 : decode cX7_was 9 = .ok (.lconst 0, 1) := by decide +kernel
theorem dX7_was_10 : decode cX7_was 10 = .ok (.ldc2_w 156, 3) := by decide +kernel
theorem dX7_was_13 : decode cX7_was 13 = .ok (.invokestatic 83, 3) := by decide +kernel
theorem dX7_was_16 : decode cX7_was 16 = .ok (.ifCond .ne 7, 3) := by decide +kernel
theorem dX7_was_19 : decode cX7_was 19 = .ok (.sipush (-1002), 3) := by decide +kernel
theorem dX7_was_22 : decode cX7_was 22 = .ok (.ireturn, 1) := by decide +kernel
theorem dX7_was_23 : decode cX7_was 23 = .ok (.iload_n 1, 1) := by decide +kernel
theorem dX7_was_24 : decode cX7_was 24 = .ok (.aload_n 0, 1) := by decide +kernel
theorem dX7_was_25 : decode cX7_was 25 = .ok (.getfield 29, 3) := by decide +kernel
theorem dX7_was_28 : decode cX7_was 28 = .ok (.iconst 0, 1) := by decide +kernel
theorem dX7_was_29 : decode cX7_was 29 = .ok (.iaload, 1) := by decide +kernel
theorem dX7_was_30 : decode cX7_was 30 = .ok (.if_icmp .ge 17, 3) := by decide +kernel
theorem dX7_was_33 : decode cX7_was 33 = .ok (.aload_n 0, 1) := by decide +kernel
theorem dX7_was_34 : decode cX7_was 34 = .ok (.getfield 59, 3) := by decide +kernel
theorem dX7_was_37 : decode cX7_was 37 = .ok (.bipush 6, 2) := by decide +kernel
theorem dX7_was_39 : decode cX7_was 39 = .ok (.iload_n 1, 1) := by decide +kernel
theorem dX7_was_40 : decode cX7_was 40 = .ok (.imul, 1) := by decide +kernel
theorem dX7_was_41 : decode cX7_was 41 = .ok (.iload_n 2, 1) := by decide +kernel
theorem dX7_was_42 : decode cX7_was 42 = .ok (.iadd, 1) := by decide +kernel
theorem dX7_was_43 : decode cX7_was 43 = .ok (.iaload, 1) := by decide +kernel
theorem dX7_was_44 : decode cX7_was 44 = .ok (.goto 6, 3) := by decide +kernel
theorem dX7_was_47 : decode cX7_was 47 = .ok (.sipush (-1003), 3) := by decide +kernel
theorem dX7_was_50 : decode cX7_was 50 = .ok (.ireturn, 1) := by decide +kernel
theorem dX7_latest_0 : decode cX7_latest 0 = .ok (.iconst 0, 1) := by decide +kernel
theorem dX7_latest_1 : decode cX7_latest 1 = .ok (.istore_n 3, 1) := by decide +kernel
theorem dX7_latest_2 : decode cX7_latest 2 = .ok (.iload_n 1, 1) := by decide +kernel
theorem dX7_latest_3 : decode cX7_latest 3 = .ok (.istore 4, 2) := by decide +kernel
theorem dX7_latest_5 : decode cX7_latest 5 = .ok (.iload 4, 2) := by decide +kernel
theorem dX7_latest_7 : decode cX7_latest 7 = .ok (.iload_n 1, 1) := by decide +kernel
theorem dX7_latest_8 : decode cX7_latest 8 = .ok (.iload_n 2, 1) := by decide +kernel
theorem dX7_latest_9 : decode cX7_latest 9 = .ok (.isub, 1) := by decide +kernel
theorem dX7_latest_10 : decode cX7_latest 10 = .ok (.if_icmp .le 24, 3) := by decide +kernel
theorem dX7_latest_13 : decode cX7_latest 13 = .ok (.iload 4, 2) := by decide +kernel
theorem dX7_latest_15 : decode cX7_latest 15 = .ok (.ifCond .lt 19, 3) := by decide +kernel
theorem dX7_latest_18 : decode cX7_latest 18 = .ok (.iload_n 3, 1) := by decide +kernel
theorem dX7_latest_19 : decode cX7_latest 19 = .ok (.aload_n 0, 1) := by decide +kernel
theorem dX7_latest_20 : decode cX7_latest 20 = .ok (.getfield 19, 3) := by decide +kernel
theorem dX7_latest_23 : decode cX7_latest 23 = .ok (.iload 4, 2) := by decide +kernel
theorem dX7_latest_25 : decode cX7_latest 25 = .ok (.iaload, 1) := by decide +kernel
theorem dX7_latest_26 : decode cX7_latest 26 = .ok (.iadd, 1) := by decide +kernel
theorem dX7_latest_27 : decode cX7_latest 27 = .ok (.istore_n 3, 1) := by decide +kernel
theorem dX7_latest_28 : decode cX7_latest 28 = .ok (.iinc 4 (-1), 3) := by decide +kernel
theorem dX7_latest_31 : decode cX7_latest 31 = .ok (.goto (-26), 3) := by decide +kernel
theorem dX7_latest_34 : decode cX7_latest 34 = .ok (.iload_n 3, 1) := by decide +kernel
theorem dX7_latest_35 : decode cX7_latest 35 = .ok (.ireturn, 1) := by decide +kernel
set_option maxRecDepth 20000 in
theorem ggX7_hindsight_X7_in : GoodIn wsX7_hindsight wsX7_in := goodIn_r _ [10] (by decide +kernel) (by decide +kernel)
set_option maxRecDepth 20000 in
theorem gX7_hindsight_X7_in : GoodIn wsX7_hindsight (va_wsS RX7 83 yX7_in wsX7_in) := goodIn_app (goodIn_of _ (by decide +kernel)) ggX7_hindsight_X7_in
set_option maxRecDepth 20000 in
theorem ggX7_hindsight_X7_latest : GoodIn wsX7_hindsight wsX7_latest := goodIn_r _ [14, 6, 21, 22, 23, 24, 25, 26, 27, 28, 29, 30, 31, 32, 33, 34, 35, 36, 37, 38, 39, 40, 41, 42] (by decide +kernel) (by decide +kernel)
set_option maxRecDepth 20000 in
theorem gX7_hindsight_X7_latest : GoodIn wsX7_hindsight (wsV RX7 161 RX7 yX7_latest wsX7_latest) := goodIn_app (goodIn_of _ (by decide +kernel)) ggX7_hindsight_X7_latest
set_option maxRecDepth 20000 in
theorem ggX7_hindsight_X7_most : GoodIn wsX7_hindsight wsX7_most := goodIn_r _ [17] (by decide +kernel) (by decide +kernel)
set_option maxRecDepth 20000 in
theorem gX7_hindsight_X7_most : GoodIn wsX7_hindsight (va_wsS RX7 107 yX7_most wsX7_most) := goodIn_app (goodIn_of _ (by decide +kernel)) ggX7_hindsight_X7_most
set_option maxRecDepth 20000 in
theorem ggX7_hindsight_X7_least : GoodIn wsX7_hindsight wsX7_least := goodIn_r _ [20] (by decide +kernel) (by decide +kernel)
set_option maxRecDepth 20000 in
theorem gX7_hindsight_X7_least : GoodIn wsX7_hindsight (va_wsS RX7 111 yX7_least wsX7_least) := goodIn_app (goodIn_of _ (by decide +kernel)) ggX7_hindsight_X7_least
theorem dX7_hindsight_0 : decode cX7_hindsight 0 = .ok (.iload_n 1, 1) := by decide +kernel
theorem dX7_hindsight_1 : decode cX7_hindsight 1 = .ok (.i2l, 1) := by decide +kernel
theorem dX7_hindsight_2 : decode cX7_hindsight 2 = .ok (.lconst 1, 1) := by decide +kernel
theorem dX7_hindsight_3 : decode cX7_hindsight 3 = .ok (.ldc2_w 158, 3) := by decide +kernel
theorem dX7_hindsight_6 : decode cX7_hindsight 6 = .ok (.invokestatic 83, 3) := by decide +kernel
theorem dX7_hindsight_9 : decode cX7_hindsight 9 = .ok (.ifCond .ne 7, 3) := by decide +kernel
theorem dX7_hindsight_12 : decode cX7_hindsight 12 = .ok (.sipush (-1002), 3) := by decide +kernel
theorem dX7_hindsight_15 : decode cX7_hindsight 15 = .ok (.ireturn, 1) := by decide +kernel
theorem dX7_hindsight_16 : decode cX7_hindsight 16 = .ok (.iconst 0, 1) := by decide +kernel
theorem dX7_hindsight_17 : decode cX7_hindsight 17 = .ok (.istore_n 2, 1) := by decide +kernel
theorem dX7_hindsight_18 : decode cX7_hindsight 18 = .ok (.iload_n 2, 1) := by decide +kernel
theorem dX7_hindsight_19 : decode cX7_hindsight 19 = .ok (.sipush 8645, 3) := by decide +kernel
theorem dX7_hindsight_22 : decode cX7_hindsight 22 = .ok (.if_icmp .ge 25, 3) := by decide +kernel
theorem dX7_hindsight_25 : decode cX7_hindsight 25 = .ok (.aload_n 0, 1) := by decide +kernel
theorem dX7_hindsight_26 : decode cX7_hindsight 26 = .ok (.getfield 65, 3) := by decide +kernel
theorem dX7_hindsight_29 : decode cX7_hindsight 29 = .ok (.iload_n 2, 1) := by decide +kernel
theorem dX7_hindsight_30 : decode cX7_hindsight 30 = .ok (.iload_n 2, 1) := by decide +kernel
theorem dX7_hindsight_31 : decode cX7_hindsight 31 = .ok (.ifCond .ne 7, 3) := by decide +kernel
theorem dX7_hindsight_34 : decode cX7_hindsight 34 = .ok (.iconst 0, 1) := by decide +kernel
theorem dX7_hindsight_35 : decode cX7_hindsight 35 = .ok (.goto 5, 3) := by decide +kernel
theorem dX7_hindsight_38 : decode cX7_hindsight 38 = .ok (.ldc 160, 2) := by decide +kernel
theorem dX7_hindsight_40 : decode cX7_hindsight 40 = .ok (.iastore, 1) := by decide +kernel
theorem dX7_hindsight_41 : decode cX7_hindsight 41 = .ok (.iinc 2 1, 3) := by decide +kernel
theorem dX7_hindsight_44 : decode cX7_hindsight 44 = .ok (.goto (-26), 3) := by decide +kernel
theorem dX7_hindsight_47 : decode cX7_hindsight 47 = .ok (.iconst 0, 1) := by decide +kernel
theorem dX7_hindsight_48 : decode cX7_hindsight 48 = .ok (.istore_n 2, 1) := by decide +kernel
theorem dX7_hindsight_49 : decode cX7_hindsight 49 = .ok (.iload_n 2, 1) := by decide +kernel
theorem dX7_hindsight_50 : decode cX7_hindsight 50 = .ok (.iload_n 1, 1) := by decide +kernel
theorem dX7_hindsight_51 : decode cX7_hindsight 51 = .ok (.if_icmp .ge 236, 3) := by decide +kernel
theorem dX7_hindsight_54 : decode cX7_hindsight 54 = .ok (.aload_n 0, 1) := by decide +kernel
theorem dX7_hindsight_55 : decode cX7_hindsight 55 = .ok (.iload_n 2, 1) := by decide +kernel
theorem dX7_hindsight_56 : decode cX7_hindsight 56 = .ok (.aload_n 0, 1) := by decide +kernel
theorem dX7_hindsight_57 : decode cX7_hindsight 57 = .ok (.getfield 7, 3) := by decide +kernel
theorem dX7_hindsight_60 : decode cX7_hindsight 60 = .ok (.iconst 3, 1) := by decide +kernel
theorem dX7_hindsight_61 : decode cX7_hindsight 61 = .ok (.iaload, 1) := by decide +kernel
theorem dX7_hindsight_62 : decode cX7_hindsight 62 = .ok (.iconst 1, 1) := by decide +kernel
theorem dX7_hindsight_63 : decode cX7_hindsight 63 = .ok (.isub, 1) := by decide +kernel
theorem dX7_hindsight_64 : decode cX7_hindsight 64 = .ok (.invokevirtual 161, 3) := by decide +kernel
theorem dX7_hindsight_67 : decode cX7_hindsight 67 = .ok (.istore_n 3, 1) := by decide +kernel
theorem dX7_hindsight_68 : decode cX7_hindsight 68 = .ok (.iconst 0, 1) := by decide +kernel
theorem dX7_hindsight_69 : decode cX7_hindsight 69 = .ok (.istore 4, 2) := by decide +kernel
theorem dX7_hindsight_71 : decode cX7_hindsight 71 = .ok (.iload 4, 2) := by decide +kernel
theorem dX7_hindsight_73 : decode cX7_hindsight 73 = .ok (.sipush 8645, 3) := by decide +kernel
theorem dX7_hindsight_76 : decode cX7_hindsight 76 = .ok (.if_icmp .ge 18, 3) := by decide +kernel
theorem dX7_hindsight_79 : decode cX7_hindsight 79 = .ok (.aload_n 0, 1) := by decide +kernel
theorem dX7_hindsight_80 : decode cX7_hindsight 80 = .ok (.getfield 68, 3) := by decide +kernel
theorem dX7_hindsight_83 : decode cX7_hindsight 83 = .ok (.iload 4, 2) := by decide +kernel
theorem dX7_hindsight_85 : decode cX7_hindsight 85 = .ok (.ldc 160, 2) := by decide +kernel
theorem dX7_hindsight_87 : decode cX7_hindsight 87 = .ok (.iastore, 1) := by decide +kernel
theorem dX7_hindsight_88 : decode cX7_hindsight 88 = .ok (.iinc 4 1, 3) := by decide +kernel
theorem dX7_hindsight_91 : decode cX7_hindsight 91 = .ok (.goto (-20), 3) := by decide +kernel
theorem dX7_hindsight_94 : decode cX7_hindsight 94 = .ok (.iconst 0, 1) := by decide +kernel
theorem dX7_hindsight_95 : decode cX7_hindsight 95 = .ok (.istore 4, 2) := by decide +kernel
theorem dX7_hindsight_97 : decode cX7_hindsight 97 = .ok (.iload 4, 2) := by decide +kernel
theorem dX7_hindsight_99 : decode cX7_hindsight 99 = .ok (.sipush 8645, 3) := by decide +kernel
theorem dX7_hindsight_102 : decode cX7_hindsight 102 = .ok (.if_icmp .ge 148, 3) := by decide +kernel
theorem dX7_hindsight_105 : decode cX7_hindsight 105 = .ok (.aload_n 0, 1) := by decide +kernel
theorem dX7_hindsight_106 : decode cX7_hindsight 106 = .ok (.getfield 7, 3) := by decide +kernel
theorem dX7_hindsight_109 : decode cX7_hindsight 109 = .ok (.bipush 7, 2) := by decide +kernel
theorem dX7_hindsight_111 : decode cX7_hindsight 111 = .ok (.iaload, 1) := by decide +kernel
theorem dX7_hindsight_112 : decode cX7_hindsight 112 = .ok (.istore 5, 2) := by decide +kernel
theorem dX7_hindsight_114 : decode cX7_hindsight 114 = .ok (.iload 5, 2) := by decide +kernel
theorem dX7_hindsight_116 : decode cX7_hindsight 116 = .ok (.aload_n 0, 1) := by decide +kernel
theorem dX7_hindsight_117 : decode cX7_hindsight 117 = .ok (.getfield 7, 3) := by decide +kernel
theorem dX7_hindsight_120 : decode cX7_hindsight 120 = .ok (.bipush 8, 2) := by decide +kernel
theorem dX7_hindsight_122 : decode cX7_hindsight 122 = .ok (.iaload, 1) := by decide +kernel
theorem dX7_hindsight_123 : decode cX7_hindsight 123 = .ok (.if_icmp .gt 121, 3) := by decide +kernel
theorem dX7_hindsight_126 : decode cX7_hindsight 126 = .ok (.aload_n 0, 1) := by decide +kernel
theorem dX7_hindsight_127 : decode cX7_hindsight 127 = .ok (.getfield 65, 3) := by decide +kernel
theorem dX7_hindsight_130 : decode cX7_hindsight 130 = .ok (.iload 4, 2) := by decide +kernel
theorem dX7_hindsight_132 : decode cX7_hindsight 132 = .ok (.iaload, 1) := by decide +kernel
theorem dX7_hindsight_133 : decode cX7_hindsight 133 = .ok (.ldc 160, 2) := by decide +kernel
theorem dX7_hindsight_135 : decode cX7_hindsight 135 = .ok (.if_icmp .ge 109, 3) := by decide +kernel
theorem dX7_hindsight_138 : decode cX7_hindsight 138 = .ok (.iconst 0, 1) := by decide +kernel
theorem dX7_hindsight_139 : decode cX7_hindsight 139 = .ok (.iload 4, 2) := by decide +kernel
theorem dX7_hindsight_141 : decode cX7_hindsight 141 = .ok (.bipush 13, 2) := by decide +kernel
theorem dX7_hindsight_143 : decode cX7_hindsight 143 = .ok (.idiv, 1) := by decide +kernel
theorem dX7_hindsight_144 : decode cX7_hindsight 144 = .ok (.aload_n 0, 1) := by decide +kernel
theorem dX7_hindsight_145 : decode cX7_hindsight 145 = .ok (.getfield 19, 3) := by decide +kernel
theorem dX7_hindsight_148 : decode cX7_hindsight 148 = .ok (.iload_n 2, 1) := by decide +kernel
theorem dX7_hindsight_149 : decode cX7_hindsight 149 = .ok (.iaload, 1) := by decide +kernel
theorem dX7_hindsight_150 : decode cX7_hindsight 150 = .ok (.iadd, 1) := by decide +kernel
theorem dX7_hindsight_151 : decode cX7_hindsight 151 = .ok (.iload 5, 2) := by decide +kernel
theorem dX7_hindsight_153 : decode cX7_hindsight 153 = .ok (.aload_n 0, 1) := by decide +kernel
theorem dX7_hindsight_154 : decode cX7_hindsight 154 = .ok (.getfield 7, 3) := by decide +kernel
theorem dX7_hindsight_157 : decode cX7_hindsight 157 = .ok (.iconst 2, 1) := by decide +kernel
theorem dX7_hindsight_158 : decode cX7_hindsight 158 = .ok (.iaload, 1) := by decide +kernel
theorem dX7_hindsight_159 : decode cX7_hindsight 159 = .ok (.imul, 1) := by decide +kernel
theorem dX7_hindsight_160 : decode cX7_hindsight 160 = .ok (.isub, 1) := by decide +kernel
theorem dX7_hindsight_161 : decode cX7_hindsight 161 = .ok (.invokestatic 107, 3) := by decide +kernel
theorem dX7_hindsight_164 : decode cX7_hindsight 164 = .ok (.istore 6, 2) := by decide +kernel
theorem dX7_hindsight_166 : decode cX7_hindsight 166 = .ok (.aload_n 0, 1) := by decide +kernel
theorem dX7_hindsight_167 : decode cX7_hindsight 167 = .ok (.getfield 65, 3) := by decide +kernel
theorem dX7_hindsight_170 : decode cX7_hindsight 170 = .ok (.iload 4, 2) := by decide +kernel
theorem dX7_hindsight_172 : decode cX7_hindsight 172 = .ok (.iaload, 1) := by decide +kernel
theorem dX7_hindsight_173 : decode cX7_hindsight 173 = .ok (.aload_n 0, 1) := by decide +kernel
theorem dX7_hindsight_174 : decode cX7_hindsight 174 = .ok (.getfield 7, 3) := by decide +kernel
theorem dX7_hindsight_177 : decode cX7_hindsight 177 = .ok (.bipush 16, 2) := by decide +kernel
theorem dX7_hindsight_179 : decode cX7_hindsight 179 = .ok (.iaload, 1) := by decide +kernel
theorem dX7_hindsight_180 : decode cX7_hindsight 180 = .ok (.iload 5, 2) := by decide +kernel
theorem dX7_hindsight_182 : decode cX7_hindsight 182 = .ok (.iconst 0, 1) := by decide +kernel
theorem dX7_hindsight_183 : decode cX7_hindsight 183 = .ok (.iload 5, 2) := by decide +kernel
theorem dX7_hindsight_185 : decode cX7_hindsight 185 = .ok (.iload 4, 2) := by decide +kernel
theorem dX7_hindsight_187 : decode cX7_hindsight 187 = .ok (.bipush 13, 2) := by decide +kernel
theorem dX7_hindsight_189 : decode cX7_hindsight 189 = .ok (.irem, 1) := by decide +kernel
theorem dX7_hindsight_190 : decode cX7_hindsight 190 = .ok (.isub, 1) := by decide +kernel
theorem dX7_hindsight_191 : decode cX7_hindsight 191 = .ok (.invokestatic 107, 3) := by decide +kernel
theorem dX7_hindsight_194 : decode cX7_hindsight 194 = .ok (.iadd, 1) := by decide +kernel
theorem dX7_hindsight_195 : decode cX7_hindsight 195 = .ok (.imul, 1) := by decide +kernel
theorem dX7_hindsight_196 : decode cX7_hindsight 196 = .ok (.iadd, 1) := by decide +kernel
theorem dX7_hindsight_197 : decode cX7_hindsight 197 = .ok (.istore 7, 2) := by decide +kernel
theorem dX7_hindsight_199 : decode cX7_hindsight 199 = .ok (.iload 6, 2) := by decide +kernel
theorem dX7_hindsight_201 : decode cX7_hindsight 201 = .ok (.iload_n 3, 1) := by decide +kernel
theorem dX7_hindsight_202 : decode cX7_hindsight 202 = .ok (.if_icmp .gt 36, 3) := by decide +kernel
theorem dX7_hindsight_205 : decode cX7_hindsight 205 = .ok (.iload 7, 2) := by decide +kernel
theorem dX7_hindsight_207 : decode cX7_hindsight 207 = .ok (.aload_n 0, 1) := by decide +kernel
theorem dX7_hindsight_208 : decode cX7_hindsight 208 = .ok (.getfield 68, 3) := by decide +kernel
theorem dX7_hindsight_211 : decode cX7_hindsight 211 = .ok (.bipush 13, 2) := by decide +kernel
theorem dX7_hindsight_213 : decode cX7_hindsight 213 = .ok (.iload 6, 2) := by decide +kernel
theorem dX7_hindsight_215 : decode cX7_hindsight 215 = .ok (.imul, 1) := by decide +kernel
theorem dX7_hindsight_216 : decode cX7_hindsight 216 = .ok (.iload 5, 2) := by decide +kernel
theorem dX7_hindsight_218 : decode cX7_hindsight 218 = .ok (.iadd, 1) := by decide +kernel
theorem dX7_hindsight_219 : decode cX7_hindsight 219 = .ok (.iaload, 1) := by decide +kernel
theorem dX7_hindsight_220 : decode cX7_hindsight 220 = .ok (.if_icmp .ge 18, 3) := by decide +kernel
theorem dX7_hindsight_223 : decode cX7_hindsight 223 = .ok (.aload_n 0, 1) := by decide +kernel
theorem dX7_hindsight_224 : decode cX7_hindsight 224 = .ok (.getfield 68, 3) := by decide +kernel
theorem dX7_hindsight_227 : decode cX7_hindsight 227 = .ok (.bipush 13, 2) := by decide +kernel
theorem dX7_hindsight_229 : decode cX7_hindsight 229 = .ok (.iload 6, 2) := by decide +kernel
theorem dX7_hindsight_231 : decode cX7_hindsight 231 = .ok (.imul, 1) := by decide +kernel
theorem dX7_hindsight_232 : decode cX7_hindsight 232 = .ok (.iload 5, 2) := by decide +kernel
theorem dX7_hindsight_234 : decode cX7_hindsight 234 = .ok (.iadd, 1) := by decide +kernel
theorem dX7_hindsight_235 : decode cX7_hindsight 235 = .ok (.iload 7, 2) := by decide +kernel
theorem dX7_hindsight_237 : decode cX7_hindsight 237 = .ok (.iastore, 1) := by decide +kernel
theorem dX7_hindsight_238 : decode cX7_hindsight 238 = .ok (.iinc 5 1, 3) := by decide +kernel
theorem dX7_hindsight_241 : decode cX7_hindsight 241 = .ok (.goto (-127), 3) := by decide +kernel
theorem dX7_hindsight_244 : decode cX7_hindsight 244 = .ok (.iinc 4 1, 3) := by decide +kernel
theorem dX7_hindsight_247 : decode cX7_hindsight 247 = .ok (.goto (-150), 3) := by decide +kernel
theorem dX7_hindsight_250 : decode cX7_hindsight 250 = .ok (.iconst 0, 1) := by decide +kernel
theorem dX7_hindsight_251 : decode cX7_hindsight 251 = .ok (.istore 4, 2) := by decide +kernel
theorem dX7_hindsight_253 : decode cX7_hindsight 253 = .ok (.iload 4, 2) := by decide +kernel
theorem dX7_hindsight_255 : decode cX7_hindsight 255 = .ok (.sipush 8645, 3) := by decide +kernel
theorem dX7_hindsight_258 : decode cX7_hindsight 258 = .ok (.if_icmp .ge 23, 3) := by decide +kernel
theorem dX7_hindsight_261 : decode cX7_hindsight 261 = .ok (.aload_n 0, 1) := by decide +kernel
theorem dX7_hindsight_262 : decode cX7_hindsight 262 = .ok (.getfield 65, 3) := by decide +kernel
theorem dX7_hindsight_265 : decode cX7_hindsight 265 = .ok (.iload 4, 2) := by decide +kernel
theorem dX7_hindsight_267 : decode cX7_hindsight 267 = .ok (.aload_n 0, 1) := by decide +kernel
theorem dX7_hindsight_268 : decode cX7_hindsight 268 = .ok (.getfield 68, 3) := by decide +kernel
theorem dX7_hindsight_271 : decode cX7_hindsight 271 = .ok (.iload 4, 2) := by decide +kernel
theorem dX7_hindsight_273 : decode cX7_hindsight 273 = .ok (.iaload, 1) := by decide +kernel
theorem dX7_hindsight_274 : decode cX7_hindsight 274 = .ok (.iastore, 1) := by decide +kernel
theorem dX7_hindsight_275 : decode cX7_hindsight 275 = .ok (.iinc 4 1, 3) := by decide +kernel
theorem dX7_hindsight_278 : decode cX7_hindsight 278 = .ok (.goto (-25), 3) := by decide +kernel
theorem dX7_hindsight_281 : decode cX7_hindsight 281 = .ok (.iinc 2 1, 3) := by decide +kernel
theorem dX7_hindsight_284 : decode cX7_hindsight 284 = .ok (.goto (-235), 3) := by decide +kernel
theorem dX7_hindsight_287 : decode cX7_hindsight 287 = .ok (.ldc 160, 2) := by decide +kernel
theorem dX7_hindsight_289 : decode cX7_hindsight 289 = .ok (.istore_n 2, 1) := by decide +kernel
theorem dX7_hindsight_290 : decode cX7_hindsight 290 = .ok (.iconst 0, 1) := by decide +kernel
theorem dX7_hindsight_291 : decode cX7_hindsight 291 = .ok (.istore_n 3, 1) := by decide +kernel
theorem dX7_hindsight_292 : decode cX7_hindsight 292 = .ok (.iload_n 3, 1) := by decide +kernel
theorem dX7_hindsight_293 : decode cX7_hindsight 293 = .ok (.sipush 8645, 3) := by decide +kernel
theorem dX7_hindsight_296 : decode cX7_hindsight 296 = .ok (.if_icmp .ge 20, 3) := by decide +kernel
theorem dX7_hindsight_299 : decode cX7_hindsight 299 = .ok (.iload_n 2, 1) := by decide +kernel
theorem dX7_hindsight_300 : decode cX7_hindsight 300 = .ok (.aload_n 0, 1) := by decide +kernel
theorem dX7_hindsight_301 : decode cX7_hindsight 301 = .ok (.getfield 65, 3) := by decide +kernel
theorem dX7_hindsight_304 : decode cX7_hindsight 304 = .ok (.iload_n 3, 1) := by decide +kernel
theorem dX7_hindsight_305 : decode cX7_hindsight 305 = .ok (.iaload, 1) := by decide +kernel
theorem dX7_hindsight_306 : decode cX7_hindsight 306 = .ok (.invokestatic 111, 3) := by decide +kernel
theorem dX7_hindsight_309 : decode cX7_hindsight 309 = .ok (.istore_n 2, 1) := by decide +kernel
theorem dX7_hindsight_310 : decode cX7_hindsight 310 = .ok (.iinc 3 1, 3) := by decide +kernel
theorem dX7_hindsight_313 : decode cX7_hindsight 313 = .ok (.goto (-21), 3) := by decide +kernel
theorem dX7_hindsight_316 : decode cX7_hindsight 316 = .ok (.iload_n 2, 1) := by decide +kernel
theorem dX7_hindsight_317 : decode cX7_hindsight 317 = .ok (.ldc 160, 2) := by decide +kernel
theorem dX7_hindsight_319 : decode cX7_hindsight 319 = .ok (.if_icmp .ne 7, 3) := by decide +kernel
theorem dX7_hindsight_322 : decode cX7_hindsight 322 = .ok (.iconst (-1), 1) := by decide +kernel
theorem dX7_hindsight_323 : decode cX7_hindsight 323 = .ok (.goto 4, 3) := by decide +kernel
theorem dX7_hindsight_326 : decode cX7_hindsight 326 = .ok (.iload_n 2, 1) := by decide +kernel
theorem dX7_hindsight_327 : decode cX7_hindsight 327 = .ok (.ireturn, 1) := by decide +kernel
theorem dX7_swap_0 : decode cX7_swap 0 = .ok (.iconst 0, 1) := by decide +kernel
theorem dX7_swap_1 : decode cX7_swap 1 = .ok (.istore_n 3, 1) := by decide +kernel
theorem dX7_swap_2 : decode cX7_swap 2 = .ok (.iload_n 3, 1) := by decide +kernel
theorem dX7_swap_3 : decode cX7_swap 3 = .ok (.aload_n 1, 1) := by decide +kernel
theorem dX7_swap_4 : decode cX7_swap 4 = .ok (.arraylength, 1) := by decide +kernel
theorem dX7_swap_5 : decode cX7_swap 5 = .ok (.if_icmp .ge 50, 3) := by decide +kernel
theorem dX7_swap_8 : decode cX7_swap 8 = .ok (.iload_n 2, 1) := by decide +kernel
theorem dX7_swap_9 : decode cX7_swap 9 = .ok (.ifCond .eq 18, 3) := by decide +kernel
theorem dX7_swap_12 : decode cX7_swap 12 = .ok (.aload_n 1, 1) := by decide +kernel
theorem dX7_swap_13 : decode cX7_swap 13 = .ok (.iload_n 3, 1) := by decide +kernel
theorem dX7_swap_14 : decode cX7_swap 14 = .ok (.aload_n 0, 1) := by decide +kernel
theorem dX7_swap_15 : decode cX7_swap 15 = .ok (.getfield 62, 3) := by decide +kernel
theorem dX7_swap_18 : decode cX7_swap 18 = .ok (.aload_n 0, 1) := by decide +kernel
theorem dX7_swap_19 : decode cX7_swap 19 = .ok (.getfield 164, 3) := by decide +kernel
theorem dX7_swap_22 : decode cX7_swap 22 = .ok (.iaload, 1) := by decide +kernel
theorem dX7_swap_23 : decode cX7_swap 23 = .ok (.iastore, 1) := by decide +kernel
theorem dX7_swap_24 : decode cX7_swap 24 = .ok (.goto 15, 3) := by decide +kernel
theorem dX7_swap_27 : decode cX7_swap 27 = .ok (.aload_n 0, 1) := by decide +kernel
theorem dX7_swap_28 : decode cX7_swap 28 = .ok (.getfield 62, 3) := by decide +kernel
theorem dX7_swap_31 : decode cX7_swap 31 = .ok (.aload_n 0, 1) := by decide +kernel
theorem dX7_swap_32 : decode cX7_swap 32 = .ok (.getfield 164, 3) := by decide +kernel
theorem dX7_swap_35 : decode cX7_swap 35 = .ok (.aload_n 1, 1) := by decide +kernel
theorem dX7_swap_36 : decode cX7_swap 36 = .ok (.iload_n 3, 1) := by decide +kernel
theorem dX7_swap_37 : decode cX7_swap 37 = .ok (.iaload, 1) := by decide +kernel
theorem dX7_swap_38 : decode cX7_swap 38 = .ok (.iastore, 1) := by decide +kernel
theorem dX7_swap_39 : decode cX7_swap 39 = .ok (.aload_n 0, 1) := by decide +kernel
theorem dX7_swap_40 : decode cX7_swap 40 = .ok (.dup, 1) := by decide +kernel
theorem dX7_swap_41 : decode cX7_swap 41 = .ok (.getfield 164, 3) := by decide +kernel
theorem dX7_swap_44 : decode cX7_swap 44 = .ok (.iconst 1, 1) := by decide +kernel
theorem dX7_swap_45 : decode cX7_swap 45 = .ok (.iadd, 1) := by decide +kernel
theorem dX7_swap_46 : decode cX7_swap 46 = .ok (.putfield 164, 3) := by decide +kernel
theorem dX7_swap_49 : decode cX7_swap 49 = .ok (.iinc 3 1, 3) := by decide +kernel
theorem dX7_swap_52 : decode cX7_swap 52 = .ok (.goto (-50), 3) := by decide +kernel
theorem dX7_swap_55 : decode cX7_swap 55 = .ok (.return_, 1) := by decide +kernel
set_option maxRecDepth 20000 in
theorem ggX7_keepAll_X7_swap : GoodIn wsX7_keepAll wsX7_swap := goodIn_r _ [19, 20, 1, 21, 22, 23, 24, 25, 26, 27, 28, 29, 30, 31, 32, 33, 34, 35, 36, 37, 38, 39, 40, 41, 42] (by decide +kernel) (by decide +kernel)
set_option maxRecDepth 20000 in
theorem gX7_keepAll_X7_swap : GoodIn wsX7_keepAll (wsV RX7 168 RX7 yX7_swap wsX7_swap) := goodIn_app (goodIn_of _ (by decide +kernel)) ggX7_keepAll_X7_swap
theorem dX7_keepAll_0 : decode cX7_keepAll 0 = .ok (.aload_n 0, 1) := by decide +kernel
theorem dX7_keepAll_1 : decode cX7_keepAll 1 = .ok (.iconst 0, 1) := by decide +kernel
theorem dX7_keepAll_2 : decode cX7_keepAll 2 = .ok (.putfield 164, 3) := by decide +kernel
theorem dX7_keepAll_5 : decode cX7_keepAll 5 = .ok (.aload_n 0, 1) := by decide +kernel
theorem dX7_keepAll_6 : decode cX7_keepAll 6 = .ok (.aload_n 0, 1) := by decide +kernel
theorem dX7_keepAll_7 : decode cX7_keepAll 7 = .ok (.getfield 29, 3) := by decide +kernel
theorem dX7_keepAll_10 : decode cX7_keepAll 10 = .ok (.iload_n 1, 1) := by decide +kernel
theorem dX7_keepAll_11 : decode cX7_keepAll 11 = .ok (.invokevirtual 168, 3) := by decide +kernel
theorem dX7_keepAll_14 : decode cX7_keepAll 14 = .ok (.aload_n 0, 1) := by decide +kernel
theorem dX7_keepAll_15 : decode cX7_keepAll 15 = .ok (.aload_n 0, 1) := by decide +kernel
theorem dX7_keepAll_16 : decode cX7_keepAll 16 = .ok (.getfield 32, 3) := by decide +kernel
theorem dX7_keepAll_19 : decode cX7_keepAll 19 = .ok (.iload_n 1, 1) := by decide +kernel
theorem dX7_keepAll_20 : decode cX7_keepAll 20 = .ok (.invokevirtual 168, 3) := by decide +kernel
theorem dX7_keepAll_23 : decode cX7_keepAll 23 = .ok (.aload_n 0, 1) := by decide +kernel
theorem dX7_keepAll_24 : decode cX7_keepAll 24 = .ok (.aload_n 0, 1) := by decide +kernel
theorem dX7_keepAll_25 : decode cX7_keepAll 25 = .ok (.getfield 35, 3) := by decide +kernel
theorem dX7_keepAll_28 : decode cX7_keepAll 28 = .ok (.iload_n 1, 1) := by decide +kernel
theorem dX7_keepAll_29 : decode cX7_keepAll 29 = .ok (.invokevirtual 168, 3) := by decide +kernel
theorem dX7_keepAll_32 : decode cX7_keepAll 32 = .ok (.aload_n 0, 1) := by decide +kernel
theorem dX7_keepAll_33 : decode cX7_keepAll 33 = .ok (.aload_n 0, 1) := by decide +kernel
theorem dX7_keepAll_34 : decode cX7_keepAll 34 = .ok (.getfield 38, 3) := by decide +kernel
theorem dX7_keepAll_37 : decode cX7_keepAll 37 = .ok (.iload_n 1, 1) := by decide +kernel
theorem dX7_keepAll_38 : decode cX7_keepAll 38 = .ok (.invokevirtual 168, 3) := by decide +kernel
theorem dX7_keepAll_41 : decode cX7_keepAll 41 = .ok (.aload_n 0, 1) := by decide +kernel
theorem dX7_keepAll_42 : decode cX7_keepAll 42 = .ok (.aload_n 0, 1) := by decide +kernel
theorem dX7_keepAll_43 : decode cX7_keepAll 43 = .ok (.getfield 41, 3) := by decide +kernel
theorem dX7_keepAll_46 : decode cX7_keepAll 46 = .ok (.iload_n 1, 1) := by decide +kernel
theorem dX7_keepAll_47 : decode cX7_keepAll 47 = .ok (.invokevirtual 168, 3) := by decide +kernel
theorem dX7_keepAll_50 : decode cX7_keepAll 50 = .ok (.aload_n 0, 1) := by decide +kernel
theorem dX7_keepAll_51 : decode cX7_keepAll 51 = .ok (.aload_n 0, 1) := by decide +kernel
theorem dX7_keepAll_52 : decode cX7_keepAll 52 = .ok (.getfield 44, 3) := by decide +kernel
theorem dX7_keepAll_55 : decode cX7_keepAll 55 = .ok (.iload_n 1, 1) := by decide +kernel
theorem dX7_keepAll_56 : decode cX7_keepAll 56 = .ok (.invokevirtual 168, 3) := by decide +kernel
theorem dX7_keepAll_59 : decode cX7_keepAll 59 = .ok (.aload_n 0, 1) := by decide +kernel
theorem dX7_keepAll_60 : decode cX7_keepAll 60 = .ok (.aload_n 0, 1) := by decide +kernel
theorem dX7_keepAll_61 : decode cX7_keepAll 61 = .ok (.getfield 47, 3) := by decide +kernel
theorem dX7_keepAll_64 : decode cX7_keepAll 64 = .ok (.iload_n 1, 1) := by decide +kernel
theorem dX7_keepAll_65 : decode cX7_keepAll 65 = .ok (.invokevirtual 168, 3) := by decide +kernel
theorem dX7_keepAll_68 : decode cX7_keepAll 68 = .ok (.aload_n 0, 1) := by decide +kernel
theorem dX7_keepAll_69 : decode cX7_keepAll 69 = .ok (.aload_n 0, 1) := by decide +kernel
theorem dX7_keepAll_70 : decode cX7_keepAll 70 = .ok (.getfield 50, 3) := by decide +kernel
theorem dX7_keepAll_73 : decode cX7_keepAll 73 = .ok (.iload_n 1, 1) := by decide +kernel
theorem dX7_keepAll_74 : decode cX7_keepAll 74 = .ok (.invokevirtual 168, 3) := by decide +kernel
theorem dX7_keepAll_77 : decode cX7_keepAll 77 = .ok (.aload_n 0, 1) := by decide +kernel
theorem dX7_keepAll_78 : decode cX7_keepAll 78 = .ok (.aload_n 0, 1) := by decide +kernel
theorem dX7_keepAll_79 : decode cX7_keepAll 79 = .ok (.getfield 53, 3) := by decide +kernel
theorem dX7_keepAll_82 : decode cX7_keepAll 82 = .ok (.iload_n 1, 1) := by decide +kernel
theorem dX7_keepAll_83 : decode cX7_keepAll 83 = .ok (.invokevirtual 168, 3) := by decide +kernel
theorem dX7_keepAll_86 : decode cX7_keepAll 86 = .ok (.aload_n 0, 1) := by decide +kernel
theorem dX7_keepAll_87 : decode cX7_keepAll 87 = .ok (.aload_n 0, 1) := by decide +kernel
theorem dX7_keepAll_88 : decode cX7_keepAll 88 = .ok (.getfield 56, 3) := by decide +kernel
theorem dX7_keepAll_91 : decode cX7_keepAll 91 = .ok (.iload_n 1, 1) := by decide +kernel
theorem dX7_keepAll_92 : decode cX7_keepAll 92 = .ok (.invokevirtual 168, 3) := by decide +kernel
theorem dX7_keepAll_95 : decode cX7_keepAll 95 = .ok (.aload_n 0, 1) := by decide +kernel
theorem dX7_keepAll_96 : decode cX7_keepAll 96 = .ok (.aload_n 0, 1) := by decide +kernel
theorem dX7_keepAll_97 : decode cX7_keepAll 97 = .ok (.getfield 59, 3) := by decide +kernel
theorem dX7_keepAll_100 : decode cX7_keepAll 100 = .ok (.iload_n 1, 1) := by decide +kernel
theorem dX7_keepAll_101 : decode cX7_keepAll 101 = .ok (.invokevirtual 168, 3) := by decide +kernel
theorem dX7_keepAll_104 : decode cX7_keepAll 104 = .ok (.iconst 0, 1) := by decide +kernel
theorem dX7_keepAll_105 : decode cX7_keepAll 105 = .ok (.istore_n 2, 1) := by decide +kernel
theorem dX7_keepAll_106 : decode cX7_keepAll 106 = .ok (.iload_n 2, 1) := by decide +kernel
theorem dX7_keepAll_107 : decode cX7_keepAll 107 = .ok (.sipush 200, 3) := by decide +kernel
theorem dX7_keepAll_110 : decode cX7_keepAll 110 = .ok (.if_icmp .ge 47, 3) := by decide +kernel
theorem dX7_keepAll_113 : decode cX7_keepAll 113 = .ok (.iload_n 1, 1) := by decide +kernel
theorem dX7_keepAll_114 : decode cX7_keepAll 114 = .ok (.ifCond .eq 18, 3) := by decide +kernel
theorem dX7_keepAll_117 : decode cX7_keepAll 117 = .ok (.aload_n 0, 1) := by decide +kernel
theorem dX7_keepAll_118 : decode cX7_keepAll 118 = .ok (.getfield 19, 3) := by decide +kernel
theorem dX7_keepAll_121 : decode cX7_keepAll 121 = .ok (.iload_n 2, 1) := by decide +kernel
theorem dX7_keepAll_122 : decode cX7_keepAll 122 = .ok (.aload_n 0, 1) := by decide +kernel
theorem dX7_keepAll_123 : decode cX7_keepAll 123 = .ok (.getfield 71, 3) := by decide +kernel
theorem dX7_keepAll_126 : decode cX7_keepAll 126 = .ok (.iload_n 2, 1) := by decide +kernel
theorem dX7_keepAll_127 : decode cX7_keepAll 127 = .ok (.iaload, 1) := by decide +kernel
theorem dX7_keepAll_128 : decode cX7_keepAll 128 = .ok (.iastore, 1) := by decide +kernel
theorem dX7_keepAll_129 : decode cX7_keepAll 129 = .ok (.goto 22, 3) := by decide +kernel
theorem dX7_keepAll_132 : decode cX7_keepAll 132 = .ok (.aload_n 0, 1) := by decide +kernel
theorem dX7_keepAll_133 : decode cX7_keepAll 133 = .ok (.getfield 71, 3) := by decide +kernel
theorem dX7_keepAll_136 : decode cX7_keepAll 136 = .ok (.iload_n 2, 1) := by decide +kernel
theorem dX7_keepAll_137 : decode cX7_keepAll 137 = .ok (.aload_n 0, 1) := by decide +kernel
theorem dX7_keepAll_138 : decode cX7_keepAll 138 = .ok (.getfield 19, 3) := by decide +kernel
theorem dX7_keepAll_141 : decode cX7_keepAll 141 = .ok (.iload_n 2, 1) := by decide +kernel
theorem dX7_keepAll_142 : decode cX7_keepAll 142 = .ok (.iaload, 1) := by decide +kernel
theorem dX7_keepAll_143 : decode cX7_keepAll 143 = .ok (.iastore, 1) := by decide +kernel
theorem dX7_keepAll_144 : decode cX7_keepAll 144 = .ok (.aload_n 0, 1) := by decide +kernel
theorem dX7_keepAll_145 : decode cX7_keepAll 145 = .ok (.getfield 19, 3) := by decide +kernel
theorem dX7_keepAll_148 : decode cX7_keepAll 148 = .ok (.iload_n 2, 1) := by decide +kernel
theorem dX7_keepAll_149 : decode cX7_keepAll 149 = .ok (.iconst 0, 1) := by decide +kernel
theorem dX7_keepAll_150 : decode cX7_keepAll 150 = .ok (.iastore, 1) := by decide +kernel
theorem dX7_keepAll_151 : decode cX7_keepAll 151 = .ok (.iinc 2 1, 3) := by decide +kernel
theorem dX7_keepAll_154 : decode cX7_keepAll 154 = .ok (.goto (-48), 3) := by decide +kernel
theorem dX7_keepAll_157 : decode cX7_keepAll 157 = .ok (.return_, 1) := by decide +kernel
set_option maxRecDepth 20000 in
theorem ggX7_lostBy_X7_begin : GoodIn wsX7_lostBy wsX7_begin := goodIn_r _ [7, 2, 8, 9, 10, 74, 75, 76, 77, 78, 79, 80, 81, 82, 83, 84, 85, 86, 87, 88, 89, 90, 91, 92, 93, 94, 95] (by decide +kernel) (by decide +kernel)
set_option maxRecDepth 20000 in
theorem gX7_lostBy_X7_begin : GoodIn wsX7_lostBy (wsV RX7 78 RX7 yX7_begin wsX7_begin) := goodIn_app (goodIn_of _ (by decide +kernel)) ggX7_lostBy_X7_begin
set_option maxRecDepth 20000 in
theorem ggX7_lostBy_X7_oneTick : GoodIn wsX7_lostBy wsX7_oneTick := goodIn_r _ [14, 2, 10, 15, 16, 1, 17, 8, 9, 18, 19, 20, 21, 22, 6, 23, 24, 25, 26, 27, 28, 29, 30, 31, 32, 33, 34, 35, 36, 37, 38, 39, 40, 41, 42, 43, 44, 45, 46, 47, 48, 49, 50, 51, 52, 53, 54, 55, 56, 57, 58, 59, 60, 61, 62, 63, 64, 65, 66, 67, 68, 69, 70, 71, 72, 73, 74, 75, 76, 77, 78, 79, 80, 81, 82, 83, 84, 85, 86, 87, 88, 89, 90, 91, 92, 93, 94, 95] (by decide +kernel) (by decide +kernel)
set_option maxRecDepth 20000 in
theorem gX7_lostBy_X7_oneTick : GoodIn wsX7_lostBy (wsV RX7 147 RX7 yX7_oneTick wsX7_oneTick) := goodIn_app (goodIn_of _ (by decide +kernel)) ggX7_lostBy_X7_oneTick
theorem dX7_lostBy_0 : decode cX7_lostBy 0 = .ok (.aload_n 0, 1) := by decide +kernel
theorem dX7_lostBy_1 : decode cX7_lostBy 1 = .ok (.invokevirtual 78, 3) := by decide +kernel
theorem dX7_lostBy_4 : decode cX7_lostBy 4 = .ok (.iconst 0, 1) := by decide +kernel
theorem dX7_lostBy_5 : decode cX7_lostBy 5 = .ok (.istore 4, 2) := by decide +kernel
theorem dX7_lostBy_7 : decode cX7_lostBy 7 = .ok (.iload 4, 2) := by decide +kernel
theorem dX7_lostBy_9 : decode cX7_lostBy 9 = .ok (.iload_n 1, 1) := by decide +kernel
theorem dX7_lostBy_10 : decode cX7_lostBy 10 = .ok (.if_icmp .ge 24, 3) := by decide +kernel
theorem dX7_lostBy_13 : decode cX7_lostBy 13 = .ok (.aload_n 0, 1) := by decide +kernel
theorem dX7_lostBy_14 : decode cX7_lostBy 14 = .ok (.getfield 19, 3) := by decide +kernel
theorem dX7_lostBy_17 : decode cX7_lostBy 17 = .ok (.iload 4, 2) := by decide +kernel
theorem dX7_lostBy_19 : decode cX7_lostBy 19 = .ok (.iload_n 3, 1) := by decide +kernel
theorem dX7_lostBy_20 : decode cX7_lostBy 20 = .ok (.iload 4, 2) := by decide +kernel
theorem dX7_lostBy_22 : decode cX7_lostBy 22 = .ok (.ishr, 1) := by decide +kernel
theorem dX7_lostBy_23 : decode cX7_lostBy 23 = .ok (.iconst 1, 1) := by decide +kernel
theorem dX7_lostBy_24 : decode cX7_lostBy 24 = .ok (.iand, 1) := by decide +kernel
theorem dX7_lostBy_25 : decode cX7_lostBy 25 = .ok (.iload_n 2, 1) := by decide +kernel
theorem dX7_lostBy_26 : decode cX7_lostBy 26 = .ok (.imul, 1) := by decide +kernel
theorem dX7_lostBy_27 : decode cX7_lostBy 27 = .ok (.iastore, 1) := by decide +kernel
theorem dX7_lostBy_28 : decode cX7_lostBy 28 = .ok (.iinc 4 1, 3) := by decide +kernel
theorem dX7_lostBy_31 : decode cX7_lostBy 31 = .ok (.goto (-24), 3) := by decide +kernel
theorem dX7_lostBy_34 : decode cX7_lostBy 34 = .ok (.iconst 0, 1) := by decide +kernel
theorem dX7_lostBy_35 : decode cX7_lostBy 35 = .ok (.istore 4, 2) := by decide +kernel
theorem dX7_lostBy_37 : decode cX7_lostBy 37 = .ok (.iload 4, 2) := by decide +kernel
theorem dX7_lostBy_39 : decode cX7_lostBy 39 = .ok (.iload_n 1, 1) := by decide +kernel
theorem dX7_lostBy_40 : decode cX7_lostBy 40 = .ok (.bipush 10, 2) := by decide +kernel
theorem dX7_lostBy_42 : decode cX7_lostBy 42 = .ok (.iadd, 1) := by decide +kernel
theorem dX7_lostBy_43 : decode cX7_lostBy 43 = .ok (.if_icmp .ge 14, 3) := by decide +kernel
theorem dX7_lostBy_46 : decode cX7_lostBy 46 = .ok (.aload_n 0, 1) := by decide +kernel
theorem dX7_lostBy_47 : decode cX7_lostBy 47 = .ok (.iconst 0, 1) := by decide +kernel
theorem dX7_lostBy_48 : decode cX7_lostBy 48 = .ok (.invokevirtual 147, 3) := by decide +kernel
theorem dX7_lostBy_51 : decode cX7_lostBy 51 = .ok (.iinc 4 1, 3) := by decide +kernel
theorem dX7_lostBy_54 : decode cX7_lostBy 54 = .ok (.goto (-17), 3) := by decide +kernel
theorem dX7_lostBy_57 : decode cX7_lostBy 57 = .ok (.aload_n 0, 1) := by decide +kernel
theorem dX7_lostBy_58 : decode cX7_lostBy 58 = .ok (.getfield 29, 3) := by decide +kernel
theorem dX7_lostBy_61 : decode cX7_lostBy 61 = .ok (.iconst 2, 1) := by decide +kernel
theorem dX7_lostBy_62 : decode cX7_lostBy 62 = .ok (.iaload, 1) := by decide +kernel
theorem dX7_lostBy_63 : decode cX7_lostBy 63 = .ok (.ireturn, 1) := by decide +kernel
set_option maxRecDepth 20000 in
theorem ggX7_worst_X7_in : GoodIn wsX7_worst wsX7_in := goodIn_r _ [6] (by decide +kernel) (by decide +kernel)
set_option maxRecDepth 20000 in
theorem gX7_worst_X7_in : GoodIn wsX7_worst (va_wsS RX7 83 yX7_in wsX7_in) := goodIn_app (goodIn_of _ (by decide +kernel)) ggX7_worst_X7_in
set_option maxRecDepth 20000 in
theorem ggX7_worst_X7_keepAll : GoodIn wsX7_worst wsX7_keepAll := goodIn_r _ [10, 11, 12, 13, 14, 15, 16, 17, 18, 19, 20, 21, 22, 23, 24, 25, 26, 27, 5, 28, 29, 94, 95, 96, 97, 98, 99, 100, 101, 102, 103, 104, 105, 106, 107, 108, 109, 110, 111, 112, 113, 114, 115] (by decide +kernel) (by decide +kernel)
set_option maxRecDepth 20000 in
theorem gX7_worst_X7_keepAll : GoodIn wsX7_worst (wsV RX7 174 RX7 yX7_keepAll wsX7_keepAll) := goodIn_app (goodIn_of _ (by decide +kernel)) ggX7_worst_X7_keepAll
set_option maxRecDepth 20000 in
theorem ggX7_worst_X7_lostBy : GoodIn wsX7_worst wsX7_lostBy := goodIn_r _ [33, 23, 12, 34, 35, 36, 5, 37, 13, 14, 20, 38, 39, 40, 41, 18, 19, 21, 42, 22, 43, 44, 45, 46, 15, 16, 17, 47, 48, 49, 50, 51, 52, 53, 54, 55, 56, 57, 58, 59, 60, 61, 62, 63, 64, 65, 66, 67, 68, 69, 70, 71, 72, 73, 74, 75, 76, 77, 78, 79, 80, 81, 82, 83, 84, 85, 86, 87, 88, 89, 90, 91, 92, 93, 94, 95, 96, 97, 98, 99, 100, 101, 102, 103, 104, 105, 106, 107, 108, 109, 110, 111, 112, 113, 114, 115] (by decide +kernel) (by decide +kernel)
set_option maxRecDepth 20000 in
theorem gX7_worst_X7_lostBy : GoodIn wsX7_worst (wsV RX7 177 RX7 yX7_lostBy wsX7_lostBy) := goodIn_app (goodIn_of _ (by decide +kernel)) ggX7_worst_X7_lostBy
theorem dX7_worst_0 : decode cX7_worst 0 = .ok (.iload_n 1, 1) := by decide +kernel
theorem dX7_worst_1 : decode cX7_worst 1 = .ok (.i2l, 1) := by decide +kernel
theorem dX7_worst_2 : decode cX7_worst 2 = .ok (.lconst 1, 1) := by decide +kernel
theorem dX7_worst_3 : decode cX7_worst 3 = .ok (.ldc2_w 172, 3) := by decide +kernel
theorem dX7_worst_6 : decode cX7_worst 6 = .ok (.invokestatic 83, 3) := by decide +kernel
theorem dX7_worst_9 : decode cX7_worst 9 = .ok (.ifCond .eq 25, 3) := by decide +kernel
theorem dX7_worst_12 : decode cX7_worst 12 = .ok (.iload_n 2, 1) := by decide +kernel
theorem dX7_worst_13 : decode cX7_worst 13 = .ok (.i2l, 1) := by decide +kernel
theorem dX7_worst_14 : decode cX7_worst 14 = .ok (.lconst 1, 1) := by decide +kernel
theorem dX7_worst_15 : decode cX7_worst 15 = .ok (.ldc2_w 93, 3) := by decide +kernel
theorem dX7_worst_18 : decode cX7_worst 18 = .ok (.invokestatic 83, 3) := by decide +kernel
theorem dX7_worst_21 : decode cX7_worst 21 = .ok (.ifCond .eq 13, 3) := by decide +kernel
theorem dX7_worst_24 : decode cX7_worst 24 = .ok (.iload_n 3, 1) := by decide +kernel
theorem dX7_worst_25 : decode cX7_worst 25 = .ok (.i2l, 1) := by decide +kernel
theorem dX7_worst_26 : decode cX7_worst 26 = .ok (.lconst 0, 1) := by decide +kernel
theorem dX7_worst_27 : decode cX7_worst 27 = .ok (.lconst 1, 1) := by decide +kernel
theorem dX7_worst_28 : decode cX7_worst 28 = .ok (.invokestatic 83, 3) := by decide +kernel
theorem dX7_worst_31 : decode cX7_worst 31 = .ok (.ifCond .ne 7, 3) := by decide +kernel
theorem dX7_worst_34 : decode cX7_worst 34 = .ok (.sipush (-1002), 3) := by decide +kernel
theorem dX7_worst_37 : decode cX7_worst 37 = .ok (.ireturn, 1) := by decide +kernel
theorem dX7_worst_38 : decode cX7_worst 38 = .ok (.aload_n 0, 1) := by decide +kernel
theorem dX7_worst_39 : decode cX7_worst 39 = .ok (.iconst 0, 1) := by decide +kernel
theorem dX7_worst_40 : decode cX7_worst 40 = .ok (.invokevirtual 174, 3) := by decide +kernel
theorem dX7_worst_43 : decode cX7_worst 43 = .ok (.iconst (-1), 1) := by decide +kernel
theorem dX7_worst_44 : decode cX7_worst 44 = .ok (.istore 4, 2) := by decide +kernel
theorem dX7_worst_46 : decode cX7_worst 46 = .ok (.iconst 0, 1) := by decide +kernel
theorem dX7_worst_47 : decode cX7_worst 47 = .ok (.istore 5, 2) := by decide +kernel
theorem dX7_worst_49 : decode cX7_worst 49 = .ok (.iconst 0, 1) := by decide +kernel
theorem dX7_worst_50 : decode cX7_worst 50 = .ok (.istore 6, 2) := by decide +kernel
theorem dX7_worst_52 : decode cX7_worst 52 = .ok (.iload 6, 2) := by decide +kernel
theorem dX7_worst_54 : decode cX7_worst 54 = .ok (.iconst 1, 1) := by decide +kernel
theorem dX7_worst_55 : decode cX7_worst 55 = .ok (.iload_n 1, 1) := by decide +kernel
theorem dX7_worst_56 : decode cX7_worst 56 = .ok (.ishl, 1) := by decide +kernel
theorem dX7_worst_57 : decode cX7_worst 57 = .ok (.if_icmp .ge 88, 3) := by decide +kernel
theorem dX7_worst_60 : decode cX7_worst 60 = .ok (.iconst 0, 1) := by decide +kernel
theorem dX7_worst_61 : decode cX7_worst 61 = .ok (.istore 7, 2) := by decide +kernel
theorem dX7_worst_63 : decode cX7_worst 63 = .ok (.iconst 0, 1) := by decide +kernel
theorem dX7_worst_64 : decode cX7_worst 64 = .ok (.istore 8, 2) := by decide +kernel
theorem dX7_worst_66 : decode cX7_worst 66 = .ok (.iload 8, 2) := by decide +kernel
theorem dX7_worst_68 : decode cX7_worst 68 = .ok (.iload_n 1, 1) := by decide +kernel
theorem dX7_worst_69 : decode cX7_worst 69 = .ok (.if_icmp .ge 28, 3) := by decide +kernel
theorem dX7_worst_72 : decode cX7_worst 72 = .ok (.iload 7, 2) := by decide +kernel
theorem dX7_worst_74 : decode cX7_worst 74 = .ok (.iload 6, 2) := by decide +kernel
theorem dX7_worst_76 : decode cX7_worst 76 = .ok (.iload_n 1, 1) := by decide +kernel
theorem dX7_worst_77 : decode cX7_worst 77 = .ok (.iconst 1, 1) := by decide +kernel
theorem dX7_worst_78 : decode cX7_worst 78 = .ok (.isub, 1) := by decide +kernel
theorem dX7_worst_79 : decode cX7_worst 79 = .ok (.iload 8, 2) := by decide +kernel
theorem dX7_worst_81 : decode cX7_worst 81 = .ok (.isub, 1) := by decide +kernel
theorem dX7_worst_82 : decode cX7_worst 82 = .ok (.ishr, 1) := by decide +kernel
theorem dX7_worst_83 : decode cX7_worst 83 = .ok (.iconst 1, 1) := by decide +kernel
theorem dX7_worst_84 : decode cX7_worst 84 = .ok (.iand, 1) := by decide +kernel
theorem dX7_worst_85 : decode cX7_worst 85 = .ok (.iload 8, 2) := by decide +kernel
theorem dX7_worst_87 : decode cX7_worst 87 = .ok (.ishl, 1) := by decide +kernel
theorem dX7_worst_88 : decode cX7_worst 88 = .ok (.ior, 1) := by decide +kernel
theorem dX7_worst_89 : decode cX7_worst 89 = .ok (.istore 7, 2) := by decide +kernel
theorem dX7_worst_91 : decode cX7_worst 91 = .ok (.iinc 8 1, 3) := by decide +kernel
theorem dX7_worst_94 : decode cX7_worst 94 = .ok (.goto (-28), 3) := by decide +kernel
theorem dX7_worst_97 : decode cX7_worst 97 = .ok (.aload_n 0, 1) := by decide +kernel
theorem dX7_worst_98 : decode cX7_worst 98 = .ok (.iload_n 1, 1) := by decide +kernel
theorem dX7_worst_99 : decode cX7_worst 99 = .ok (.iload_n 2, 1) := by decide +kernel
theorem dX7_worst_100 : decode cX7_worst 100 = .ok (.iload 7, 2) := by decide +kernel
theorem dX7_worst_102 : decode cX7_worst 102 = .ok (.invokevirtual 177, 3) := by decide +kernel
theorem dX7_worst_105 : decode cX7_worst 105 = .ok (.istore 8, 2) := by decide +kernel
theorem dX7_worst_107 : decode cX7_worst 107 = .ok (.iload 8, 2) := by decide +kernel
theorem dX7_worst_109 : decode cX7_worst 109 = .ok (.iload 4, 2) := by decide +kernel
theorem dX7_worst_111 : decode cX7_worst 111 = .ok (.if_icmp .le 8, 3) := by decide +kernel
theorem dX7_worst_114 : decode cX7_worst 114 = .ok (.iload 7, 2) := by decide +kernel
theorem dX7_worst_116 : decode cX7_worst 116 = .ok (.goto 5, 3) := by decide +kernel
theorem dX7_worst_119 : decode cX7_worst 119 = .ok (.iload 5, 2) := by decide +kernel
theorem dX7_worst_121 : decode cX7_worst 121 = .ok (.istore 5, 2) := by decide +kernel
theorem dX7_worst_123 : decode cX7_worst 123 = .ok (.iload 8, 2) := by decide +kernel
theorem dX7_worst_125 : decode cX7_worst 125 = .ok (.iload 4, 2) := by decide +kernel
theorem dX7_worst_127 : decode cX7_worst 127 = .ok (.if_icmp .le 8, 3) := by decide +kernel
theorem dX7_worst_130 : decode cX7_worst 130 = .ok (.iload 8, 2) := by decide +kernel
theorem dX7_worst_132 : decode cX7_worst 132 = .ok (.goto 5, 3) := by decide +kernel
theorem dX7_worst_135 : decode cX7_worst 135 = .ok (.iload 4, 2) := by decide +kernel
theorem dX7_worst_137 : decode cX7_worst 137 = .ok (.istore 4, 2) := by decide +kernel
theorem dX7_worst_139 : decode cX7_worst 139 = .ok (.iinc 6 1, 3) := by decide +kernel
theorem dX7_worst_142 : decode cX7_worst 142 = .ok (.goto (-90), 3) := by decide +kernel
theorem dX7_worst_145 : decode cX7_worst 145 = .ok (.aload_n 0, 1) := by decide +kernel
theorem dX7_worst_146 : decode cX7_worst 146 = .ok (.iconst 1, 1) := by decide +kernel
theorem dX7_worst_147 : decode cX7_worst 147 = .ok (.invokevirtual 174, 3) := by decide +kernel
theorem dX7_worst_150 : decode cX7_worst 150 = .ok (.iload_n 3, 1) := by decide +kernel
theorem dX7_worst_151 : decode cX7_worst 151 = .ok (.ifCond .ne 8, 3) := by decide +kernel
theorem dX7_worst_154 : decode cX7_worst 154 = .ok (.iload 4, 2) := by decide +kernel
theorem dX7_worst_156 : decode cX7_worst 156 = .ok (.goto 5, 3) := by decide +kernel
theorem dX7_worst_159 : decode cX7_worst 159 = .ok (.iload 5, 2) := by decide +kernel
theorem dX7_worst_161 : decode cX7_worst 161 = .ok (.ireturn, 1) := by decide +kernel
set_option maxRecDepth 20000 in
theorem ggX7_swing_X7_in : GoodIn wsX7_swing wsX7_in := goodIn_r _ [7] (by decide +kernel) (by decide +kernel)
set_option maxRecDepth 20000 in
theorem gX7_swing_X7_in : GoodIn wsX7_swing (va_wsS RX7 83 yX7_in wsX7_in) := goodIn_app (goodIn_of _ (by decide +kernel)) ggX7_swing_X7_in
set_option maxRecDepth 20000 in
theorem ggX7_swing_X7_keepAll : GoodIn wsX7_swing wsX7_keepAll := goodIn_r _ [11, 12, 13, 14, 15, 16, 17, 18, 19, 20, 21, 22, 23, 3, 24, 25, 26, 27, 6, 28, 29, 90, 91, 92, 93, 94, 95, 96, 97, 98, 99, 100, 101, 102, 103, 104, 105, 106, 107, 108, 109, 110, 111] (by decide +kernel) (by decide +kernel)
set_option maxRecDepth 20000 in
theorem gX7_swing_X7_keepAll : GoodIn wsX7_swing (wsV RX7 174 RX7 yX7_keepAll wsX7_keepAll) := goodIn_app (goodIn_of _ (by decide +kernel)) ggX7_swing_X7_keepAll
set_option maxRecDepth 20000 in
theorem ggX7_swing_X7_begin : GoodIn wsX7_swing wsX7_begin := goodIn_r _ [33, 13, 14, 15, 21, 90, 91, 92, 93, 94, 95, 96, 97, 98, 99, 100, 101, 102, 103, 104, 105, 106, 107, 108, 109, 110, 111] (by decide +kernel) (by decide +kernel)
set_option maxRecDepth 20000 in
theorem gX7_swing_X7_begin : GoodIn wsX7_swing (wsV RX7 78 RX7 yX7_begin wsX7_begin) := goodIn_app (goodIn_of _ (by decide +kernel)) ggX7_swing_X7_begin
set_option maxRecDepth 20000 in
theorem ggX7_swing_X7_oneTick : GoodIn wsX7_swing wsX7_oneTick := goodIn_r _ [37, 13, 21, 19, 20, 3, 22, 14, 15, 38, 23, 39, 40, 41, 6, 42, 16, 17, 18, 43, 44, 45, 46, 47, 48, 49, 50, 51, 52, 53, 54, 55, 56, 57, 58, 59, 60, 61, 62, 63, 64, 65, 66, 67, 68, 69, 70, 71, 72, 73, 74, 75, 76, 77, 78, 79, 80, 81, 82, 83, 84, 85, 86, 87, 88, 89, 90, 91, 92, 93, 94, 95, 96, 97, 98, 99, 100, 101, 102, 103, 104, 105, 106, 107, 108, 109, 110, 111] (by decide +kernel) (by decide +kernel)
set_option maxRecDepth 20000 in
theorem gX7_swing_X7_oneTick : GoodIn wsX7_swing (wsV RX7 147 RX7 yX7_oneTick wsX7_oneTick) := goodIn_app (goodIn_of _ (by decide +kernel)) ggX7_swing_X7_oneTick
set_option maxRecDepth 20000 in
theorem ggX7_swing_X7_up : GoodIn wsX7_swing wsX7_up := goodIn_r _ [69, 70, 71, 72, 6, 73, 14, 90, 91, 92, 93, 94, 95, 96, 97, 98, 99, 100, 101, 102, 103, 104, 105, 106, 107, 108, 109, 110, 111] (by decide +kernel) (by decide +kernel)
set_option maxRecDepth 20000 in
theorem gX7_swing_X7_up : GoodIn wsX7_swing (wsV RX7 103 RX7 yX7_up wsX7_up) := goodIn_app (goodIn_of _ (by decide +kernel)) ggX7_swing_X7_up
set_option maxRecDepth 20000 in
theorem ggX7_swing_X7_least : GoodIn wsX7_swing wsX7_least := goodIn_r _ [61] (by decide +kernel) (by decide +kernel)
set_option maxRecDepth 20000 in
theorem gX7_swing_X7_least : GoodIn wsX7_swing (va_wsS RX7 111 yX7_least wsX7_least) := goodIn_app (goodIn_of _ (by decide +kernel)) ggX7_swing_X7_least
set_option maxRecDepth 20000 in
theorem ggX7_swing_X7_most : GoodIn wsX7_swing wsX7_most := goodIn_r _ [58] (by decide +kernel) (by decide +kernel)
set_option maxRecDepth 20000 in
theorem gX7_swing_X7_most : GoodIn wsX7_swing (va_wsS RX7 107 yX7_most wsX7_most) := goodIn_app (goodIn_of _ (by decide +kernel)) ggX7_swing_X7_most
theorem dX7_swing_0 : decode cX7_swing 0 = .ok (.iload_n 1, 1) := by decide +kernel
theorem dX7_swing_1 : decode cX7_swing 1 = .ok (.i2l, 1) := by decide +kernel
theorem dX7_swing_2 : decode cX7_swing 2 = .ok (.lconst 0, 1) := by decide +kernel
theorem dX7_swing_3 : decode cX7_swing 3 = .ok (.ldc2_w 93, 3) := by decide +kernel
theorem dX7_swing_6 : decode cX7_swing 6 = .ok (.invokestatic 83, 3) := by decide +kernel
theorem dX7_swing_9 : decode cX7_swing 9 = .ok (.ifCond .eq 15, 3) := by decide +kernel
theorem dX7_swing_12 : decode cX7_swing 12 = .ok (.iload_n 2, 1) := by decide +kernel
theorem dX7_swing_13 : decode cX7_swing 13 = .ok (.i2l, 1) := by decide +kernel
theorem dX7_swing_14 : decode cX7_swing 14 = .ok (.lconst 0, 1) := by decide +kernel
theorem dX7_swing_15 : decode cX7_swing 15 = .ok (.ldc2_w 181, 3) := by decide +kernel
theorem dX7_swing_18 : decode cX7_swing 18 = .ok (.invokestatic 83, 3) := by decide +kernel
theorem dX7_swing_21 : decode cX7_swing 21 = .ok (.ifCond .ne 7, 3) := by decide +kernel
theorem dX7_swing_24 : decode cX7_swing 24 = .ok (.sipush (-1002), 3) := by decide +kernel
theorem dX7_swing_27 : decode cX7_swing 27 = .ok (.ireturn, 1) := by decide +kernel
theorem dX7_swing_28 : decode cX7_swing 28 = .ok (.aload_n 0, 1) := by decide +kernel
theorem dX7_swing_29 : decode cX7_swing 29 = .ok (.iconst 0, 1) := by decide +kernel
theorem dX7_swing_30 : decode cX7_swing 30 = .ok (.invokevirtual 174, 3) := by decide +kernel
theorem dX7_swing_33 : decode cX7_swing 33 = .ok (.aload_n 0, 1) := by decide +kernel
theorem dX7_swing_34 : decode cX7_swing 34 = .ok (.invokevirtual 78, 3) := by decide +kernel
theorem dX7_swing_37 : decode cX7_swing 37 = .ok (.iconst 0, 1) := by decide +kernel
theorem dX7_swing_38 : decode cX7_swing 38 = .ok (.istore_n 3, 1) := by decide +kernel
theorem dX7_swing_39 : decode cX7_swing 39 = .ok (.iload_n 3, 1) := by decide +kernel
theorem dX7_swing_40 : decode cX7_swing 40 = .ok (.sipush 148, 3) := by decide +kernel
theorem dX7_swing_43 : decode cX7_swing 43 = .ok (.if_icmp .ge 16, 3) := by decide +kernel
theorem dX7_swing_46 : decode cX7_swing 46 = .ok (.aload_n 0, 1) := by decide +kernel
theorem dX7_swing_47 : decode cX7_swing 47 = .ok (.getfield 19, 3) := by decide +kernel
theorem dX7_swing_50 : decode cX7_swing 50 = .ok (.iload_n 3, 1) := by decide +kernel
theorem dX7_swing_51 : decode cX7_swing 51 = .ok (.iload_n 1, 1) := by decide +kernel
theorem dX7_swing_52 : decode cX7_swing 52 = .ok (.iastore, 1) := by decide +kernel
theorem dX7_swing_53 : decode cX7_swing 53 = .ok (.iinc 3 1, 3) := by decide +kernel
theorem dX7_swing_56 : decode cX7_swing 56 = .ok (.goto (-17), 3) := by decide +kernel
theorem dX7_swing_59 : decode cX7_swing 59 = .ok (.bipush 99, 2) := by decide +kernel
theorem dX7_swing_61 : decode cX7_swing 61 = .ok (.istore_n 3, 1) := by decide +kernel
theorem dX7_swing_62 : decode cX7_swing 62 = .ok (.iconst 0, 1) := by decide +kernel
theorem dX7_swing_63 : decode cX7_swing 63 = .ok (.istore 4, 2) := by decide +kernel
theorem dX7_swing_65 : decode cX7_swing 65 = .ok (.iconst 0, 1) := by decide +kernel
theorem dX7_swing_66 : decode cX7_swing 66 = .ok (.istore 5, 2) := by decide +kernel
theorem dX7_swing_68 : decode cX7_swing 68 = .ok (.iload 5, 2) := by decide +kernel
theorem dX7_swing_70 : decode cX7_swing 70 = .ok (.sipush 148, 3) := by decide +kernel
theorem dX7_swing_73 : decode cX7_swing 73 = .ok (.if_icmp .ge 57, 3) := by decide +kernel
theorem dX7_swing_76 : decode cX7_swing 76 = .ok (.aload_n 0, 1) := by decide +kernel
theorem dX7_swing_77 : decode cX7_swing 77 = .ok (.iconst 0, 1) := by decide +kernel
theorem dX7_swing_78 : decode cX7_swing 78 = .ok (.invokevirtual 147, 3) := by decide +kernel
theorem dX7_swing_81 : decode cX7_swing 81 = .ok (.iload 5, 2) := by decide +kernel
theorem dX7_swing_83 : decode cX7_swing 83 = .ok (.bipush 100, 2) := by decide +kernel
theorem dX7_swing_85 : decode cX7_swing 85 = .ok (.if_icmp .lt 14, 3) := by decide +kernel
theorem dX7_swing_88 : decode cX7_swing 88 = .ok (.iload_n 3, 1) := by decide +kernel
theorem dX7_swing_89 : decode cX7_swing 89 = .ok (.aload_n 0, 1) := by decide +kernel
theorem dX7_swing_90 : decode cX7_swing 90 = .ok (.invokevirtual 103, 3) := by decide +kernel
theorem dX7_swing_93 : decode cX7_swing 93 = .ok (.invokestatic 111, 3) := by decide +kernel
theorem dX7_swing_96 : decode cX7_swing 96 = .ok (.goto 4, 3) := by decide +kernel
theorem dX7_swing_99 : decode cX7_swing 99 = .ok (.iload_n 3, 1) := by decide +kernel
theorem dX7_swing_100 : decode cX7_swing 100 = .ok (.istore_n 3, 1) := by decide +kernel
theorem dX7_swing_101 : decode cX7_swing 101 = .ok (.iload 5, 2) := by decide +kernel
theorem dX7_swing_103 : decode cX7_swing 103 = .ok (.bipush 100, 2) := by decide +kernel
theorem dX7_swing_105 : decode cX7_swing 105 = .ok (.if_icmp .lt 15, 3) := by decide +kernel
theorem dX7_swing_108 : decode cX7_swing 108 = .ok (.iload 4, 2) := by decide +kernel
theorem dX7_swing_110 : decode cX7_swing 110 = .ok (.aload_n 0, 1) := by decide +kernel
theorem dX7_swing_111 : decode cX7_swing 111 = .ok (.invokevirtual 103, 3) := by decide +kernel
theorem dX7_swing_114 : decode cX7_swing 114 = .ok (.invokestatic 107, 3) := by decide +kernel
theorem dX7_swing_117 : decode cX7_swing 117 = .ok (.goto 5, 3) := by decide +kernel
theorem dX7_swing_120 : decode cX7_swing 120 = .ok (.iload 4, 2) := by decide +kernel
theorem dX7_swing_122 : decode cX7_swing 122 = .ok (.istore 4, 2) := by decide +kernel
theorem dX7_swing_124 : decode cX7_swing 124 = .ok (.iinc 5 1, 3) := by decide +kernel
theorem dX7_swing_127 : decode cX7_swing 127 = .ok (.goto (-59), 3) := by decide +kernel
theorem dX7_swing_130 : decode cX7_swing 130 = .ok (.aload_n 0, 1) := by decide +kernel
theorem dX7_swing_131 : decode cX7_swing 131 = .ok (.iconst 1, 1) := by decide +kernel
theorem dX7_swing_132 : decode cX7_swing 132 = .ok (.invokevirtual 174, 3) := by decide +kernel
theorem dX7_swing_135 : decode cX7_swing 135 = .ok (.iload_n 2, 1) := by decide +kernel
theorem dX7_swing_136 : decode cX7_swing 136 = .ok (.ifCond .ne 17, 3) := by decide +kernel
theorem dX7_swing_139 : decode cX7_swing 139 = .ok (.iload_n 3, 1) := by decide +kernel
theorem dX7_swing_140 : decode cX7_swing 140 = .ok (.iload 4, 2) := by decide +kernel
theorem dX7_swing_142 : decode cX7_swing 142 = .ok (.if_icmp .ge 7, 3) := by decide +kernel
theorem dX7_swing_145 : decode cX7_swing 145 = .ok (.iconst 1, 1) := by decide +kernel
theorem dX7_swing_146 : decode cX7_swing 146 = .ok (.goto 18, 3) := by decide +kernel
theorem dX7_swing_149 : decode cX7_swing 149 = .ok (.iconst 0, 1) := by decide +kernel
theorem dX7_swing_150 : decode cX7_swing 150 = .ok (.goto 14, 3) := by decide +kernel
theorem dX7_swing_153 : decode cX7_swing 153 = .ok (.iload_n 2, 1) := by decide +kernel
theorem dX7_swing_154 : decode cX7_swing 154 = .ok (.iconst 1, 1) := by decide +kernel
theorem dX7_swing_155 : decode cX7_swing 155 = .ok (.if_icmp .ne 7, 3) := by decide +kernel
theorem dX7_swing_158 : decode cX7_swing 158 = .ok (.iload_n 3, 1) := by decide +kernel
theorem dX7_swing_159 : decode cX7_swing 159 = .ok (.goto 5, 3) := by decide +kernel
theorem dX7_swing_162 : decode cX7_swing 162 = .ok (.iload 4, 2) := by decide +kernel
theorem dX7_swing_164 : decode cX7_swing 164 = .ok (.ireturn, 1) := by decide +kernel
set_option maxRecDepth 20000 in
theorem ggX7_digest_X7_now : GoodIn wsX7_digest wsX7_now := goodIn_r _ [6, 7, 8, 9, 10, 5, 11, 12, 13, 14, 15, 16, 17, 18, 19, 20, 21, 22, 23, 24, 25, 26, 1, 27, 28, 29, 30, 31, 32, 33, 34, 35, 36, 37, 38, 39, 40, 41, 42, 43, 44, 45, 46, 47, 48] (by decide +kernel) (by decide +kernel)
set_option maxRecDepth 20000 in
theorem gX7_digest_X7_now : GoodIn wsX7_digest (wsV RX7 183 RX7 yX7_now wsX7_now) := goodIn_app (goodIn_of _ (by decide +kernel)) ggX7_digest_X7_now
theorem dX7_digest_0 : decode cX7_digest 0 = .ok (.bipush 7, 2) := by decide +kernel
theorem dX7_digest_2 : decode cX7_digest 2 = .ok (.istore_n 1, 1) := by decide +kernel
theorem dX7_digest_3 : decode cX7_digest 3 = .ok (.iconst 0, 1) := by decide +kernel
theorem dX7_digest_4 : decode cX7_digest 4 = .ok (.istore_n 2, 1) := by decide +kernel
theorem dX7_digest_5 : decode cX7_digest 5 = .ok (.iload_n 2, 1) := by decide +kernel
theorem dX7_digest_6 : decode cX7_digest 6 = .ok (.bipush 13, 2) := by decide +kernel
theorem dX7_digest_8 : decode cX7_digest 8 = .ok (.if_icmp .ge 20, 3) := by decide +kernel
theorem dX7_digest_11 : decode cX7_digest 11 = .ok (.bipush 31, 2) := by decide +kernel
theorem dX7_digest_13 : decode cX7_digest 13 = .ok (.iload_n 1, 1) := by decide +kernel
theorem dX7_digest_14 : decode cX7_digest 14 = .ok (.imul, 1) := by decide +kernel
theorem dX7_digest_15 : decode cX7_digest 15 = .ok (.aload_n 0, 1) := by decide +kernel
theorem dX7_digest_16 : decode cX7_digest 16 = .ok (.iload_n 2, 1) := by decide +kernel
theorem dX7_digest_17 : decode cX7_digest 17 = .ok (.invokevirtual 183, 3) := by decide +kernel
theorem dX7_digest_20 : decode cX7_digest 20 = .ok (.iadd, 1) := by decide +kernel
theorem dX7_digest_21 : decode cX7_digest 21 = .ok (.istore_n 1, 1) := by decide +kernel
theorem dX7_digest_22 : decode cX7_digest 22 = .ok (.iinc 2 1, 3) := by decide +kernel
theorem dX7_digest_25 : decode cX7_digest 25 = .ok (.goto (-20), 3) := by decide +kernel
theorem dX7_digest_28 : decode cX7_digest 28 = .ok (.iconst 0, 1) := by decide +kernel
theorem dX7_digest_29 : decode cX7_digest 29 = .ok (.istore_n 2, 1) := by decide +kernel
theorem dX7_digest_30 : decode cX7_digest 30 = .ok (.iload_n 2, 1) := by decide +kernel
theorem dX7_digest_31 : decode cX7_digest 31 = .ok (.bipush 12, 2) := by decide +kernel
theorem dX7_digest_33 : decode cX7_digest 33 = .ok (.if_icmp .ge 21, 3) := by decide +kernel
theorem dX7_digest_36 : decode cX7_digest 36 = .ok (.bipush 31, 2) := by decide +kernel
theorem dX7_digest_38 : decode cX7_digest 38 = .ok (.iload_n 1, 1) := by decide +kernel
theorem dX7_digest_39 : decode cX7_digest 39 = .ok (.imul, 1) := by decide +kernel
theorem dX7_digest_40 : decode cX7_digest 40 = .ok (.aload_n 0, 1) := by decide +kernel
theorem dX7_digest_41 : decode cX7_digest 41 = .ok (.getfield 32, 3) := by decide +kernel
theorem dX7_digest_44 : decode cX7_digest 44 = .ok (.iload_n 2, 1) := by decide +kernel
theorem dX7_digest_45 : decode cX7_digest 45 = .ok (.iaload, 1) := by decide +kernel
theorem dX7_digest_46 : decode cX7_digest 46 = .ok (.iadd, 1) := by decide +kernel
theorem dX7_digest_47 : decode cX7_digest 47 = .ok (.istore_n 1, 1) := by decide +kernel
theorem dX7_digest_48 : decode cX7_digest 48 = .ok (.iinc 2 1, 3) := by decide +kernel
theorem dX7_digest_51 : decode cX7_digest 51 = .ok (.goto (-21), 3) := by decide +kernel
theorem dX7_digest_54 : decode cX7_digest 54 = .ok (.iload_n 1, 1) := by decide +kernel
theorem dX7_digest_55 : decode cX7_digest 55 = .ok (.ireturn, 1) := by decide +kernel
theorem dJ9_floorMod_7cf53_0 : decode cJ9_floorMod_7cf53 0 = .ok (.iload_n 0, 1) := by decide +kernel
theorem dJ9_floorMod_7cf53_1 : decode cJ9_floorMod_7cf53 1 = .ok (.iload_n 1, 1) := by decide +kernel
theorem dJ9_floorMod_7cf53_2 : decode cJ9_floorMod_7cf53 2 = .ok (.irem, 1) := by decide +kernel
theorem dJ9_floorMod_7cf53_3 : decode cJ9_floorMod_7cf53 3 = .ok (.istore_n 2, 1) := by decide +kernel
theorem dJ9_floorMod_7cf53_4 : decode cJ9_floorMod_7cf53 4 = .ok (.iload_n 0, 1) := by decide +kernel
theorem dJ9_floorMod_7cf53_5 : decode cJ9_floorMod_7cf53 5 = .ok (.iload_n 1, 1) := by decide +kernel
theorem dJ9_floorMod_7cf53_6 : decode cJ9_floorMod_7cf53 6 = .ok (.ixor, 1) := by decide +kernel
theorem dJ9_floorMod_7cf53_7 : decode cJ9_floorMod_7cf53 7 = .ok (.ifCond .ge 11, 3) := by decide +kernel
theorem dJ9_floorMod_7cf53_10 : decode cJ9_floorMod_7cf53 10 = .ok (.iload_n 2, 1) := by decide +kernel
theorem dJ9_floorMod_7cf53_11 : decode cJ9_floorMod_7cf53 11 = .ok (.ifCond .eq 7, 3) := by decide +kernel
theorem dJ9_floorMod_7cf53_14 : decode cJ9_floorMod_7cf53 14 = .ok (.iload_n 2, 1) := by decide +kernel
theorem dJ9_floorMod_7cf53_15 : decode cJ9_floorMod_7cf53 15 = .ok (.iload_n 1, 1) := by decide +kernel
theorem dJ9_floorMod_7cf53_16 : decode cJ9_floorMod_7cf53 16 = .ok (.iadd, 1) := by decide +kernel
theorem dJ9_floorMod_7cf53_17 : decode cJ9_floorMod_7cf53 17 = .ok (.ireturn, 1) := by decide +kernel
theorem dJ9_floorMod_7cf53_18 : decode cJ9_floorMod_7cf53 18 = .ok (.iload_n 2, 1) := by decide +kernel
theorem dJ9_floorMod_7cf53_19 : decode cJ9_floorMod_7cf53 19 = .ok (.ireturn, 1) := by decide +kernel
theorem dJ9_max_7cf53_0 : decode cJ9_max_7cf53 0 = .ok (.iload_n 0, 1) := by decide +kernel
theorem dJ9_max_7cf53_1 : decode cJ9_max_7cf53 1 = .ok (.iload_n 1, 1) := by decide +kernel
theorem dJ9_max_7cf53_2 : decode cJ9_max_7cf53 2 = .ok (.if_icmp .lt 7, 3) := by decide +kernel
theorem dJ9_max_7cf53_5 : decode cJ9_max_7cf53 5 = .ok (.iload_n 0, 1) := by decide +kernel
theorem dJ9_max_7cf53_6 : decode cJ9_max_7cf53 6 = .ok (.goto 4, 3) := by decide +kernel
theorem dJ9_max_7cf53_9 : decode cJ9_max_7cf53 9 = .ok (.iload_n 1, 1) := by decide +kernel
theorem dJ9_max_7cf53_10 : decode cJ9_max_7cf53 10 = .ok (.ireturn, 1) := by decide +kernel
theorem dJ9_min_7cf53_0 : decode cJ9_min_7cf53 0 = .ok (.iload_n 0, 1) := by decide +kernel
theorem dJ9_min_7cf53_1 : decode cJ9_min_7cf53 1 = .ok (.iload_n 1, 1) := by decide +kernel
theorem dJ9_min_7cf53_2 : decode cJ9_min_7cf53 2 = .ok (.if_icmp .gt 7, 3) := by decide +kernel
theorem dJ9_min_7cf53_5 : decode cJ9_min_7cf53 5 = .ok (.iload_n 0, 1) := by decide +kernel
theorem dJ9_min_7cf53_6 : decode cJ9_min_7cf53 6 = .ok (.goto 4, 3) := by decide +kernel
theorem dJ9_min_7cf53_9 : decode cJ9_min_7cf53 9 = .ok (.iload_n 1, 1) := by decide +kernel
theorem dJ9_min_7cf53_10 : decode cJ9_min_7cf53 10 = .ok (.ireturn, 1) := by decide +kernel
abbrev vwCl : List vw_C := [(RX0, TX0, 2), (RX1, TX1, 2), (RX2, TX2, 8), (RX3, TX3, 2), (RX4, TX4, 14), (RX5, TX5, 2), (RX6, TX6, 4), (RX7, TX7, 22)]

