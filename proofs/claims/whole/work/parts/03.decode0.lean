theorem dX0_init_0 : decode cX0_init 0 = .ok (.aload_n 0, 1) := by decide +kernel
theorem dX0_init_1 : decode cX0_init 1 = .ok (.invokespecial 3, 3) := by decide +kernel
theorem dX0_init_4 : decode cX0_init 4 = .ok (.aload_n 0, 1) := by decide +kernel
theorem dX0_init_5 : decode cX0_init 5 = .ok (.bipush 13, 2) := by decide +kernel
theorem dX0_init_7 : decode cX0_init 7 = .ok (.sipush 541, 3) := by decide +kernel
theorem dX0_init_10 : decode cX0_init 10 = .ok (.multianewarray 11 2, 4) := by decide +kernel
theorem dX0_init_14 : decode cX0_init 14 = .ok (.putfield 13, 3) := by decide +kernel
theorem dX0_init_17 : decode cX0_init 17 = .ok (.aload_n 0, 1) := by decide +kernel
theorem dX0_init_18 : decode cX0_init 18 = .ok (.bipush 13, 2) := by decide +kernel
theorem dX0_init_20 : decode cX0_init 20 = .ok (.sipush 541, 3) := by decide +kernel
theorem dX0_init_23 : decode cX0_init 23 = .ok (.multianewarray 11 2, 4) := by decide +kernel
theorem dX0_init_27 : decode cX0_init 27 = .ok (.putfield 16, 3) := by decide +kernel
theorem dX0_init_30 : decode cX0_init 30 = .ok (.return_, 1) := by decide +kernel
set_option maxRecDepth 20000 in
theorem ggX0_leastBill_X0_forget : GoodIn wsX0_leastBill wsX0_forget := goodIn_r _ [11, 3] rfl (by decide +kernel)
set_option maxRecDepth 20000 in
theorem gX0_leastBill_X0_forget : GoodIn wsX0_leastBill (va_wsS RX0 19 yX0_forget wsX0_forget) := goodIn_app (goodIn_of _ (by decide +kernel)) ggX0_leastBill_X0_forget
set_option maxRecDepth 20000 in
theorem ggX0_leastBill_X0_allowAnyNumber : GoodIn wsX0_leastBill wsX0_allowAnyNumber := goodIn_r _ [15, 1, 16, 17, 10, 18, 4, 5, 6, 7, 44, 45] rfl (by decide +kernel)
set_option maxRecDepth 20000 in
theorem gX0_leastBill_X0_allowAnyNumber : GoodIn wsX0_leastBill (wsV RX0 23 RX0 yX0_allowAnyNumber wsX0_allowAnyNumber) := goodIn_app (goodIn_of _ (by decide +kernel)) ggX0_leastBill_X0_allowAnyNumber
set_option maxRecDepth 20000 in
theorem ggX0_leastBill_X5_value : GoodIn wsX0_leastBill wsX5_value := goodIn_r _ [23, 24, 25, 26, 27, 46, 47] rfl (by decide +kernel)
set_option maxRecDepth 20000 in
theorem gX0_leastBill_X5_value : GoodIn wsX0_leastBill (wsV RX0 29 RX5 yX5_value wsX5_value) := goodIn_app (goodIn_of _ (by decide +kernel)) ggX0_leastBill_X5_value
set_option maxRecDepth 20000 in
theorem ggX0_leastBill_X0_stillPatient : GoodIn wsX0_leastBill wsX0_stillPatient := goodIn_r _ [30, 31, 32, 6, 33, 4, 5, 7, 34, 35, 36, 37, 38, 39, 25, 26, 27, 48, 49, 50, 51, 52, 53, 54, 55, 56, 57, 58, 59, 60, 61] rfl (by decide +kernel)
set_option maxRecDepth 20000 in
theorem gX0_leastBill_X0_stillPatient : GoodIn wsX0_leastBill (va_wsS RX0 33 yX0_stillPatient wsX0_stillPatient) := goodIn_app (goodIn_of _ (by decide +kernel)) ggX0_leastBill_X0_stillPatient
set_option maxRecDepth 20000 in
theorem ggX0_leastBill_X4_loadOf : GoodIn wsX0_leastBill wsX4_loadOf := goodIn_r _ [38, 39, 25, 26, 27, 48, 49, 50, 51, 52, 53, 54, 55, 56, 57, 58, 59, 60, 61] rfl (by decide +kernel)
set_option maxRecDepth 20000 in
theorem gX0_leastBill_X4_loadOf : GoodIn wsX0_leastBill (wsV RX0 37 RX4 yX4_loadOf wsX4_loadOf) := goodIn_app (goodIn_of _ (by decide +kernel)) ggX0_leastBill_X4_loadOf
set_option maxRecDepth 20000 in
theorem ggX0_leastBill_X0_goOn : GoodIn wsX0_leastBill wsX0_goOn := goodIn_r _ [43, 4, 5, 6, 7, 31, 32, 33, 1, 2, 19, 20, 21, 22, 23, 24, 25, 26, 27, 44, 45, 46, 47] rfl (by decide +kernel)
set_option maxRecDepth 20000 in
theorem gX0_leastBill_X0_goOn : GoodIn wsX0_leastBill (wsV RX0 42 RX0 yX0_goOn wsX0_goOn) := goodIn_app (goodIn_of _ (by decide +kernel)) ggX0_leastBill_X0_goOn
theorem dX0_leastBill_0 : decode cX0_leastBill 0 = .ok (.iconst 0, 1) := by decide +kernel
theorem dX0_leastBill_1 : decode cX0_leastBill 1 = .ok (.istore 4, 2) := by decide +kernel
theorem dX0_leastBill_3 : decode cX0_leastBill 3 = .ok (.aload_n 0, 1) := by decide +kernel
theorem dX0_leastBill_4 : decode cX0_leastBill 4 = .ok (.getfield 13, 3) := by decide +kernel
theorem dX0_leastBill_7 : decode cX0_leastBill 7 = .ok (.iload 4, 2) := by decide +kernel
theorem dX0_leastBill_9 : decode cX0_leastBill 9 = .ok (.invokestatic 19, 3) := by decide +kernel
theorem dX0_leastBill_12 : decode cX0_leastBill 12 = .ok (.aload_n 0, 1) := by decide +kernel
theorem dX0_leastBill_13 : decode cX0_leastBill 13 = .ok (.getfield 13, 3) := by decide +kernel
theorem dX0_leastBill_16 : decode cX0_leastBill 16 = .ok (.iconst 0, 1) := by decide +kernel
theorem dX0_leastBill_17 : decode cX0_leastBill 17 = .ok (.aaload, 1) := by decide +kernel
theorem dX0_leastBill_18 : decode cX0_leastBill 18 = .ok (.iconst 0, 1) := by decide +kernel
theorem dX0_leastBill_19 : decode cX0_leastBill 19 = .ok (.iconst 0, 1) := by decide +kernel
theorem dX0_leastBill_20 : decode cX0_leastBill 20 = .ok (.iastore, 1) := by decide +kernel
theorem dX0_leastBill_21 : decode cX0_leastBill 21 = .ok (.iconst 0, 1) := by decide +kernel
theorem dX0_leastBill_22 : decode cX0_leastBill 22 = .ok (.istore 5, 2) := by decide +kernel
theorem dX0_leastBill_24 : decode cX0_leastBill 24 = .ok (.iload 5, 2) := by decide +kernel
theorem dX0_leastBill_26 : decode cX0_leastBill 26 = .ok (.iload_n 3, 1) := by decide +kernel
theorem dX0_leastBill_27 : decode cX0_leastBill 27 = .ok (.if_icmp .ge 76, 3) := by decide +kernel
theorem dX0_leastBill_30 : decode cX0_leastBill 30 = .ok (.aload_n 0, 1) := by decide +kernel
theorem dX0_leastBill_31 : decode cX0_leastBill 31 = .ok (.iload 4, 2) := by decide +kernel
theorem dX0_leastBill_33 : decode cX0_leastBill 33 = .ok (.invokevirtual 23, 3) := by decide +kernel
theorem dX0_leastBill_36 : decode cX0_leastBill 36 = .ok (.aload_n 2, 1) := by decide +kernel
theorem dX0_leastBill_37 : decode cX0_leastBill 37 = .ok (.iload 5, 2) := by decide +kernel
theorem dX0_leastBill_39 : decode cX0_leastBill 39 = .ok (.aload_n 1, 1) := by decide +kernel
theorem dX0_leastBill_40 : decode cX0_leastBill 40 = .ok (.iconst 3, 1) := by decide +kernel
theorem dX0_leastBill_41 : decode cX0_leastBill 41 = .ok (.invokevirtual 29, 3) := by decide +kernel
theorem dX0_leastBill_44 : decode cX0_leastBill 44 = .ok (.invokestatic 33, 3) := by decide +kernel
theorem dX0_leastBill_47 : decode cX0_leastBill 47 = .ok (.istore 6, 2) := by decide +kernel
theorem dX0_leastBill_49 : decode cX0_leastBill 49 = .ok (.aload_n 0, 1) := by decide +kernel
theorem dX0_leastBill_50 : decode cX0_leastBill 50 = .ok (.getfield 16, 3) := by decide +kernel
theorem dX0_leastBill_53 : decode cX0_leastBill 53 = .ok (.iload 6, 2) := by decide +kernel
theorem dX0_leastBill_55 : decode cX0_leastBill 55 = .ok (.invokestatic 19, 3) := by decide +kernel
theorem dX0_leastBill_58 : decode cX0_leastBill 58 = .ok (.aload_n 0, 1) := by decide +kernel
theorem dX0_leastBill_59 : decode cX0_leastBill 59 = .ok (.aload_n 1, 1) := by decide +kernel
theorem dX0_leastBill_60 : decode cX0_leastBill 60 = .ok (.aload_n 2, 1) := by decide +kernel
theorem dX0_leastBill_61 : decode cX0_leastBill 61 = .ok (.iload 5, 2) := by decide +kernel
theorem dX0_leastBill_63 : decode cX0_leastBill 63 = .ok (.invokevirtual 37, 3) := by decide +kernel
theorem dX0_leastBill_66 : decode cX0_leastBill 66 = .ok (.iload 4, 2) := by decide +kernel
theorem dX0_leastBill_68 : decode cX0_leastBill 68 = .ok (.iload 6, 2) := by decide +kernel
theorem dX0_leastBill_70 : decode cX0_leastBill 70 = .ok (.invokevirtual 42, 3) := by decide +kernel
theorem dX0_leastBill_73 : decode cX0_leastBill 73 = .ok (.aload_n 0, 1) := by decide +kernel
theorem dX0_leastBill_74 : decode cX0_leastBill 74 = .ok (.getfield 13, 3) := by decide +kernel
theorem dX0_leastBill_77 : decode cX0_leastBill 77 = .ok (.astore 7, 2) := by decide +kernel
theorem dX0_leastBill_79 : decode cX0_leastBill 79 = .ok (.aload_n 0, 1) := by decide +kernel
theorem dX0_leastBill_80 : decode cX0_leastBill 80 = .ok (.aload_n 0, 1) := by decide +kernel
theorem dX0_leastBill_81 : decode cX0_leastBill 81 = .ok (.getfield 16, 3) := by decide +kernel
theorem dX0_leastBill_84 : decode cX0_leastBill 84 = .ok (.putfield 13, 3) := by decide +kernel
theorem dX0_leastBill_87 : decode cX0_leastBill 87 = .ok (.aload_n 0, 1) := by decide +kernel
theorem dX0_leastBill_88 : decode cX0_leastBill 88 = .ok (.aload 7, 2) := by decide +kernel
theorem dX0_leastBill_90 : decode cX0_leastBill 90 = .ok (.putfield 16, 3) := by decide +kernel
theorem dX0_leastBill_93 : decode cX0_leastBill 93 = .ok (.iload 6, 2) := by decide +kernel
theorem dX0_leastBill_95 : decode cX0_leastBill 95 = .ok (.istore 4, 2) := by decide +kernel
theorem dX0_leastBill_97 : decode cX0_leastBill 97 = .ok (.iinc 5 1, 3) := by decide +kernel
theorem dX0_leastBill_100 : decode cX0_leastBill 100 = .ok (.goto (-76), 3) := by decide +kernel
theorem dX0_leastBill_103 : decode cX0_leastBill 103 = .ok (.aload_n 0, 1) := by decide +kernel
theorem dX0_leastBill_104 : decode cX0_leastBill 104 = .ok (.iload 4, 2) := by decide +kernel
theorem dX0_leastBill_106 : decode cX0_leastBill 106 = .ok (.invokevirtual 23, 3) := by decide +kernel
theorem dX0_leastBill_109 : decode cX0_leastBill 109 = .ok (.ldc 46, 2) := by decide +kernel
theorem dX0_leastBill_111 : decode cX0_leastBill 111 = .ok (.istore 5, 2) := by decide +kernel
theorem dX0_leastBill_113 : decode cX0_leastBill 113 = .ok (.iconst 0, 1) := by decide +kernel
theorem dX0_leastBill_114 : decode cX0_leastBill 114 = .ok (.istore 6, 2) := by decide +kernel
theorem dX0_leastBill_116 : decode cX0_leastBill 116 = .ok (.iload 6, 2) := by decide +kernel
theorem dX0_leastBill_118 : decode cX0_leastBill 118 = .ok (.iload 4, 2) := by decide +kernel
theorem dX0_leastBill_120 : decode cX0_leastBill 120 = .ok (.if_icmp .gt 33, 3) := by decide +kernel
theorem dX0_leastBill_123 : decode cX0_leastBill 123 = .ok (.iload 6, 2) := by decide +kernel
theorem dX0_leastBill_125 : decode cX0_leastBill 125 = .ok (.sipush 541, 3) := by decide +kernel
theorem dX0_leastBill_128 : decode cX0_leastBill 128 = .ok (.if_icmp .ge 25, 3) := by decide +kernel
theorem dX0_leastBill_131 : decode cX0_leastBill 131 = .ok (.iload 5, 2) := by decide +kernel
theorem dX0_leastBill_133 : decode cX0_leastBill 133 = .ok (.aload_n 0, 1) := by decide +kernel
theorem dX0_leastBill_134 : decode cX0_leastBill 134 = .ok (.getfield 13, 3) := by decide +kernel
theorem dX0_leastBill_137 : decode cX0_leastBill 137 = .ok (.iconst 0, 1) := by decide +kernel
theorem dX0_leastBill_138 : decode cX0_leastBill 138 = .ok (.aaload, 1) := by decide +kernel
theorem dX0_leastBill_139 : decode cX0_leastBill 139 = .ok (.iload 6, 2) := by decide +kernel
theorem dX0_leastBill_141 : decode cX0_leastBill 141 = .ok (.iaload, 1) := by decide +kernel
theorem dX0_leastBill_142 : decode cX0_leastBill 142 = .ok (.invokestatic 47, 3) := by decide +kernel
theorem dX0_leastBill_145 : decode cX0_leastBill 145 = .ok (.istore 5, 2) := by decide +kernel
theorem dX0_leastBill_147 : decode cX0_leastBill 147 = .ok (.iinc 6 1, 3) := by decide +kernel
theorem dX0_leastBill_150 : decode cX0_leastBill 150 = .ok (.goto (-34), 3) := by decide +kernel
theorem dX0_leastBill_153 : decode cX0_leastBill 153 = .ok (.iload 5, 2) := by decide +kernel
theorem dX0_leastBill_155 : decode cX0_leastBill 155 = .ok (.ldc 46, 2) := by decide +kernel
theorem dX0_leastBill_157 : decode cX0_leastBill 157 = .ok (.if_icmp .ge 15, 3) := by decide +kernel
theorem dX0_leastBill_160 : decode cX0_leastBill 160 = .ok (.iload 5, 2) := by decide +kernel
theorem dX0_leastBill_162 : decode cX0_leastBill 162 = .ok (.aload_n 1, 1) := by decide +kernel
theorem dX0_leastBill_163 : decode cX0_leastBill 163 = .ok (.bipush 16, 2) := by decide +kernel
theorem dX0_leastBill_165 : decode cX0_leastBill 165 = .ok (.invokevirtual 29, 3) := by decide +kernel
theorem dX0_leastBill_168 : decode cX0_leastBill 168 = .ok (.imul, 1) := by decide +kernel
theorem dX0_leastBill_169 : decode cX0_leastBill 169 = .ok (.goto 4, 3) := by decide +kernel
theorem dX0_leastBill_172 : decode cX0_leastBill 172 = .ok (.iconst (-1), 1) := by decide +kernel
theorem dX0_leastBill_173 : decode cX0_leastBill 173 = .ok (.ireturn, 1) := by decide +kernel
theorem dX0_forget_0 : decode cX0_forget 0 = .ok (.iconst 0, 1) := by decide +kernel
theorem dX0_forget_1 : decode cX0_forget 1 = .ok (.istore_n 2, 1) := by decide +kernel
theorem dX0_forget_2 : decode cX0_forget 2 = .ok (.iload_n 2, 1) := by decide +kernel
theorem dX0_forget_3 : decode cX0_forget 3 = .ok (.bipush 12, 2) := by decide +kernel
theorem dX0_forget_5 : decode cX0_forget 5 = .ok (.if_icmp .gt 36, 3) := by decide +kernel
theorem dX0_forget_8 : decode cX0_forget 8 = .ok (.iconst 0, 1) := by decide +kernel
theorem dX0_forget_9 : decode cX0_forget 9 = .ok (.istore_n 3, 1) := by decide +kernel
theorem dX0_forget_10 : decode cX0_forget 10 = .ok (.iload_n 3, 1) := by decide +kernel
theorem dX0_forget_11 : decode cX0_forget 11 = .ok (.iload_n 1, 1) := by decide +kernel
theorem dX0_forget_12 : decode cX0_forget 12 = .ok (.if_icmp .gt 23, 3) := by decide +kernel
theorem dX0_forget_15 : decode cX0_forget 15 = .ok (.iload_n 3, 1) := by decide +kernel
theorem dX0_forget_16 : decode cX0_forget 16 = .ok (.sipush 541, 3) := by decide +kernel
theorem dX0_forget_19 : decode cX0_forget 19 = .ok (.if_icmp .ge 16, 3) := by decide +kernel
theorem dX0_forget_22 : decode cX0_forget 22 = .ok (.aload_n 0, 1) := by decide +kernel
theorem dX0_forget_23 : decode cX0_forget 23 = .ok (.iload_n 2, 1) := by decide +kernel
theorem dX0_forget_24 : decode cX0_forget 24 = .ok (.aaload, 1) := by decide +kernel
theorem dX0_forget_25 : decode cX0_forget 25 = .ok (.iload_n 3, 1) := by decide +kernel
theorem dX0_forget_26 : decode cX0_forget 26 = .ok (.ldc 46, 2) := by decide +kernel
theorem dX0_forget_28 : decode cX0_forget 28 = .ok (.iastore, 1) := by decide +kernel
theorem dX0_forget_29 : decode cX0_forget 29 = .ok (.iinc 3 1, 3) := by decide +kernel
theorem dX0_forget_32 : decode cX0_forget 32 = .ok (.goto (-22), 3) := by decide +kernel
theorem dX0_forget_35 : decode cX0_forget 35 = .ok (.iinc 2 1, 3) := by decide +kernel
theorem dX0_forget_38 : decode cX0_forget 38 = .ok (.goto (-36), 3) := by decide +kernel
theorem dX0_forget_41 : decode cX0_forget 41 = .ok (.return_, 1) := by decide +kernel
set_option maxRecDepth 20000 in
theorem ggX0_stillPatient_X4_loadOf : GoodIn wsX0_stillPatient wsX4_loadOf := goodIn_r _ [12, 13, 14, 15, 16, 17, 18, 19, 20, 21, 22, 23, 24, 25, 26, 27, 28, 29, 30] rfl (by decide +kernel)
set_option maxRecDepth 20000 in
theorem gX0_stillPatient_X4_loadOf : GoodIn wsX0_stillPatient (wsV RX0 37 RX4 yX4_loadOf wsX4_loadOf) := goodIn_app (goodIn_of _ (by decide +kernel)) ggX0_stillPatient_X4_loadOf
theorem dX0_stillPatient_0 : decode cX0_stillPatient 0 = .ok (.iconst 0, 1) := by decide +kernel
theorem dX0_stillPatient_1 : decode cX0_stillPatient 1 = .ok (.istore_n 3, 1) := by decide +kernel
theorem dX0_stillPatient_2 : decode cX0_stillPatient 2 = .ok (.iload_n 1, 1) := by decide +kernel
theorem dX0_stillPatient_3 : decode cX0_stillPatient 3 = .ok (.iload_n 2, 1) := by decide +kernel
theorem dX0_stillPatient_4 : decode cX0_stillPatient 4 = .ok (.isub, 1) := by decide +kernel
theorem dX0_stillPatient_5 : decode cX0_stillPatient 5 = .ok (.iconst 2, 1) := by decide +kernel
theorem dX0_stillPatient_6 : decode cX0_stillPatient 6 = .ok (.iadd, 1) := by decide +kernel
theorem dX0_stillPatient_7 : decode cX0_stillPatient 7 = .ok (.iconst 0, 1) := by decide +kernel
theorem dX0_stillPatient_8 : decode cX0_stillPatient 8 = .ok (.invokestatic 53, 3) := by decide +kernel
theorem dX0_stillPatient_11 : decode cX0_stillPatient 11 = .ok (.istore 4, 2) := by decide +kernel
theorem dX0_stillPatient_13 : decode cX0_stillPatient 13 = .ok (.iload 4, 2) := by decide +kernel
theorem dX0_stillPatient_15 : decode cX0_stillPatient 15 = .ok (.iload_n 1, 1) := by decide +kernel
theorem dX0_stillPatient_16 : decode cX0_stillPatient 16 = .ok (.if_icmp .gt 18, 3) := by decide +kernel
theorem dX0_stillPatient_19 : decode cX0_stillPatient 19 = .ok (.iload_n 3, 1) := by decide +kernel
theorem dX0_stillPatient_20 : decode cX0_stillPatient 20 = .ok (.aload_n 0, 1) := by decide +kernel
theorem dX0_stillPatient_21 : decode cX0_stillPatient 21 = .ok (.iload 4, 2) := by decide +kernel
theorem dX0_stillPatient_23 : decode cX0_stillPatient 23 = .ok (.invokevirtual 37, 3) := by decide +kernel
theorem dX0_stillPatient_26 : decode cX0_stillPatient 26 = .ok (.iadd, 1) := by decide +kernel
theorem dX0_stillPatient_27 : decode cX0_stillPatient 27 = .ok (.istore_n 3, 1) := by decide +kernel
theorem dX0_stillPatient_28 : decode cX0_stillPatient 28 = .ok (.iinc 4 1, 3) := by decide +kernel
theorem dX0_stillPatient_31 : decode cX0_stillPatient 31 = .ok (.goto (-18), 3) := by decide +kernel
theorem dX0_stillPatient_34 : decode cX0_stillPatient 34 = .ok (.iload_n 3, 1) := by decide +kernel
theorem dX0_stillPatient_35 : decode cX0_stillPatient 35 = .ok (.sipush 540, 3) := by decide +kernel
theorem dX0_stillPatient_38 : decode cX0_stillPatient 38 = .ok (.invokestatic 47, 3) := by decide +kernel
theorem dX0_stillPatient_41 : decode cX0_stillPatient 41 = .ok (.ireturn, 1) := by decide +kernel
set_option maxRecDepth 20000 in
theorem ggX0_allowAnyNumber_X0_lower : GoodIn wsX0_allowAnyNumber wsX0_lower := goodIn_r _ [5, 6, 7, 8, 9] rfl (by decide +kernel)
set_option maxRecDepth 20000 in
theorem gX0_allowAnyNumber_X0_lower : GoodIn wsX0_allowAnyNumber (va_wsS RX0 56 yX0_lower wsX0_lower) := goodIn_app (goodIn_of _ (by decide +kernel)) ggX0_allowAnyNumber_X0_lower
theorem dX0_allowAnyNumber_0 : decode cX0_allowAnyNumber 0 = .ok (.bipush 11, 2) := by decide +kernel
theorem dX0_allowAnyNumber_2 : decode cX0_allowAnyNumber 2 = .ok (.istore_n 2, 1) := by decide +kernel
theorem dX0_allowAnyNumber_3 : decode cX0_allowAnyNumber 3 = .ok (.iload_n 2, 1) := by decide +kernel
theorem dX0_allowAnyNumber_4 : decode cX0_allowAnyNumber 4 = .ok (.ifCond .lt 28, 3) := by decide +kernel
theorem dX0_allowAnyNumber_7 : decode cX0_allowAnyNumber 7 = .ok (.aload_n 0, 1) := by decide +kernel
theorem dX0_allowAnyNumber_8 : decode cX0_allowAnyNumber 8 = .ok (.getfield 13, 3) := by decide +kernel
theorem dX0_allowAnyNumber_11 : decode cX0_allowAnyNumber 11 = .ok (.iload_n 2, 1) := by decide +kernel
theorem dX0_allowAnyNumber_12 : decode cX0_allowAnyNumber 12 = .ok (.aaload, 1) := by decide +kernel
theorem dX0_allowAnyNumber_13 : decode cX0_allowAnyNumber 13 = .ok (.aload_n 0, 1) := by decide +kernel
theorem dX0_allowAnyNumber_14 : decode cX0_allowAnyNumber 14 = .ok (.getfield 13, 3) := by decide +kernel
theorem dX0_allowAnyNumber_17 : decode cX0_allowAnyNumber 17 = .ok (.iload_n 2, 1) := by decide +kernel
theorem dX0_allowAnyNumber_18 : decode cX0_allowAnyNumber 18 = .ok (.iconst 1, 1) := by decide +kernel
theorem dX0_allowAnyNumber_19 : decode cX0_allowAnyNumber 19 = .ok (.iadd, 1) := by decide +kernel
theorem dX0_allowAnyNumber_20 : decode cX0_allowAnyNumber 20 = .ok (.aaload, 1) := by decide +kernel
theorem dX0_allowAnyNumber_21 : decode cX0_allowAnyNumber 21 = .ok (.iconst 0, 1) := by decide +kernel
theorem dX0_allowAnyNumber_22 : decode cX0_allowAnyNumber 22 = .ok (.iload_n 1, 1) := by decide +kernel
theorem dX0_allowAnyNumber_23 : decode cX0_allowAnyNumber 23 = .ok (.invokestatic 56, 3) := by decide +kernel
theorem dX0_allowAnyNumber_26 : decode cX0_allowAnyNumber 26 = .ok (.iinc 2 (-1), 3) := by decide +kernel
theorem dX0_allowAnyNumber_29 : decode cX0_allowAnyNumber 29 = .ok (.goto (-26), 3) := by decide +kernel
theorem dX0_allowAnyNumber_32 : decode cX0_allowAnyNumber 32 = .ok (.iconst 1, 1) := by decide +kernel
theorem dX0_allowAnyNumber_33 : decode cX0_allowAnyNumber 33 = .ok (.istore_n 2, 1) := by decide +kernel
theorem dX0_allowAnyNumber_34 : decode cX0_allowAnyNumber 34 = .ok (.iload_n 2, 1) := by decide +kernel
theorem dX0_allowAnyNumber_35 : decode cX0_allowAnyNumber 35 = .ok (.bipush 12, 2) := by decide +kernel
theorem dX0_allowAnyNumber_37 : decode cX0_allowAnyNumber 37 = .ok (.if_icmp .gt 28, 3) := by decide +kernel
theorem dX0_allowAnyNumber_40 : decode cX0_allowAnyNumber 40 = .ok (.aload_n 0, 1) := by decide +kernel
theorem dX0_allowAnyNumber_41 : decode cX0_allowAnyNumber 41 = .ok (.getfield 13, 3) := by decide +kernel
theorem dX0_allowAnyNumber_44 : decode cX0_allowAnyNumber 44 = .ok (.iload_n 2, 1) := by decide +kernel
theorem dX0_allowAnyNumber_45 : decode cX0_allowAnyNumber 45 = .ok (.aaload, 1) := by decide +kernel
theorem dX0_allowAnyNumber_46 : decode cX0_allowAnyNumber 46 = .ok (.aload_n 0, 1) := by decide +kernel
theorem dX0_allowAnyNumber_47 : decode cX0_allowAnyNumber 47 = .ok (.getfield 13, 3) := by decide +kernel
theorem dX0_allowAnyNumber_50 : decode cX0_allowAnyNumber 50 = .ok (.iload_n 2, 1) := by decide +kernel
theorem dX0_allowAnyNumber_51 : decode cX0_allowAnyNumber 51 = .ok (.iconst 1, 1) := by decide +kernel
theorem dX0_allowAnyNumber_52 : decode cX0_allowAnyNumber 52 = .ok (.isub, 1) := by decide +kernel
theorem dX0_allowAnyNumber_53 : decode cX0_allowAnyNumber 53 = .ok (.aaload, 1) := by decide +kernel
theorem dX0_allowAnyNumber_54 : decode cX0_allowAnyNumber 54 = .ok (.iconst 1, 1) := by decide +kernel
theorem dX0_allowAnyNumber_55 : decode cX0_allowAnyNumber 55 = .ok (.iload_n 1, 1) := by decide +kernel
theorem dX0_allowAnyNumber_56 : decode cX0_allowAnyNumber 56 = .ok (.invokestatic 56, 3) := by decide +kernel
theorem dX0_allowAnyNumber_59 : decode cX0_allowAnyNumber 59 = .ok (.iinc 2 1, 3) := by decide +kernel
theorem dX0_allowAnyNumber_62 : decode cX0_allowAnyNumber 62 = .ok (.goto (-28), 3) := by decide +kernel
theorem dX0_allowAnyNumber_65 : decode cX0_allowAnyNumber 65 = .ok (.return_, 1) := by decide +kernel
theorem dX0_lower_0 : decode cX0_lower 0 = .ok (.iconst 0, 1) := by decide +kernel
theorem dX0_lower_1 : decode cX0_lower 1 = .ok (.istore 4, 2) := by decide +kernel
theorem dX0_lower_3 : decode cX0_lower 3 = .ok (.iload 4, 2) := by decide +kernel
theorem dX0_lower_5 : decode cX0_lower 5 = .ok (.iload_n 3, 1) := by decide +kernel
theorem dX0_lower_6 : decode cX0_lower 6 = .ok (.if_icmp .gt 34, 3) := by decide +kernel
theorem dX0_lower_9 : decode cX0_lower 9 = .ok (.iload 4, 2) := by decide +kernel
theorem dX0_lower_11 : decode cX0_lower 11 = .ok (.sipush 541, 3) := by decide +kernel
theorem dX0_lower_14 : decode cX0_lower 14 = .ok (.if_icmp .ge 26, 3) := by decide +kernel
theorem dX0_lower_17 : decode cX0_lower 17 = .ok (.aload_n 0, 1) := by decide +kernel
theorem dX0_lower_18 : decode cX0_lower 18 = .ok (.iload 4, 2) := by decide +kernel
theorem dX0_lower_20 : decode cX0_lower 20 = .ok (.aload_n 0, 1) := by decide +kernel
theorem dX0_lower_21 : decode cX0_lower 21 = .ok (.iload 4, 2) := by decide +kernel
theorem dX0_lower_23 : decode cX0_lower 23 = .ok (.iaload, 1) := by decide +kernel
theorem dX0_lower_24 : decode cX0_lower 24 = .ok (.aload_n 1, 1) := by decide +kernel
theorem dX0_lower_25 : decode cX0_lower 25 = .ok (.iload 4, 2) := by decide +kernel
theorem dX0_lower_27 : decode cX0_lower 27 = .ok (.iaload, 1) := by decide +kernel
theorem dX0_lower_28 : decode cX0_lower 28 = .ok (.iload_n 2, 1) := by decide +kernel
theorem dX0_lower_29 : decode cX0_lower 29 = .ok (.iadd, 1) := by decide +kernel
theorem dX0_lower_30 : decode cX0_lower 30 = .ok (.invokestatic 47, 3) := by decide +kernel
theorem dX0_lower_33 : decode cX0_lower 33 = .ok (.iastore, 1) := by decide +kernel
theorem dX0_lower_34 : decode cX0_lower 34 = .ok (.iinc 4 1, 3) := by decide +kernel
theorem dX0_lower_37 : decode cX0_lower 37 = .ok (.goto (-34), 3) := by decide +kernel
theorem dX0_lower_40 : decode cX0_lower 40 = .ok (.return_, 1) := by decide +kernel
set_option maxRecDepth 20000 in
theorem ggX0_goOn_X5_value : GoodIn wsX0_goOn wsX5_value := goodIn_r _ [14, 15, 16, 17, 18, 21, 22] rfl (by decide +kernel)
set_option maxRecDepth 20000 in
theorem gX0_goOn_X5_value : GoodIn wsX0_goOn (wsV RX0 29 RX5 yX5_value wsX5_value) := goodIn_app (goodIn_of _ (by decide +kernel)) ggX0_goOn_X5_value
theorem dX0_goOn_0 : decode cX0_goOn 0 = .ok (.aload_n 1, 1) := by decide +kernel
theorem dX0_goOn_1 : decode cX0_goOn 1 = .ok (.bipush 8, 2) := by decide +kernel
theorem dX0_goOn_3 : decode cX0_goOn 3 = .ok (.invokevirtual 29, 3) := by decide +kernel
theorem dX0_goOn_6 : decode cX0_goOn 6 = .ok (.bipush 12, 2) := by decide +kernel
theorem dX0_goOn_8 : decode cX0_goOn 8 = .ok (.invokestatic 47, 3) := by decide +kernel
theorem dX0_goOn_11 : decode cX0_goOn 11 = .ok (.istore 5, 2) := by decide +kernel
theorem dX0_goOn_13 : decode cX0_goOn 13 = .ok (.iload 4, 2) := by decide +kernel
theorem dX0_goOn_15 : decode cX0_goOn 15 = .ok (.sipush 540, 3) := by decide +kernel
theorem dX0_goOn_18 : decode cX0_goOn 18 = .ok (.invokestatic 47, 3) := by decide +kernel
theorem dX0_goOn_21 : decode cX0_goOn 21 = .ok (.istore 6, 2) := by decide +kernel
theorem dX0_goOn_23 : decode cX0_goOn 23 = .ok (.aload_n 1, 1) := by decide +kernel
theorem dX0_goOn_24 : decode cX0_goOn 24 = .ok (.bipush 7, 2) := by decide +kernel
theorem dX0_goOn_26 : decode cX0_goOn 26 = .ok (.invokevirtual 29, 3) := by decide +kernel
theorem dX0_goOn_29 : decode cX0_goOn 29 = .ok (.iconst 0, 1) := by decide +kernel
theorem dX0_goOn_30 : decode cX0_goOn 30 = .ok (.invokestatic 53, 3) := by decide +kernel
theorem dX0_goOn_33 : decode cX0_goOn 33 = .ok (.istore 7, 2) := by decide +kernel
theorem dX0_goOn_35 : decode cX0_goOn 35 = .ok (.iload 7, 2) := by decide +kernel
theorem dX0_goOn_37 : decode cX0_goOn 37 = .ok (.iload 5, 2) := by decide +kernel
theorem dX0_goOn_39 : decode cX0_goOn 39 = .ok (.if_icmp .gt 104, 3) := by decide +kernel
theorem dX0_goOn_42 : decode cX0_goOn 42 = .ok (.aload_n 0, 1) := by decide +kernel
theorem dX0_goOn_43 : decode cX0_goOn 43 = .ok (.getfield 13, 3) := by decide +kernel
theorem dX0_goOn_46 : decode cX0_goOn 46 = .ok (.iload 7, 2) := by decide +kernel
theorem dX0_goOn_48 : decode cX0_goOn 48 = .ok (.aaload, 1) := by decide +kernel
theorem dX0_goOn_49 : decode cX0_goOn 49 = .ok (.astore 8, 2) := by decide +kernel
theorem dX0_goOn_51 : decode cX0_goOn 51 = .ok (.aload_n 0, 1) := by decide +kernel
theorem dX0_goOn_52 : decode cX0_goOn 52 = .ok (.getfield 16, 3) := by decide +kernel
theorem dX0_goOn_55 : decode cX0_goOn 55 = .ok (.iload 7, 2) := by decide +kernel
theorem dX0_goOn_57 : decode cX0_goOn 57 = .ok (.aaload, 1) := by decide +kernel
theorem dX0_goOn_58 : decode cX0_goOn 58 = .ok (.astore 9, 2) := by decide +kernel
theorem dX0_goOn_60 : decode cX0_goOn 60 = .ok (.iload_n 2, 1) := by decide +kernel
theorem dX0_goOn_61 : decode cX0_goOn 61 = .ok (.iload 7, 2) := by decide +kernel
theorem dX0_goOn_63 : decode cX0_goOn 63 = .ok (.aload_n 1, 1) := by decide +kernel
theorem dX0_goOn_64 : decode cX0_goOn 64 = .ok (.iconst 2, 1) := by decide +kernel
theorem dX0_goOn_65 : decode cX0_goOn 65 = .ok (.invokevirtual 29, 3) := by decide +kernel
theorem dX0_goOn_68 : decode cX0_goOn 68 = .ok (.imul, 1) := by decide +kernel
theorem dX0_goOn_69 : decode cX0_goOn 69 = .ok (.isub, 1) := by decide +kernel
theorem dX0_goOn_70 : decode cX0_goOn 70 = .ok (.istore 10, 2) := by decide +kernel
theorem dX0_goOn_72 : decode cX0_goOn 72 = .ok (.iconst 0, 1) := by decide +kernel
theorem dX0_goOn_73 : decode cX0_goOn 73 = .ok (.istore 11, 2) := by decide +kernel
theorem dX0_goOn_75 : decode cX0_goOn 75 = .ok (.iload 11, 2) := by decide +kernel
theorem dX0_goOn_77 : decode cX0_goOn 77 = .ok (.iload_n 3, 1) := by decide +kernel
theorem dX0_goOn_78 : decode cX0_goOn 78 = .ok (.if_icmp .gt 59, 3) := by decide +kernel
theorem dX0_goOn_81 : decode cX0_goOn 81 = .ok (.iload 11, 2) := by decide +kernel
theorem dX0_goOn_83 : decode cX0_goOn 83 = .ok (.sipush 541, 3) := by decide +kernel
theorem dX0_goOn_86 : decode cX0_goOn 86 = .ok (.if_icmp .ge 51, 3) := by decide +kernel
theorem dX0_goOn_89 : decode cX0_goOn 89 = .ok (.iload 11, 2) := by decide +kernel
theorem dX0_goOn_91 : decode cX0_goOn 91 = .ok (.iload 10, 2) := by decide +kernel
theorem dX0_goOn_93 : decode cX0_goOn 93 = .ok (.iadd, 1) := by decide +kernel
theorem dX0_goOn_94 : decode cX0_goOn 94 = .ok (.iload 6, 2) := by decide +kernel
theorem dX0_goOn_96 : decode cX0_goOn 96 = .ok (.if_icmp .gt 41, 3) := by decide +kernel
theorem dX0_goOn_99 : decode cX0_goOn 99 = .ok (.iload 11, 2) := by decide +kernel
theorem dX0_goOn_101 : decode cX0_goOn 101 = .ok (.iload 10, 2) := by decide +kernel
theorem dX0_goOn_103 : decode cX0_goOn 103 = .ok (.iadd, 1) := by decide +kernel
theorem dX0_goOn_104 : decode cX0_goOn 104 = .ok (.iconst 0, 1) := by decide +kernel
theorem dX0_goOn_105 : decode cX0_goOn 105 = .ok (.invokestatic 53, 3) := by decide +kernel
theorem dX0_goOn_108 : decode cX0_goOn 108 = .ok (.istore 12, 2) := by decide +kernel
theorem dX0_goOn_110 : decode cX0_goOn 110 = .ok (.aload 9, 2) := by decide +kernel
theorem dX0_goOn_112 : decode cX0_goOn 112 = .ok (.iload 12, 2) := by decide +kernel
theorem dX0_goOn_114 : decode cX0_goOn 114 = .ok (.aload 9, 2) := by decide +kernel
theorem dX0_goOn_116 : decode cX0_goOn 116 = .ok (.iload 12, 2) := by decide +kernel
theorem dX0_goOn_118 : decode cX0_goOn 118 = .ok (.iaload, 1) := by decide +kernel
theorem dX0_goOn_119 : decode cX0_goOn 119 = .ok (.aload 8, 2) := by decide +kernel
theorem dX0_goOn_121 : decode cX0_goOn 121 = .ok (.iload 11, 2) := by decide +kernel
theorem dX0_goOn_123 : decode cX0_goOn 123 = .ok (.iaload, 1) := by decide +kernel
theorem dX0_goOn_124 : decode cX0_goOn 124 = .ok (.iload 7, 2) := by decide +kernel
theorem dX0_goOn_126 : decode cX0_goOn 126 = .ok (.iadd, 1) := by decide +kernel
theorem dX0_goOn_127 : decode cX0_goOn 127 = .ok (.invokestatic 47, 3) := by decide +kernel
theorem dX0_goOn_130 : decode cX0_goOn 130 = .ok (.iastore, 1) := by decide +kernel
theorem dX0_goOn_131 : decode cX0_goOn 131 = .ok (.iinc 11 1, 3) := by decide +kernel
theorem dX0_goOn_134 : decode cX0_goOn 134 = .ok (.goto (-59), 3) := by decide +kernel
theorem dX0_goOn_137 : decode cX0_goOn 137 = .ok (.iinc 7 1, 3) := by decide +kernel
theorem dX0_goOn_140 : decode cX0_goOn 140 = .ok (.goto (-105), 3) := by decide +kernel
theorem dX0_goOn_143 : decode cX0_goOn 143 = .ok (.return_, 1) := by decide +kernel
theorem dX1_init_0 : decode cX1_init 0 = .ok (.aload_n 0, 1) := by decide +kernel
theorem dX1_init_1 : decode cX1_init 1 = .ok (.invokespecial 3, 3) := by decide +kernel
theorem dX1_init_4 : decode cX1_init 4 = .ok (.aload_n 0, 1) := by decide +kernel
theorem dX1_init_5 : decode cX1_init 5 = .ok (.sipush 200, 3) := by decide +kernel
theorem dX1_init_8 : decode cX1_init 8 = .ok (.newarray .int, 2) := by decide +kernel
theorem dX1_init_10 : decode cX1_init 10 = .ok (.putfield 9, 3) := by decide +kernel
theorem dX1_init_13 : decode cX1_init 13 = .ok (.return_, 1) := by decide +kernel
theorem dX1_begin_0 : decode cX1_begin 0 = .ok (.aload_n 0, 1) := by decide +kernel
theorem dX1_begin_1 : decode cX1_begin 1 = .ok (.iconst 0, 1) := by decide +kernel
theorem dX1_begin_2 : decode cX1_begin 2 = .ok (.putfield 15, 3) := by decide +kernel
theorem dX1_begin_5 : decode cX1_begin 5 = .ok (.return_, 1) := by decide +kernel
set_option maxRecDepth 20000 in
theorem ggX1_note_X6_within : GoodIn wsX1_note wsX6_within := goodIn_r _ [4] rfl (by decide +kernel)
set_option maxRecDepth 20000 in
theorem gX1_note_X6_within_n19 : GoodIn wsX1_note (wsX6_within) := ggX1_note_X6_within
theorem dX1_note_0 : decode cX1_note 0 = .ok (.iload_n 1, 1) := by decide +kernel
theorem dX1_note_1 : decode cX1_note 1 = .ok (.iconst 0, 1) := by decide +kernel
theorem dX1_note_2 : decode cX1_note 2 = .ok (.sipush 199, 3) := by decide +kernel
theorem dX1_note_5 : decode cX1_note 5 = .ok (.invokestatic 19, 3) := by decide +kernel
theorem dX1_note_8 : decode cX1_note 8 = .ok (.ifCond .eq 10, 3) := by decide +kernel
theorem dX1_note_11 : decode cX1_note 11 = .ok (.aload_n 0, 1) := by decide +kernel
theorem dX1_note_12 : decode cX1_note 12 = .ok (.getfield 9, 3) := by decide +kernel
theorem dX1_note_15 : decode cX1_note 15 = .ok (.iload_n 1, 1) := by decide +kernel
theorem dX1_note_16 : decode cX1_note 16 = .ok (.iload_n 2, 1) := by decide +kernel
theorem dX1_note_17 : decode cX1_note 17 = .ok (.iastore, 1) := by decide +kernel
theorem dX1_note_18 : decode cX1_note 18 = .ok (.return_, 1) := by decide +kernel
theorem dX1_read_0 : decode cX1_read 0 = .ok (.iconst 0, 1) := by decide +kernel
theorem dX1_read_1 : decode cX1_read 1 = .ok (.istore_n 3, 1) := by decide +kernel
theorem dX1_read_2 : decode cX1_read 2 = .ok (.iconst 0, 1) := by decide +kernel
theorem dX1_read_3 : decode cX1_read 3 = .ok (.istore 4, 2) := by decide +kernel
theorem dX1_read_5 : decode cX1_read 5 = .ok (.iload_n 1, 1) := by decide +kernel
theorem dX1_read_6 : decode cX1_read 6 = .ok (.iload_n 2, 1) := by decide +kernel
theorem dX1_read_7 : decode cX1_read 7 = .ok (.isub, 1) := by decide +kernel
theorem dX1_read_8 : decode cX1_read 8 = .ok (.iconst 1, 1) := by decide +kernel
theorem dX1_read_9 : decode cX1_read 9 = .ok (.iadd, 1) := by decide +kernel
theorem dX1_read_10 : decode cX1_read 10 = .ok (.iconst 0, 1) := by decide +kernel
theorem dX1_read_11 : decode cX1_read 11 = .ok (.invokestatic 23, 3) := by decide +kernel
theorem dX1_read_14 : decode cX1_read 14 = .ok (.istore 5, 2) := by decide +kernel
theorem dX1_read_16 : decode cX1_read 16 = .ok (.iload 5, 2) := by decide +kernel
theorem dX1_read_18 : decode cX1_read 18 = .ok (.iload_n 1, 1) := by decide +kernel
theorem dX1_read_19 : decode cX1_read 19 = .ok (.if_icmp .gt 41, 3) := by decide +kernel
theorem dX1_read_22 : decode cX1_read 22 = .ok (.iload 5, 2) := by decide +kernel
theorem dX1_read_24 : decode cX1_read 24 = .ok (.sipush 200, 3) := by decide +kernel
theorem dX1_read_27 : decode cX1_read 27 = .ok (.if_icmp .ge 33, 3) := by decide +kernel
theorem dX1_read_30 : decode cX1_read 30 = .ok (.aload_n 0, 1) := by decide +kernel
theorem dX1_read_31 : decode cX1_read 31 = .ok (.getfield 9, 3) := by decide +kernel
theorem dX1_read_34 : decode cX1_read 34 = .ok (.iload 5, 2) := by decide +kernel
theorem dX1_read_36 : decode cX1_read 36 = .ok (.iaload, 1) := by decide +kernel
theorem dX1_read_37 : decode cX1_read 37 = .ok (.iconst (-1), 1) := by decide +kernel
theorem dX1_read_38 : decode cX1_read 38 = .ok (.if_icmp .eq 16, 3) := by decide +kernel
theorem dX1_read_41 : decode cX1_read 41 = .ok (.iload_n 3, 1) := by decide +kernel
theorem dX1_read_42 : decode cX1_read 42 = .ok (.aload_n 0, 1) := by decide +kernel
theorem dX1_read_43 : decode cX1_read 43 = .ok (.getfield 9, 3) := by decide +kernel
theorem dX1_read_46 : decode cX1_read 46 = .ok (.iload 5, 2) := by decide +kernel
theorem dX1_read_48 : decode cX1_read 48 = .ok (.iaload, 1) := by decide +kernel
theorem dX1_read_49 : decode cX1_read 49 = .ok (.iadd, 1) := by decide +kernel
theorem dX1_read_50 : decode cX1_read 50 = .ok (.istore_n 3, 1) := by decide +kernel
theorem dX1_read_51 : decode cX1_read 51 = .ok (.iinc 4 1, 3) := by decide +kernel
theorem dX1_read_54 : decode cX1_read 54 = .ok (.iinc 5 1, 3) := by decide +kernel
theorem dX1_read_57 : decode cX1_read 57 = .ok (.goto (-41), 3) := by decide +kernel
theorem dX1_read_60 : decode cX1_read 60 = .ok (.iload 4, 2) := by decide +kernel
theorem dX1_read_62 : decode cX1_read 62 = .ok (.ifCond .le 11, 3) := by decide +kernel
theorem dX1_read_65 : decode cX1_read 65 = .ok (.aload_n 0, 1) := by decide +kernel
theorem dX1_read_66 : decode cX1_read 66 = .ok (.iload_n 3, 1) := by decide +kernel
theorem dX1_read_67 : decode cX1_read 67 = .ok (.iload 4, 2) := by decide +kernel
theorem dX1_read_69 : decode cX1_read 69 = .ok (.idiv, 1) := by decide +kernel
theorem dX1_read_70 : decode cX1_read 70 = .ok (.putfield 15, 3) := by decide +kernel
theorem dX1_read_73 : decode cX1_read 73 = .ok (.return_, 1) := by decide +kernel
theorem dX2_init_0 : decode cX2_init 0 = .ok (.aload_n 0, 1) := by decide +kernel
theorem dX2_init_1 : decode cX2_init 1 = .ok (.invokespecial 3, 3) := by decide +kernel
theorem dX2_init_4 : decode cX2_init 4 = .ok (.aload_n 0, 1) := by decide +kernel
theorem dX2_init_5 : decode cX2_init 5 = .ok (.sipush 200, 3) := by decide +kernel
theorem dX2_init_8 : decode cX2_init 8 = .ok (.newarray .int, 2) := by decide +kernel
theorem dX2_init_10 : decode cX2_init 10 = .ok (.putfield 9, 3) := by decide +kernel
theorem dX2_init_13 : decode cX2_init 13 = .ok (.aload_n 0, 1) := by decide +kernel
theorem dX2_init_14 : decode cX2_init 14 = .ok (.sipush 200, 3) := by decide +kernel
theorem dX2_init_17 : decode cX2_init 17 = .ok (.newarray .int, 2) := by decide +kernel
theorem dX2_init_19 : decode cX2_init 19 = .ok (.putfield 15, 3) := by decide +kernel
theorem dX2_init_22 : decode cX2_init 22 = .ok (.aload_n 0, 1) := by decide +kernel
theorem dX2_init_23 : decode cX2_init 23 = .ok (.sipush 200, 3) := by decide +kernel
theorem dX2_init_26 : decode cX2_init 26 = .ok (.newarray .int, 2) := by decide +kernel
theorem dX2_init_28 : decode cX2_init 28 = .ok (.putfield 18, 3) := by decide +kernel
theorem dX2_init_31 : decode cX2_init 31 = .ok (.aload_n 0, 1) := by decide +kernel
theorem dX2_init_32 : decode cX2_init 32 = .ok (.sipush 200, 3) := by decide +kernel
theorem dX2_init_35 : decode cX2_init 35 = .ok (.newarray .int, 2) := by decide +kernel
theorem dX2_init_37 : decode cX2_init 37 = .ok (.putfield 21, 3) := by decide +kernel
theorem dX2_init_40 : decode cX2_init 40 = .ok (.return_, 1) := by decide +kernel
theorem dX2_begin_0 : decode cX2_begin 0 = .ok (.aload_n 0, 1) := by decide +kernel
theorem dX2_begin_1 : decode cX2_begin 1 = .ok (.iconst 0, 1) := by decide +kernel
theorem dX2_begin_2 : decode cX2_begin 2 = .ok (.putfield 24, 3) := by decide +kernel
theorem dX2_begin_5 : decode cX2_begin 5 = .ok (.aload_n 0, 1) := by decide +kernel
theorem dX2_begin_6 : decode cX2_begin 6 = .ok (.iconst 0, 1) := by decide +kernel
theorem dX2_begin_7 : decode cX2_begin 7 = .ok (.putfield 28, 3) := by decide +kernel
theorem dX2_begin_10 : decode cX2_begin 10 = .ok (.aload_n 0, 1) := by decide +kernel
theorem dX2_begin_11 : decode cX2_begin 11 = .ok (.iconst 0, 1) := by decide +kernel
theorem dX2_begin_12 : decode cX2_begin 12 = .ok (.putfield 31, 3) := by decide +kernel
theorem dX2_begin_15 : decode cX2_begin 15 = .ok (.aload_n 0, 1) := by decide +kernel
theorem dX2_begin_16 : decode cX2_begin 16 = .ok (.iconst 0, 1) := by decide +kernel
theorem dX2_begin_17 : decode cX2_begin 17 = .ok (.putfield 34, 3) := by decide +kernel
theorem dX2_begin_20 : decode cX2_begin 20 = .ok (.return_, 1) := by decide +kernel
set_option maxRecDepth 20000 in
theorem ggX2_come_X6_within : GoodIn wsX2_come wsX6_within := goodIn_r _ [8] rfl (by decide +kernel)
set_option maxRecDepth 20000 in
theorem gX2_come_X6_within_n37 : GoodIn wsX2_come (wsX6_within) := ggX2_come_X6_within
set_option maxRecDepth 20000 in
theorem ggX2_come_X2_append : GoodIn wsX2_come wsX2_append := goodIn_r _ [13, 14, 15, 16, 17, 18, 19, 20, 21, 22, 23, 24, 25, 26, 27, 28] rfl (by decide +kernel)
set_option maxRecDepth 20000 in
theorem gX2_come_X2_append : GoodIn wsX2_come (wsV RX2 41 RX2 yX2_append wsX2_append) := goodIn_app (goodIn_of _ (by decide +kernel)) ggX2_come_X2_append
theorem dX2_come_0 : decode cX2_come 0 = .ok (.aload_n 0, 1) := by decide +kernel
theorem dX2_come_1 : decode cX2_come 1 = .ok (.dup, 1) := by decide +kernel
theorem dX2_come_2 : decode cX2_come 2 = .ok (.getfield 31, 3) := by decide +kernel
theorem dX2_come_5 : decode cX2_come 5 = .ok (.aload_n 0, 1) := by decide +kernel
theorem dX2_come_6 : decode cX2_come 6 = .ok (.getfield 34, 3) := by decide +kernel
theorem dX2_come_9 : decode cX2_come 9 = .ok (.iadd, 1) := by decide +kernel
theorem dX2_come_10 : decode cX2_come 10 = .ok (.putfield 31, 3) := by decide +kernel
theorem dX2_come_13 : decode cX2_come 13 = .ok (.aload_n 0, 1) := by decide +kernel
theorem dX2_come_14 : decode cX2_come 14 = .ok (.iconst 0, 1) := by decide +kernel
theorem dX2_come_15 : decode cX2_come 15 = .ok (.putfield 34, 3) := by decide +kernel
theorem dX2_come_18 : decode cX2_come 18 = .ok (.iload_n 1, 1) := by decide +kernel
theorem dX2_come_19 : decode cX2_come 19 = .ok (.iconst 0, 1) := by decide +kernel
theorem dX2_come_20 : decode cX2_come 20 = .ok (.sipush 199, 3) := by decide +kernel
theorem dX2_come_23 : decode cX2_come 23 = .ok (.invokestatic 37, 3) := by decide +kernel
theorem dX2_come_26 : decode cX2_come 26 = .ok (.ifCond .eq 43, 3) := by decide +kernel
theorem dX2_come_29 : decode cX2_come 29 = .ok (.iload_n 2, 1) := by decide +kernel
theorem dX2_come_30 : decode cX2_come 30 = .ok (.ifCond .le 39, 3) := by decide +kernel
theorem dX2_come_33 : decode cX2_come 33 = .ok (.aload_n 0, 1) := by decide +kernel
theorem dX2_come_34 : decode cX2_come 34 = .ok (.getfield 9, 3) := by decide +kernel
theorem dX2_come_37 : decode cX2_come 37 = .ok (.iload_n 1, 1) := by decide +kernel
theorem dX2_come_38 : decode cX2_come 38 = .ok (.iload_n 2, 1) := by decide +kernel
theorem dX2_come_39 : decode cX2_come 39 = .ok (.iastore, 1) := by decide +kernel
theorem dX2_come_40 : decode cX2_come 40 = .ok (.aload_n 0, 1) := by decide +kernel
theorem dX2_come_41 : decode cX2_come 41 = .ok (.getfield 15, 3) := by decide +kernel
theorem dX2_come_44 : decode cX2_come 44 = .ok (.iload_n 1, 1) := by decide +kernel
theorem dX2_come_45 : decode cX2_come 45 = .ok (.iconst 1, 1) := by decide +kernel
theorem dX2_come_46 : decode cX2_come 46 = .ok (.iastore, 1) := by decide +kernel
theorem dX2_come_47 : decode cX2_come 47 = .ok (.aload_n 0, 1) := by decide +kernel
theorem dX2_come_48 : decode cX2_come 48 = .ok (.getfield 18, 3) := by decide +kernel
theorem dX2_come_51 : decode cX2_come 51 = .ok (.iload_n 1, 1) := by decide +kernel
theorem dX2_come_52 : decode cX2_come 52 = .ok (.iload_n 1, 1) := by decide +kernel
theorem dX2_come_53 : decode cX2_come 53 = .ok (.iastore, 1) := by decide +kernel
theorem dX2_come_54 : decode cX2_come 54 = .ok (.aload_n 0, 1) := by decide +kernel
theorem dX2_come_55 : decode cX2_come 55 = .ok (.iload_n 1, 1) := by decide +kernel
theorem dX2_come_56 : decode cX2_come 56 = .ok (.invokevirtual 41, 3) := by decide +kernel
theorem dX2_come_59 : decode cX2_come 59 = .ok (.aload_n 0, 1) := by decide +kernel
theorem dX2_come_60 : decode cX2_come 60 = .ok (.dup, 1) := by decide +kernel
theorem dX2_come_61 : decode cX2_come 61 = .ok (.getfield 31, 3) := by decide +kernel
theorem dX2_come_64 : decode cX2_come 64 = .ok (.iload_n 2, 1) := by decide +kernel
theorem dX2_come_65 : decode cX2_come 65 = .ok (.iadd, 1) := by decide +kernel
theorem dX2_come_66 : decode cX2_come 66 = .ok (.putfield 31, 3) := by decide +kernel
theorem dX2_come_69 : decode cX2_come 69 = .ok (.return_, 1) := by decide +kernel
set_option maxRecDepth 20000 in
theorem ggX2_serve_X2_first : GoodIn wsX2_serve wsX2_first := goodIn_r _ [12, 13, 14, 15, 16, 17, 18, 19, 20, 21, 26, 27, 28, 29, 30, 31, 32, 33] rfl (by decide +kernel)
set_option maxRecDepth 20000 in
theorem gX2_serve_X2_first : GoodIn wsX2_serve (wsV RX2 45 RX2 yX2_first wsX2_first) := goodIn_app (goodIn_of _ (by decide +kernel)) ggX2_serve_X2_first
set_option maxRecDepth 20000 in
theorem ggX2_serve_X2_removeFirst : GoodIn wsX2_serve wsX2_removeFirst := goodIn_r _ [25, 13, 1, 26, 27, 28, 29, 30, 31, 32, 33] rfl (by decide +kernel)
set_option maxRecDepth 20000 in
theorem gX2_serve_X2_removeFirst : GoodIn wsX2_serve (wsV RX2 55 RX2 yX2_removeFirst wsX2_removeFirst) := goodIn_app (goodIn_of _ (by decide +kernel)) ggX2_serve_X2_removeFirst
theorem dX2_serve_0 : decode cX2_serve 0 = .ok (.iload_n 1, 1) := by decide +kernel
theorem dX2_serve_1 : decode cX2_serve 1 = .ok (.istore_n 2, 1) := by decide +kernel
theorem dX2_serve_2 : decode cX2_serve 2 = .ok (.aload_n 0, 1) := by decide +kernel
theorem dX2_serve_3 : decode cX2_serve 3 = .ok (.getfield 28, 3) := by decide +kernel
theorem dX2_serve_6 : decode cX2_serve 6 = .ok (.istore_n 3, 1) := by decide +kernel
theorem dX2_serve_7 : decode cX2_serve 7 = .ok (.iload_n 3, 1) := by decide +kernel
theorem dX2_serve_8 : decode cX2_serve 8 = .ok (.ifCond .le 63, 3) := by decide +kernel
theorem dX2_serve_11 : decode cX2_serve 11 = .ok (.iload_n 2, 1) := by decide +kernel
theorem dX2_serve_12 : decode cX2_serve 12 = .ok (.ifCond .le 59, 3) := by decide +kernel
theorem dX2_serve_15 : decode cX2_serve 15 = .ok (.aload_n 0, 1) := by decide +kernel
theorem dX2_serve_16 : decode cX2_serve 16 = .ok (.invokevirtual 45, 3) := by decide +kernel
theorem dX2_serve_19 : decode cX2_serve 19 = .ok (.istore 4, 2) := by decide +kernel
theorem dX2_serve_21 : decode cX2_serve 21 = .ok (.aload_n 0, 1) := by decide +kernel
theorem dX2_serve_22 : decode cX2_serve 22 = .ok (.getfield 9, 3) := by decide +kernel
theorem dX2_serve_25 : decode cX2_serve 25 = .ok (.iload 4, 2) := by decide +kernel
theorem dX2_serve_27 : decode cX2_serve 27 = .ok (.iaload, 1) := by decide +kernel
theorem dX2_serve_28 : decode cX2_serve 28 = .ok (.iload_n 2, 1) := by decide +kernel
theorem dX2_serve_29 : decode cX2_serve 29 = .ok (.invokestatic 49, 3) := by decide +kernel
theorem dX2_serve_32 : decode cX2_serve 32 = .ok (.istore 5, 2) := by decide +kernel
theorem dX2_serve_34 : decode cX2_serve 34 = .ok (.aload_n 0, 1) := by decide +kernel
theorem dX2_serve_35 : decode cX2_serve 35 = .ok (.getfield 9, 3) := by decide +kernel
theorem dX2_serve_38 : decode cX2_serve 38 = .ok (.iload 4, 2) := by decide +kernel
theorem dX2_serve_40 : decode cX2_serve 40 = .ok (.dup2, 1) := by decide +kernel
theorem dX2_serve_41 : decode cX2_serve 41 = .ok (.iaload, 1) := by decide +kernel
theorem dX2_serve_42 : decode cX2_serve 42 = .ok (.iload 5, 2) := by decide +kernel
theorem dX2_serve_44 : decode cX2_serve 44 = .ok (.isub, 1) := by decide +kernel
theorem dX2_serve_45 : decode cX2_serve 45 = .ok (.iastore, 1) := by decide +kernel
theorem dX2_serve_46 : decode cX2_serve 46 = .ok (.iload_n 2, 1) := by decide +kernel
theorem dX2_serve_47 : decode cX2_serve 47 = .ok (.iload 5, 2) := by decide +kernel
theorem dX2_serve_49 : decode cX2_serve 49 = .ok (.isub, 1) := by decide +kernel
theorem dX2_serve_50 : decode cX2_serve 50 = .ok (.istore_n 2, 1) := by decide +kernel
theorem dX2_serve_51 : decode cX2_serve 51 = .ok (.aload_n 0, 1) := by decide +kernel
theorem dX2_serve_52 : decode cX2_serve 52 = .ok (.getfield 9, 3) := by decide +kernel
theorem dX2_serve_55 : decode cX2_serve 55 = .ok (.iload 4, 2) := by decide +kernel
theorem dX2_serve_57 : decode cX2_serve 57 = .ok (.iaload, 1) := by decide +kernel
theorem dX2_serve_58 : decode cX2_serve 58 = .ok (.ifCond .ne 7, 3) := by decide +kernel
theorem dX2_serve_61 : decode cX2_serve 61 = .ok (.aload_n 0, 1) := by decide +kernel
theorem dX2_serve_62 : decode cX2_serve 62 = .ok (.invokevirtual 55, 3) := by decide +kernel
theorem dX2_serve_65 : decode cX2_serve 65 = .ok (.iinc 3 (-1), 3) := by decide +kernel
theorem dX2_serve_68 : decode cX2_serve 68 = .ok (.goto (-61), 3) := by decide +kernel
theorem dX2_serve_71 : decode cX2_serve 71 = .ok (.aload_n 0, 1) := by decide +kernel
theorem dX2_serve_72 : decode cX2_serve 72 = .ok (.dup, 1) := by decide +kernel
theorem dX2_serve_73 : decode cX2_serve 73 = .ok (.getfield 31, 3) := by decide +kernel
theorem dX2_serve_76 : decode cX2_serve 76 = .ok (.iload_n 1, 1) := by decide +kernel
theorem dX2_serve_77 : decode cX2_serve 77 = .ok (.iload_n 2, 1) := by decide +kernel
theorem dX2_serve_78 : decode cX2_serve 78 = .ok (.isub, 1) := by decide +kernel
theorem dX2_serve_79 : decode cX2_serve 79 = .ok (.isub, 1) := by decide +kernel
theorem dX2_serve_80 : decode cX2_serve 80 = .ok (.putfield 31, 3) := by decide +kernel
theorem dX2_serve_83 : decode cX2_serve 83 = .ok (.iload_n 1, 1) := by decide +kernel
theorem dX2_serve_84 : decode cX2_serve 84 = .ok (.iload_n 2, 1) := by decide +kernel
theorem dX2_serve_85 : decode cX2_serve 85 = .ok (.isub, 1) := by decide +kernel
theorem dX2_serve_86 : decode cX2_serve 86 = .ok (.ireturn, 1) := by decide +kernel
set_option maxRecDepth 20000 in
theorem ggX2_leave_X2_first : GoodIn wsX2_leave wsX2_first := goodIn_r _ [11, 12, 13, 14, 15, 16, 17, 18, 19, 20, 29, 30, 31, 32, 33, 34, 35, 36] rfl (by decide +kernel)
set_option maxRecDepth 20000 in
theorem gX2_leave_X2_first : GoodIn wsX2_leave (wsV RX2 45 RX2 yX2_first wsX2_first) := goodIn_app (goodIn_of _ (by decide +kernel)) ggX2_leave_X2_first
set_option maxRecDepth 20000 in
theorem ggX2_leave_X2_removeFirst : GoodIn wsX2_leave wsX2_removeFirst := goodIn_r _ [24, 12, 1, 29, 30, 31, 32, 33, 34, 35, 36] rfl (by decide +kernel)
set_option maxRecDepth 20000 in
theorem gX2_leave_X2_removeFirst : GoodIn wsX2_leave (wsV RX2 55 RX2 yX2_removeFirst wsX2_removeFirst) := goodIn_app (goodIn_of _ (by decide +kernel)) ggX2_leave_X2_removeFirst
set_option maxRecDepth 20000 in
theorem ggX2_leave_X2_append : GoodIn wsX2_leave wsX2_append := goodIn_r _ [28, 12, 1, 13, 17, 18, 19, 20, 29, 30, 31, 32, 33, 34, 35, 36] rfl (by decide +kernel)
set_option maxRecDepth 20000 in
theorem gX2_leave_X2_append : GoodIn wsX2_leave (wsV RX2 41 RX2 yX2_append wsX2_append) := goodIn_app (goodIn_of _ (by decide +kernel)) ggX2_leave_X2_append
theorem dX2_leave_0 : decode cX2_leave 0 = .ok (.iconst 0, 1) := by decide +kernel
theorem dX2_leave_1 : decode cX2_leave 1 = .ok (.istore 4, 2) := by decide +kernel
theorem dX2_leave_3 : decode cX2_leave 3 = .ok (.aload_n 0, 1) := by decide +kernel
theorem dX2_leave_4 : decode cX2_leave 4 = .ok (.getfield 28, 3) := by decide +kernel
theorem dX2_leave_7 : decode cX2_leave 7 = .ok (.istore 5, 2) := by decide +kernel
theorem dX2_leave_9 : decode cX2_leave 9 = .ok (.iload 5, 2) := by decide +kernel
theorem dX2_leave_11 : decode cX2_leave 11 = .ok (.ifCond .le 121, 3) := by decide +kernel
theorem dX2_leave_14 : decode cX2_leave 14 = .ok (.iload_n 1, 1) := by decide +kernel
theorem dX2_leave_15 : decode cX2_leave 15 = .ok (.aload_n 0, 1) := by decide +kernel
theorem dX2_leave_16 : decode cX2_leave 16 = .ok (.getfield 18, 3) := by decide +kernel
theorem dX2_leave_19 : decode cX2_leave 19 = .ok (.aload_n 0, 1) := by decide +kernel
theorem dX2_leave_20 : decode cX2_leave 20 = .ok (.invokevirtual 45, 3) := by decide +kernel
theorem dX2_leave_23 : decode cX2_leave 23 = .ok (.iaload, 1) := by decide +kernel
theorem dX2_leave_24 : decode cX2_leave 24 = .ok (.isub, 1) := by decide +kernel
theorem dX2_leave_25 : decode cX2_leave 25 = .ok (.iconst 1, 1) := by decide +kernel
theorem dX2_leave_26 : decode cX2_leave 26 = .ok (.iadd, 1) := by decide +kernel
theorem dX2_leave_27 : decode cX2_leave 27 = .ok (.iload_n 2, 1) := by decide +kernel
theorem dX2_leave_28 : decode cX2_leave 28 = .ok (.if_icmp .lt 104, 3) := by decide +kernel
theorem dX2_leave_31 : decode cX2_leave 31 = .ok (.aload_n 0, 1) := by decide +kernel
theorem dX2_leave_32 : decode cX2_leave 32 = .ok (.invokevirtual 45, 3) := by decide +kernel
theorem dX2_leave_35 : decode cX2_leave 35 = .ok (.istore 6, 2) := by decide +kernel
theorem dX2_leave_37 : decode cX2_leave 37 = .ok (.aload_n 0, 1) := by decide +kernel
theorem dX2_leave_38 : decode cX2_leave 38 = .ok (.invokevirtual 55, 3) := by decide +kernel
theorem dX2_leave_41 : decode cX2_leave 41 = .ok (.aload_n 0, 1) := by decide +kernel
theorem dX2_leave_42 : decode cX2_leave 42 = .ok (.dup, 1) := by decide +kernel
theorem dX2_leave_43 : decode cX2_leave 43 = .ok (.getfield 31, 3) := by decide +kernel
theorem dX2_leave_46 : decode cX2_leave 46 = .ok (.aload_n 0, 1) := by decide +kernel
theorem dX2_leave_47 : decode cX2_leave 47 = .ok (.getfield 9, 3) := by decide +kernel
theorem dX2_leave_50 : decode cX2_leave 50 = .ok (.iload 6, 2) := by decide +kernel
theorem dX2_leave_52 : decode cX2_leave 52 = .ok (.iaload, 1) := by decide +kernel
theorem dX2_leave_53 : decode cX2_leave 53 = .ok (.isub, 1) := by decide +kernel
theorem dX2_leave_54 : decode cX2_leave 54 = .ok (.putfield 31, 3) := by decide +kernel
theorem dX2_leave_57 : decode cX2_leave 57 = .ok (.aload_n 0, 1) := by decide +kernel
theorem dX2_leave_58 : decode cX2_leave 58 = .ok (.getfield 15, 3) := by decide +kernel
theorem dX2_leave_61 : decode cX2_leave 61 = .ok (.iload 6, 2) := by decide +kernel
theorem dX2_leave_63 : decode cX2_leave 63 = .ok (.iaload, 1) := by decide +kernel
theorem dX2_leave_64 : decode cX2_leave 64 = .ok (.iload_n 3, 1) := by decide +kernel
theorem dX2_leave_65 : decode cX2_leave 65 = .ok (.if_icmp .ge 49, 3) := by decide +kernel
theorem dX2_leave_68 : decode cX2_leave 68 = .ok (.aload_n 0, 1) := by decide +kernel
theorem dX2_leave_69 : decode cX2_leave 69 = .ok (.getfield 15, 3) := by decide +kernel
theorem dX2_leave_72 : decode cX2_leave 72 = .ok (.iload 6, 2) := by decide +kernel
theorem dX2_leave_74 : decode cX2_leave 74 = .ok (.dup2, 1) := by decide +kernel
theorem dX2_leave_75 : decode cX2_leave 75 = .ok (.iaload, 1) := by decide +kernel
theorem dX2_leave_76 : decode cX2_leave 76 = .ok (.iconst 1, 1) := by decide +kernel
theorem dX2_leave_77 : decode cX2_leave 77 = .ok (.iadd, 1) := by decide +kernel
theorem dX2_leave_78 : decode cX2_leave 78 = .ok (.iastore, 1) := by decide +kernel
theorem dX2_leave_79 : decode cX2_leave 79 = .ok (.aload_n 0, 1) := by decide +kernel
theorem dX2_leave_80 : decode cX2_leave 80 = .ok (.getfield 18, 3) := by decide +kernel
theorem dX2_leave_83 : decode cX2_leave 83 = .ok (.iload 6, 2) := by decide +kernel
theorem dX2_leave_85 : decode cX2_leave 85 = .ok (.iload_n 1, 1) := by decide +kernel
theorem dX2_leave_86 : decode cX2_leave 86 = .ok (.iconst 1, 1) := by decide +kernel
theorem dX2_leave_87 : decode cX2_leave 87 = .ok (.iadd, 1) := by decide +kernel
theorem dX2_leave_88 : decode cX2_leave 88 = .ok (.iastore, 1) := by decide +kernel
theorem dX2_leave_89 : decode cX2_leave 89 = .ok (.aload_n 0, 1) := by decide +kernel
theorem dX2_leave_90 : decode cX2_leave 90 = .ok (.iload 6, 2) := by decide +kernel
theorem dX2_leave_92 : decode cX2_leave 92 = .ok (.invokevirtual 41, 3) := by decide +kernel
theorem dX2_leave_95 : decode cX2_leave 95 = .ok (.aload_n 0, 1) := by decide +kernel
theorem dX2_leave_96 : decode cX2_leave 96 = .ok (.dup, 1) := by decide +kernel
theorem dX2_leave_97 : decode cX2_leave 97 = .ok (.getfield 34, 3) := by decide +kernel
theorem dX2_leave_100 : decode cX2_leave 100 = .ok (.aload_n 0, 1) := by decide +kernel
theorem dX2_leave_101 : decode cX2_leave 101 = .ok (.getfield 9, 3) := by decide +kernel
theorem dX2_leave_104 : decode cX2_leave 104 = .ok (.iload 6, 2) := by decide +kernel
theorem dX2_leave_106 : decode cX2_leave 106 = .ok (.iaload, 1) := by decide +kernel
theorem dX2_leave_107 : decode cX2_leave 107 = .ok (.iadd, 1) := by decide +kernel
theorem dX2_leave_108 : decode cX2_leave 108 = .ok (.putfield 34, 3) := by decide +kernel
theorem dX2_leave_111 : decode cX2_leave 111 = .ok (.goto 15, 3) := by decide +kernel
theorem dX2_leave_114 : decode cX2_leave 114 = .ok (.iload 4, 2) := by decide +kernel
theorem dX2_leave_116 : decode cX2_leave 116 = .ok (.aload_n 0, 1) := by decide +kernel
theorem dX2_leave_117 : decode cX2_leave 117 = .ok (.getfield 9, 3) := by decide +kernel
theorem dX2_leave_120 : decode cX2_leave 120 = .ok (.iload 6, 2) := by decide +kernel
theorem dX2_leave_122 : decode cX2_leave 122 = .ok (.iaload, 1) := by decide +kernel
theorem dX2_leave_123 : decode cX2_leave 123 = .ok (.iadd, 1) := by decide +kernel
theorem dX2_leave_124 : decode cX2_leave 124 = .ok (.istore 4, 2) := by decide +kernel
theorem dX2_leave_126 : decode cX2_leave 126 = .ok (.iinc 5 (-1), 3) := by decide +kernel
theorem dX2_leave_129 : decode cX2_leave 129 = .ok (.goto (-120), 3) := by decide +kernel
theorem dX2_leave_132 : decode cX2_leave 132 = .ok (.iload 4, 2) := by decide +kernel
theorem dX2_leave_134 : decode cX2_leave 134 = .ok (.ireturn, 1) := by decide +kernel
set_option maxRecDepth 20000 in
theorem ggX2_first_X6_within : GoodIn wsX2_first wsX6_within := goodIn_r _ [5] rfl (by decide +kernel)
set_option maxRecDepth 20000 in
theorem gX2_first_X6_within_n37 : GoodIn wsX2_first (wsX6_within) := ggX2_first_X6_within
set_option maxRecDepth 20000 in
theorem ggX2_first_J9_floorMod_7cf53 : GoodIn wsX2_first wsJ9_floorMod_7cf53 := goodIn_r _ [9] rfl (by decide +kernel)
set_option maxRecDepth 20000 in
theorem gX2_first_J9_floorMod_7cf53 : GoodIn wsX2_first (va_wsS RX2 58 yJ9_floorMod_7cf53 wsJ9_floorMod_7cf53) := goodIn_app (goodIn_of _ (by decide +kernel)) ggX2_first_J9_floorMod_7cf53
theorem dX2_first_0 : decode cX2_first 0 = .ok (.aload_n 0, 1) := by decide +kernel
theorem dX2_first_1 : decode cX2_first 1 = .ok (.getfield 24, 3) := by decide +kernel
theorem dX2_first_4 : decode cX2_first 4 = .ok (.iconst 0, 1) := by decide +kernel
theorem dX2_first_5 : decode cX2_first 5 = .ok (.sipush 199, 3) := by decide +kernel
theorem dX2_first_8 : decode cX2_first 8 = .ok (.invokestatic 37, 3) := by decide +kernel
theorem dX2_first_11 : decode cX2_first 11 = .ok (.ifCond .eq 21, 3) := by decide +kernel
theorem dX2_first_14 : decode cX2_first 14 = .ok (.aload_n 0, 1) := by decide +kernel
theorem dX2_first_15 : decode cX2_first 15 = .ok (.getfield 21, 3) := by decide +kernel
theorem dX2_first_18 : decode cX2_first 18 = .ok (.aload_n 0, 1) := by decide +kernel
theorem dX2_first_19 : decode cX2_first 19 = .ok (.getfield 24, 3) := by decide +kernel
theorem dX2_first_22 : decode cX2_first 22 = .ok (.iaload, 1) := by decide +kernel
theorem dX2_first_23 : decode cX2_first 23 = .ok (.sipush 200, 3) := by decide +kernel
theorem dX2_first_26 : decode cX2_first 26 = .ok (.invokestatic 58, 3) := by decide +kernel
theorem dX2_first_29 : decode cX2_first 29 = .ok (.goto 4, 3) := by decide +kernel
theorem dX2_first_32 : decode cX2_first 32 = .ok (.iconst 0, 1) := by decide +kernel
theorem dX2_first_33 : decode cX2_first 33 = .ok (.ireturn, 1) := by decide +kernel
theorem dX2_removeFirst_0 : decode cX2_removeFirst 0 = .ok (.aload_n 0, 1) := by decide +kernel
theorem dX2_removeFirst_1 : decode cX2_removeFirst 1 = .ok (.aload_n 0, 1) := by decide +kernel
theorem dX2_removeFirst_2 : decode cX2_removeFirst 2 = .ok (.getfield 24, 3) := by decide +kernel
theorem dX2_removeFirst_5 : decode cX2_removeFirst 5 = .ok (.iconst 1, 1) := by decide +kernel
theorem dX2_removeFirst_6 : decode cX2_removeFirst 6 = .ok (.iadd, 1) := by decide +kernel
theorem dX2_removeFirst_7 : decode cX2_removeFirst 7 = .ok (.sipush 200, 3) := by decide +kernel
theorem dX2_removeFirst_10 : decode cX2_removeFirst 10 = .ok (.irem, 1) := by decide +kernel
theorem dX2_removeFirst_11 : decode cX2_removeFirst 11 = .ok (.putfield 24, 3) := by decide +kernel
theorem dX2_removeFirst_14 : decode cX2_removeFirst 14 = .ok (.aload_n 0, 1) := by decide +kernel
theorem dX2_removeFirst_15 : decode cX2_removeFirst 15 = .ok (.dup, 1) := by decide +kernel
theorem dX2_removeFirst_16 : decode cX2_removeFirst 16 = .ok (.getfield 28, 3) := by decide +kernel
theorem dX2_removeFirst_19 : decode cX2_removeFirst 19 = .ok (.iconst 1, 1) := by decide +kernel
theorem dX2_removeFirst_20 : decode cX2_removeFirst 20 = .ok (.isub, 1) := by decide +kernel
theorem dX2_removeFirst_21 : decode cX2_removeFirst 21 = .ok (.putfield 28, 3) := by decide +kernel
theorem dX2_removeFirst_24 : decode cX2_removeFirst 24 = .ok (.return_, 1) := by decide +kernel
set_option maxRecDepth 20000 in
theorem ggX2_append_J9_floorMod_7cf53 : GoodIn wsX2_append wsJ9_floorMod_7cf53 := goodIn_r _ [7] rfl (by decide +kernel)
set_option maxRecDepth 20000 in
theorem gX2_append_J9_floorMod_7cf53 : GoodIn wsX2_append (va_wsS RX2 58 yJ9_floorMod_7cf53 wsJ9_floorMod_7cf53) := goodIn_app (goodIn_of _ (by decide +kernel)) ggX2_append_J9_floorMod_7cf53
theorem dX2_append_0 : decode cX2_append 0 = .ok (.aload_n 0, 1) := by decide +kernel
theorem dX2_append_1 : decode cX2_append 1 = .ok (.getfield 24, 3) := by decide +kernel
theorem dX2_append_4 : decode cX2_append 4 = .ok (.aload_n 0, 1) := by decide +kernel
theorem dX2_append_5 : decode cX2_append 5 = .ok (.getfield 28, 3) := by decide +kernel
theorem dX2_append_8 : decode cX2_append 8 = .ok (.iadd, 1) := by decide +kernel
theorem dX2_append_9 : decode cX2_append 9 = .ok (.sipush 200, 3) := by decide +kernel
theorem dX2_append_12 : decode cX2_append 12 = .ok (.invokestatic 58, 3) := by decide +kernel
theorem dX2_append_15 : decode cX2_append 15 = .ok (.istore_n 2, 1) := by decide +kernel
theorem dX2_append_16 : decode cX2_append 16 = .ok (.aload_n 0, 1) := by decide +kernel
theorem dX2_append_17 : decode cX2_append 17 = .ok (.getfield 21, 3) := by decide +kernel
theorem dX2_append_20 : decode cX2_append 20 = .ok (.iload_n 2, 1) := by decide +kernel
theorem dX2_append_21 : decode cX2_append 21 = .ok (.iload_n 1, 1) := by decide +kernel
theorem dX2_append_22 : decode cX2_append 22 = .ok (.iastore, 1) := by decide +kernel
theorem dX2_append_23 : decode cX2_append 23 = .ok (.aload_n 0, 1) := by decide +kernel
theorem dX2_append_24 : decode cX2_append 24 = .ok (.dup, 1) := by decide +kernel
theorem dX2_append_25 : decode cX2_append 25 = .ok (.getfield 28, 3) := by decide +kernel
theorem dX2_append_28 : decode cX2_append 28 = .ok (.iconst 1, 1) := by decide +kernel
theorem dX2_append_29 : decode cX2_append 29 = .ok (.iadd, 1) := by decide +kernel
theorem dX2_append_30 : decode cX2_append 30 = .ok (.putfield 28, 3) := by decide +kernel
theorem dX2_append_33 : decode cX2_append 33 = .ok (.return_, 1) := by decide +kernel
theorem dX3_init_0 : decode cX3_init 0 = .ok (.aload_n 0, 1) := by decide +kernel
theorem dX3_init_1 : decode cX3_init 1 = .ok (.invokespecial 3, 3) := by decide +kernel
theorem dX3_init_4 : decode cX3_init 4 = .ok (.aload_n 0, 1) := by decide +kernel
theorem dX3_init_5 : decode cX3_init 5 = .ok (.bipush 12, 2) := by decide +kernel
theorem dX3_init_7 : decode cX3_init 7 = .ok (.newarray .int, 2) := by decide +kernel
theorem dX3_init_9 : decode cX3_init 9 = .ok (.putfield 9, 3) := by decide +kernel
theorem dX3_init_12 : decode cX3_init 12 = .ok (.aload_n 0, 1) := by decide +kernel
theorem dX3_init_13 : decode cX3_init 13 = .ok (.bipush 12, 2) := by decide +kernel
theorem dX3_init_15 : decode cX3_init 15 = .ok (.newarray .int, 2) := by decide +kernel
theorem dX3_init_17 : decode cX3_init 17 = .ok (.putfield 15, 3) := by decide +kernel
theorem dX3_init_20 : decode cX3_init 20 = .ok (.return_, 1) := by decide +kernel
theorem dX3_begin_0 : decode cX3_begin 0 = .ok (.iconst 0, 1) := by decide +kernel
theorem dX3_begin_1 : decode cX3_begin 1 = .ok (.istore_n 1, 1) := by decide +kernel
theorem dX3_begin_2 : decode cX3_begin 2 = .ok (.iload_n 1, 1) := by decide +kernel
theorem dX3_begin_3 : decode cX3_begin 3 = .ok (.bipush 12, 2) := by decide +kernel
theorem dX3_begin_5 : decode cX3_begin 5 = .ok (.if_icmp .ge 16, 3) := by decide +kernel
theorem dX3_begin_8 : decode cX3_begin 8 = .ok (.aload_n 0, 1) := by decide +kernel
theorem dX3_begin_9 : decode cX3_begin 9 = .ok (.getfield 9, 3) := by decide +kernel
theorem dX3_begin_12 : decode cX3_begin 12 = .ok (.iload_n 1, 1) := by decide +kernel
theorem dX3_begin_13 : decode cX3_begin 13 = .ok (.iconst 0, 1) := by decide +kernel
theorem dX3_begin_14 : decode cX3_begin 14 = .ok (.iastore, 1) := by decide +kernel
theorem dX3_begin_15 : decode cX3_begin 15 = .ok (.iinc 1 1, 3) := by decide +kernel
theorem dX3_begin_18 : decode cX3_begin 18 = .ok (.goto (-16), 3) := by decide +kernel
theorem dX3_begin_21 : decode cX3_begin 21 = .ok (.return_, 1) := by decide +kernel
set_option maxRecDepth 20000 in
theorem ggX3_stateOf_X6_within : GoodIn wsX3_stateOf wsX6_within := goodIn_r _ [4] rfl (by decide +kernel)
set_option maxRecDepth 20000 in
theorem gX3_stateOf_X6_within_n18 : GoodIn wsX3_stateOf (wsX6_within) := ggX3_stateOf_X6_within
theorem dX3_stateOf_0 : decode cX3_stateOf 0 = .ok (.iload_n 1, 1) := by decide +kernel
theorem dX3_stateOf_1 : decode cX3_stateOf 1 = .ok (.iconst 0, 1) := by decide +kernel
theorem dX3_stateOf_2 : decode cX3_stateOf 2 = .ok (.bipush 11, 2) := by decide +kernel
theorem dX3_stateOf_4 : decode cX3_stateOf 4 = .ok (.invokestatic 18, 3) := by decide +kernel
theorem dX3_stateOf_7 : decode cX3_stateOf 7 = .ok (.ifCond .eq 12, 3) := by decide +kernel
theorem dX3_stateOf_10 : decode cX3_stateOf 10 = .ok (.aload_n 0, 1) := by decide +kernel
theorem dX3_stateOf_11 : decode cX3_stateOf 11 = .ok (.getfield 9, 3) := by decide +kernel
theorem dX3_stateOf_14 : decode cX3_stateOf 14 = .ok (.iload_n 1, 1) := by decide +kernel
theorem dX3_stateOf_15 : decode cX3_stateOf 15 = .ok (.iaload, 1) := by decide +kernel
theorem dX3_stateOf_16 : decode cX3_stateOf 16 = .ok (.goto 6, 3) := by decide +kernel
theorem dX3_stateOf_19 : decode cX3_stateOf 19 = .ok (.sipush (-1001), 3) := by decide +kernel
theorem dX3_stateOf_22 : decode cX3_stateOf 22 = .ok (.ireturn, 1) := by decide +kernel
set_option maxRecDepth 20000 in
theorem ggX3_ticksBehind_X6_within : GoodIn wsX3_ticksBehind wsX6_within := goodIn_r _ [5] rfl (by decide +kernel)
set_option maxRecDepth 20000 in
theorem gX3_ticksBehind_X6_within_n18 : GoodIn wsX3_ticksBehind (wsX6_within) := ggX3_ticksBehind_X6_within
theorem dX3_ticksBehind_0 : decode cX3_ticksBehind 0 = .ok (.iload_n 1, 1) := by decide +kernel
theorem dX3_ticksBehind_1 : decode cX3_ticksBehind 1 = .ok (.iconst 0, 1) := by decide +kernel
theorem dX3_ticksBehind_2 : decode cX3_ticksBehind 2 = .ok (.bipush 11, 2) := by decide +kernel
theorem dX3_ticksBehind_4 : decode cX3_ticksBehind 4 = .ok (.invokestatic 18, 3) := by decide +kernel
theorem dX3_ticksBehind_7 : decode cX3_ticksBehind 7 = .ok (.ifCond .ne 7, 3) := by decide +kernel
theorem dX3_ticksBehind_10 : decode cX3_ticksBehind 10 = .ok (.sipush (-1001), 3) := by decide +kernel
theorem dX3_ticksBehind_13 : decode cX3_ticksBehind 13 = .ok (.ireturn, 1) := by decide +kernel
theorem dX3_ticksBehind_14 : decode cX3_ticksBehind 14 = .ok (.aload_n 0, 1) := by decide +kernel
theorem dX3_ticksBehind_15 : decode cX3_ticksBehind 15 = .ok (.getfield 9, 3) := by decide +kernel
theorem dX3_ticksBehind_18 : decode cX3_ticksBehind 18 = .ok (.iload_n 1, 1) := by decide +kernel
theorem dX3_ticksBehind_19 : decode cX3_ticksBehind 19 = .ok (.iaload, 1) := by decide +kernel
theorem dX3_ticksBehind_20 : decode cX3_ticksBehind 20 = .ok (.iconst 1, 1) := by decide +kernel
theorem dX3_ticksBehind_21 : decode cX3_ticksBehind 21 = .ok (.if_icmp .eq 13, 3) := by decide +kernel
theorem dX3_ticksBehind_24 : decode cX3_ticksBehind 24 = .ok (.aload_n 0, 1) := by decide +kernel
theorem dX3_ticksBehind_25 : decode cX3_ticksBehind 25 = .ok (.getfield 9, 3) := by decide +kernel
theorem dX3_ticksBehind_28 : decode cX3_ticksBehind 28 = .ok (.iload_n 1, 1) := by decide +kernel
theorem dX3_ticksBehind_29 : decode cX3_ticksBehind 29 = .ok (.iaload, 1) := by decide +kernel
theorem dX3_ticksBehind_30 : decode cX3_ticksBehind 30 = .ok (.iconst 3, 1) := by decide +kernel
theorem dX3_ticksBehind_31 : decode cX3_ticksBehind 31 = .ok (.if_icmp .ne 7, 3) := by decide +kernel
theorem dX3_ticksBehind_34 : decode cX3_ticksBehind 34 = .ok (.iconst 1, 1) := by decide +kernel
theorem dX3_ticksBehind_35 : decode cX3_ticksBehind 35 = .ok (.goto 4, 3) := by decide +kernel
theorem dX3_ticksBehind_38 : decode cX3_ticksBehind 38 = .ok (.iconst 0, 1) := by decide +kernel
theorem dX3_ticksBehind_39 : decode cX3_ticksBehind 39 = .ok (.istore_n 3, 1) := by decide +kernel
theorem dX3_ticksBehind_40 : decode cX3_ticksBehind 40 = .ok (.iload_n 3, 1) := by decide +kernel
theorem dX3_ticksBehind_41 : decode cX3_ticksBehind 41 = .ok (.ifCond .eq 16, 3) := by decide +kernel
theorem dX3_ticksBehind_44 : decode cX3_ticksBehind 44 = .ok (.iload_n 2, 1) := by decide +kernel
theorem dX3_ticksBehind_45 : decode cX3_ticksBehind 45 = .ok (.iconst 1, 1) := by decide +kernel
theorem dX3_ticksBehind_46 : decode cX3_ticksBehind 46 = .ok (.isub, 1) := by decide +kernel
theorem dX3_ticksBehind_47 : decode cX3_ticksBehind 47 = .ok (.aload_n 0, 1) := by decide +kernel
theorem dX3_ticksBehind_48 : decode cX3_ticksBehind 48 = .ok (.getfield 15, 3) := by decide +kernel
theorem dX3_ticksBehind_51 : decode cX3_ticksBehind 51 = .ok (.iload_n 1, 1) := by decide +kernel
theorem dX3_ticksBehind_52 : decode cX3_ticksBehind 52 = .ok (.iaload, 1) := by decide +kernel
theorem dX3_ticksBehind_53 : decode cX3_ticksBehind 53 = .ok (.isub, 1) := by decide +kernel
theorem dX3_ticksBehind_54 : decode cX3_ticksBehind 54 = .ok (.goto 4, 3) := by decide +kernel
theorem dX3_ticksBehind_57 : decode cX3_ticksBehind 57 = .ok (.iconst 0, 1) := by decide +kernel
theorem dX3_ticksBehind_58 : decode cX3_ticksBehind 58 = .ok (.ireturn, 1) := by decide +kernel
set_option maxRecDepth 20000 in
theorem ggX3_takeOut_X6_within : GoodIn wsX3_takeOut wsX6_within := goodIn_r _ [4] rfl (by decide +kernel)
set_option maxRecDepth 20000 in
theorem gX3_takeOut_X6_within_n18 : GoodIn wsX3_takeOut (wsX6_within) := ggX3_takeOut_X6_within
theorem dX3_takeOut_0 : decode cX3_takeOut 0 = .ok (.iload_n 1, 1) := by decide +kernel
theorem dX3_takeOut_1 : decode cX3_takeOut 1 = .ok (.iconst 0, 1) := by decide +kernel
theorem dX3_takeOut_2 : decode cX3_takeOut 2 = .ok (.bipush 11, 2) := by decide +kernel
theorem dX3_takeOut_4 : decode cX3_takeOut 4 = .ok (.invokestatic 18, 3) := by decide +kernel
theorem dX3_takeOut_7 : decode cX3_takeOut 7 = .ok (.ifCond .ne 7, 3) := by decide +kernel
theorem dX3_takeOut_10 : decode cX3_takeOut 10 = .ok (.sipush (-1001), 3) := by decide +kernel
theorem dX3_takeOut_13 : decode cX3_takeOut 13 = .ok (.ireturn, 1) := by decide +kernel
theorem dX3_takeOut_14 : decode cX3_takeOut 14 = .ok (.aload_n 0, 1) := by decide +kernel
theorem dX3_takeOut_15 : decode cX3_takeOut 15 = .ok (.getfield 9, 3) := by decide +kernel
theorem dX3_takeOut_18 : decode cX3_takeOut 18 = .ok (.iload_n 1, 1) := by decide +kernel
theorem dX3_takeOut_19 : decode cX3_takeOut 19 = .ok (.iaload, 1) := by decide +kernel
theorem dX3_takeOut_20 : decode cX3_takeOut 20 = .ok (.istore_n 2, 1) := by decide +kernel
theorem dX3_takeOut_21 : decode cX3_takeOut 21 = .ok (.aload_n 0, 1) := by decide +kernel
theorem dX3_takeOut_22 : decode cX3_takeOut 22 = .ok (.getfield 9, 3) := by decide +kernel
theorem dX3_takeOut_25 : decode cX3_takeOut 25 = .ok (.iload_n 1, 1) := by decide +kernel
theorem dX3_takeOut_26 : decode cX3_takeOut 26 = .ok (.iconst 0, 1) := by decide +kernel
theorem dX3_takeOut_27 : decode cX3_takeOut 27 = .ok (.iastore, 1) := by decide +kernel
theorem dX3_takeOut_28 : decode cX3_takeOut 28 = .ok (.iload_n 2, 1) := by decide +kernel
theorem dX3_takeOut_29 : decode cX3_takeOut 29 = .ok (.ireturn, 1) := by decide +kernel
theorem dX3_count_0 : decode cX3_count 0 = .ok (.iconst 0, 1) := by decide +kernel
theorem dX3_count_1 : decode cX3_count 1 = .ok (.istore_n 2, 1) := by decide +kernel
theorem dX3_count_2 : decode cX3_count 2 = .ok (.iconst 0, 1) := by decide +kernel
theorem dX3_count_3 : decode cX3_count 3 = .ok (.istore_n 3, 1) := by decide +kernel
theorem dX3_count_4 : decode cX3_count 4 = .ok (.iload_n 3, 1) := by decide +kernel
theorem dX3_count_5 : decode cX3_count 5 = .ok (.bipush 12, 2) := by decide +kernel
theorem dX3_count_7 : decode cX3_count 7 = .ok (.if_icmp .ge 22, 3) := by decide +kernel
theorem dX3_count_10 : decode cX3_count 10 = .ok (.aload_n 0, 1) := by decide +kernel
theorem dX3_count_11 : decode cX3_count 11 = .ok (.getfield 9, 3) := by decide +kernel
theorem dX3_count_14 : decode cX3_count 14 = .ok (.iload_n 3, 1) := by decide +kernel
theorem dX3_count_15 : decode cX3_count 15 = .ok (.iaload, 1) := by decide +kernel
theorem dX3_count_16 : decode cX3_count 16 = .ok (.iload_n 1, 1) := by decide +kernel
