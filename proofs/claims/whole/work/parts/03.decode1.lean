theorem dX3_count_17 : decode cX3_count 17 = .ok (.if_icmp .ne 6, 3) := by decide +kernel
theorem dX3_count_20 : decode cX3_count 20 = .ok (.iinc 2 1, 3) := by decide +kernel
theorem dX3_count_23 : decode cX3_count 23 = .ok (.iinc 3 1, 3) := by decide +kernel
theorem dX3_count_26 : decode cX3_count 26 = .ok (.goto (-22), 3) := by decide +kernel
theorem dX3_count_29 : decode cX3_count 29 = .ok (.iload_n 2, 1) := by decide +kernel
theorem dX3_count_30 : decode cX3_count 30 = .ok (.ireturn, 1) := by decide +kernel
set_option maxRecDepth 20000 in
theorem ggX3_up_X3_count : GoodIn wsX3_up wsX3_count := goodIn_r _ [5, 6, 7, 8] rfl (by decide +kernel)
set_option maxRecDepth 20000 in
theorem gX3_up_X3_count : GoodIn wsX3_up (wsV RX3 22 RX3 yX3_count wsX3_count) := goodIn_app (goodIn_of _ (by decide +kernel)) ggX3_up_X3_count
theorem dX3_up_0 : decode cX3_up 0 = .ok (.aload_n 0, 1) := by decide +kernel
theorem dX3_up_1 : decode cX3_up 1 = .ok (.iconst 1, 1) := by decide +kernel
theorem dX3_up_2 : decode cX3_up 2 = .ok (.invokevirtual 22, 3) := by decide +kernel
theorem dX3_up_5 : decode cX3_up 5 = .ok (.aload_n 0, 1) := by decide +kernel
theorem dX3_up_6 : decode cX3_up 6 = .ok (.iconst 2, 1) := by decide +kernel
theorem dX3_up_7 : decode cX3_up 7 = .ok (.invokevirtual 22, 3) := by decide +kernel
theorem dX3_up_10 : decode cX3_up 10 = .ok (.iadd, 1) := by decide +kernel
theorem dX3_up_11 : decode cX3_up 11 = .ok (.ireturn, 1) := by decide +kernel
set_option maxRecDepth 20000 in
theorem ggX3_working_X3_count : GoodIn wsX3_working wsX3_count := goodIn_r _ [5, 6, 7, 8] rfl (by decide +kernel)
set_option maxRecDepth 20000 in
theorem gX3_working_X3_count : GoodIn wsX3_working (wsV RX3 22 RX3 yX3_count wsX3_count) := goodIn_app (goodIn_of _ (by decide +kernel)) ggX3_working_X3_count
theorem dX3_working_0 : decode cX3_working 0 = .ok (.aload_n 0, 1) := by decide +kernel
theorem dX3_working_1 : decode cX3_working 1 = .ok (.iconst 2, 1) := by decide +kernel
theorem dX3_working_2 : decode cX3_working 2 = .ok (.invokevirtual 22, 3) := by decide +kernel
theorem dX3_working_5 : decode cX3_working 5 = .ok (.aload_n 0, 1) := by decide +kernel
theorem dX3_working_6 : decode cX3_working 6 = .ok (.iconst 3, 1) := by decide +kernel
theorem dX3_working_7 : decode cX3_working 7 = .ok (.invokevirtual 22, 3) := by decide +kernel
theorem dX3_working_10 : decode cX3_working 10 = .ok (.iadd, 1) := by decide +kernel
theorem dX3_working_11 : decode cX3_working 11 = .ok (.ireturn, 1) := by decide +kernel
theorem dX3_start_0 : decode cX3_start 0 = .ok (.iconst 0, 1) := by decide +kernel
theorem dX3_start_1 : decode cX3_start 1 = .ok (.istore_n 3, 1) := by decide +kernel
theorem dX3_start_2 : decode cX3_start 2 = .ok (.iconst 0, 1) := by decide +kernel
theorem dX3_start_3 : decode cX3_start 3 = .ok (.istore 4, 2) := by decide +kernel
theorem dX3_start_5 : decode cX3_start 5 = .ok (.iload 4, 2) := by decide +kernel
theorem dX3_start_7 : decode cX3_start 7 = .ok (.bipush 12, 2) := by decide +kernel
theorem dX3_start_9 : decode cX3_start 9 = .ok (.if_icmp .ge 43, 3) := by decide +kernel
theorem dX3_start_12 : decode cX3_start 12 = .ok (.iload_n 3, 1) := by decide +kernel
theorem dX3_start_13 : decode cX3_start 13 = .ok (.iload_n 1, 1) := by decide +kernel
theorem dX3_start_14 : decode cX3_start 14 = .ok (.if_icmp .ge 38, 3) := by decide +kernel
theorem dX3_start_17 : decode cX3_start 17 = .ok (.aload_n 0, 1) := by decide +kernel
theorem dX3_start_18 : decode cX3_start 18 = .ok (.getfield 9, 3) := by decide +kernel
theorem dX3_start_21 : decode cX3_start 21 = .ok (.iload 4, 2) := by decide +kernel
theorem dX3_start_23 : decode cX3_start 23 = .ok (.iaload, 1) := by decide +kernel
theorem dX3_start_24 : decode cX3_start 24 = .ok (.ifCond .ne 22, 3) := by decide +kernel
theorem dX3_start_27 : decode cX3_start 27 = .ok (.aload_n 0, 1) := by decide +kernel
theorem dX3_start_28 : decode cX3_start 28 = .ok (.getfield 9, 3) := by decide +kernel
theorem dX3_start_31 : decode cX3_start 31 = .ok (.iload 4, 2) := by decide +kernel
theorem dX3_start_33 : decode cX3_start 33 = .ok (.iconst 1, 1) := by decide +kernel
theorem dX3_start_34 : decode cX3_start 34 = .ok (.iastore, 1) := by decide +kernel
theorem dX3_start_35 : decode cX3_start 35 = .ok (.aload_n 0, 1) := by decide +kernel
theorem dX3_start_36 : decode cX3_start 36 = .ok (.getfield 15, 3) := by decide +kernel
theorem dX3_start_39 : decode cX3_start 39 = .ok (.iload 4, 2) := by decide +kernel
theorem dX3_start_41 : decode cX3_start 41 = .ok (.iload_n 2, 1) := by decide +kernel
theorem dX3_start_42 : decode cX3_start 42 = .ok (.iastore, 1) := by decide +kernel
theorem dX3_start_43 : decode cX3_start 43 = .ok (.iinc 3 1, 3) := by decide +kernel
theorem dX3_start_46 : decode cX3_start 46 = .ok (.iinc 4 1, 3) := by decide +kernel
theorem dX3_start_49 : decode cX3_start 49 = .ok (.goto (-44), 3) := by decide +kernel
theorem dX3_start_52 : decode cX3_start 52 = .ok (.iload_n 3, 1) := by decide +kernel
theorem dX3_start_53 : decode cX3_start 53 = .ok (.ireturn, 1) := by decide +kernel
set_option maxRecDepth 20000 in
theorem ggX3_shed_X3_turnHighest : GoodIn wsX3_shed wsX3_turnHighest := goodIn_r _ [5, 6, 7, 8, 9] rfl (by decide +kernel)
set_option maxRecDepth 20000 in
theorem gX3_shed_X3_turnHighest : GoodIn wsX3_shed (wsV RX3 26 RX3 yX3_turnHighest wsX3_turnHighest) := goodIn_app (goodIn_of _ (by decide +kernel)) ggX3_shed_X3_turnHighest
theorem dX3_shed_0 : decode cX3_shed 0 = .ok (.aload_n 0, 1) := by decide +kernel
theorem dX3_shed_1 : decode cX3_shed 1 = .ok (.iconst 1, 1) := by decide +kernel
theorem dX3_shed_2 : decode cX3_shed 2 = .ok (.iconst 0, 1) := by decide +kernel
theorem dX3_shed_3 : decode cX3_shed 3 = .ok (.iload_n 1, 1) := by decide +kernel
theorem dX3_shed_4 : decode cX3_shed 4 = .ok (.iload_n 2, 1) := by decide +kernel
theorem dX3_shed_5 : decode cX3_shed 5 = .ok (.invokevirtual 26, 3) := by decide +kernel
theorem dX3_shed_8 : decode cX3_shed 8 = .ok (.istore_n 3, 1) := by decide +kernel
theorem dX3_shed_9 : decode cX3_shed 9 = .ok (.iload_n 3, 1) := by decide +kernel
theorem dX3_shed_10 : decode cX3_shed 10 = .ok (.aload_n 0, 1) := by decide +kernel
theorem dX3_shed_11 : decode cX3_shed 11 = .ok (.iconst 2, 1) := by decide +kernel
theorem dX3_shed_12 : decode cX3_shed 12 = .ok (.iconst 3, 1) := by decide +kernel
theorem dX3_shed_13 : decode cX3_shed 13 = .ok (.iload_n 1, 1) := by decide +kernel
theorem dX3_shed_14 : decode cX3_shed 14 = .ok (.iload_n 3, 1) := by decide +kernel
theorem dX3_shed_15 : decode cX3_shed 15 = .ok (.isub, 1) := by decide +kernel
theorem dX3_shed_16 : decode cX3_shed 16 = .ok (.iload_n 2, 1) := by decide +kernel
theorem dX3_shed_17 : decode cX3_shed 17 = .ok (.invokevirtual 26, 3) := by decide +kernel
theorem dX3_shed_20 : decode cX3_shed 20 = .ok (.iadd, 1) := by decide +kernel
theorem dX3_shed_21 : decode cX3_shed 21 = .ok (.ireturn, 1) := by decide +kernel
theorem dX3_turnHighest_0 : decode cX3_turnHighest 0 = .ok (.iconst 0, 1) := by decide +kernel
theorem dX3_turnHighest_1 : decode cX3_turnHighest 1 = .ok (.istore 5, 2) := by decide +kernel
theorem dX3_turnHighest_3 : decode cX3_turnHighest 3 = .ok (.bipush 11, 2) := by decide +kernel
theorem dX3_turnHighest_5 : decode cX3_turnHighest 5 = .ok (.istore 6, 2) := by decide +kernel
theorem dX3_turnHighest_7 : decode cX3_turnHighest 7 = .ok (.iload 6, 2) := by decide +kernel
theorem dX3_turnHighest_9 : decode cX3_turnHighest 9 = .ok (.ifCond .lt 46, 3) := by decide +kernel
theorem dX3_turnHighest_12 : decode cX3_turnHighest 12 = .ok (.iload 5, 2) := by decide +kernel
theorem dX3_turnHighest_14 : decode cX3_turnHighest 14 = .ok (.iload_n 3, 1) := by decide +kernel
theorem dX3_turnHighest_15 : decode cX3_turnHighest 15 = .ok (.if_icmp .ge 40, 3) := by decide +kernel
theorem dX3_turnHighest_18 : decode cX3_turnHighest 18 = .ok (.aload_n 0, 1) := by decide +kernel
theorem dX3_turnHighest_19 : decode cX3_turnHighest 19 = .ok (.getfield 9, 3) := by decide +kernel
theorem dX3_turnHighest_22 : decode cX3_turnHighest 22 = .ok (.iload 6, 2) := by decide +kernel
theorem dX3_turnHighest_24 : decode cX3_turnHighest 24 = .ok (.iaload, 1) := by decide +kernel
theorem dX3_turnHighest_25 : decode cX3_turnHighest 25 = .ok (.iload_n 1, 1) := by decide +kernel
theorem dX3_turnHighest_26 : decode cX3_turnHighest 26 = .ok (.if_icmp .ne 23, 3) := by decide +kernel
theorem dX3_turnHighest_29 : decode cX3_turnHighest 29 = .ok (.aload_n 0, 1) := by decide +kernel
theorem dX3_turnHighest_30 : decode cX3_turnHighest 30 = .ok (.getfield 9, 3) := by decide +kernel
theorem dX3_turnHighest_33 : decode cX3_turnHighest 33 = .ok (.iload 6, 2) := by decide +kernel
theorem dX3_turnHighest_35 : decode cX3_turnHighest 35 = .ok (.iload_n 2, 1) := by decide +kernel
theorem dX3_turnHighest_36 : decode cX3_turnHighest 36 = .ok (.iastore, 1) := by decide +kernel
theorem dX3_turnHighest_37 : decode cX3_turnHighest 37 = .ok (.aload_n 0, 1) := by decide +kernel
theorem dX3_turnHighest_38 : decode cX3_turnHighest 38 = .ok (.getfield 15, 3) := by decide +kernel
theorem dX3_turnHighest_41 : decode cX3_turnHighest 41 = .ok (.iload 6, 2) := by decide +kernel
theorem dX3_turnHighest_43 : decode cX3_turnHighest 43 = .ok (.iload 4, 2) := by decide +kernel
theorem dX3_turnHighest_45 : decode cX3_turnHighest 45 = .ok (.iastore, 1) := by decide +kernel
theorem dX3_turnHighest_46 : decode cX3_turnHighest 46 = .ok (.iinc 5 1, 3) := by decide +kernel
theorem dX3_turnHighest_49 : decode cX3_turnHighest 49 = .ok (.iinc 6 (-1), 3) := by decide +kernel
theorem dX3_turnHighest_52 : decode cX3_turnHighest 52 = .ok (.goto (-45), 3) := by decide +kernel
theorem dX3_turnHighest_55 : decode cX3_turnHighest 55 = .ok (.iload 5, 2) := by decide +kernel
theorem dX3_turnHighest_57 : decode cX3_turnHighest 57 = .ok (.ireturn, 1) := by decide +kernel
set_option maxRecDepth 20000 in
theorem ggX3_endWarming_X3_endThose : GoodIn wsX3_endWarming wsX3_endThose := goodIn_r _ [5, 6, 7, 8, 9] rfl (by decide +kernel)
set_option maxRecDepth 20000 in
theorem gX3_endWarming_X3_endThose : GoodIn wsX3_endWarming (wsV RX3 30 RX3 yX3_endThose wsX3_endThose) := goodIn_app (goodIn_of _ (by decide +kernel)) ggX3_endWarming_X3_endThose
theorem dX3_endWarming_0 : decode cX3_endWarming 0 = .ok (.aload_n 0, 1) := by decide +kernel
theorem dX3_endWarming_1 : decode cX3_endWarming 1 = .ok (.iconst 1, 1) := by decide +kernel
theorem dX3_endWarming_2 : decode cX3_endWarming 2 = .ok (.iconst 2, 1) := by decide +kernel
theorem dX3_endWarming_3 : decode cX3_endWarming 3 = .ok (.iload_n 1, 1) := by decide +kernel
theorem dX3_endWarming_4 : decode cX3_endWarming 4 = .ok (.invokevirtual 30, 3) := by decide +kernel
theorem dX3_endWarming_7 : decode cX3_endWarming 7 = .ok (.return_, 1) := by decide +kernel
set_option maxRecDepth 20000 in
theorem ggX3_endDraining_X3_endThose : GoodIn wsX3_endDraining wsX3_endThose := goodIn_r _ [5, 6, 7, 8, 9] rfl (by decide +kernel)
set_option maxRecDepth 20000 in
theorem gX3_endDraining_X3_endThose : GoodIn wsX3_endDraining (wsV RX3 30 RX3 yX3_endThose wsX3_endThose) := goodIn_app (goodIn_of _ (by decide +kernel)) ggX3_endDraining_X3_endThose
theorem dX3_endDraining_0 : decode cX3_endDraining 0 = .ok (.aload_n 0, 1) := by decide +kernel
theorem dX3_endDraining_1 : decode cX3_endDraining 1 = .ok (.iconst 3, 1) := by decide +kernel
theorem dX3_endDraining_2 : decode cX3_endDraining 2 = .ok (.iconst 0, 1) := by decide +kernel
theorem dX3_endDraining_3 : decode cX3_endDraining 3 = .ok (.iload_n 1, 1) := by decide +kernel
theorem dX3_endDraining_4 : decode cX3_endDraining 4 = .ok (.invokevirtual 30, 3) := by decide +kernel
theorem dX3_endDraining_7 : decode cX3_endDraining 7 = .ok (.return_, 1) := by decide +kernel
theorem dX3_endThose_0 : decode cX3_endThose 0 = .ok (.iconst 0, 1) := by decide +kernel
theorem dX3_endThose_1 : decode cX3_endThose 1 = .ok (.istore 4, 2) := by decide +kernel
theorem dX3_endThose_3 : decode cX3_endThose 3 = .ok (.iload 4, 2) := by decide +kernel
theorem dX3_endThose_5 : decode cX3_endThose 5 = .ok (.bipush 12, 2) := by decide +kernel
theorem dX3_endThose_7 : decode cX3_endThose 7 = .ok (.if_icmp .ge 39, 3) := by decide +kernel
theorem dX3_endThose_10 : decode cX3_endThose 10 = .ok (.aload_n 0, 1) := by decide +kernel
theorem dX3_endThose_11 : decode cX3_endThose 11 = .ok (.getfield 9, 3) := by decide +kernel
theorem dX3_endThose_14 : decode cX3_endThose 14 = .ok (.iload 4, 2) := by decide +kernel
theorem dX3_endThose_16 : decode cX3_endThose 16 = .ok (.iaload, 1) := by decide +kernel
theorem dX3_endThose_17 : decode cX3_endThose 17 = .ok (.iload_n 1, 1) := by decide +kernel
theorem dX3_endThose_18 : decode cX3_endThose 18 = .ok (.if_icmp .ne 22, 3) := by decide +kernel
theorem dX3_endThose_21 : decode cX3_endThose 21 = .ok (.aload_n 0, 1) := by decide +kernel
theorem dX3_endThose_22 : decode cX3_endThose 22 = .ok (.getfield 15, 3) := by decide +kernel
theorem dX3_endThose_25 : decode cX3_endThose 25 = .ok (.iload 4, 2) := by decide +kernel
theorem dX3_endThose_27 : decode cX3_endThose 27 = .ok (.iaload, 1) := by decide +kernel
theorem dX3_endThose_28 : decode cX3_endThose 28 = .ok (.iload_n 3, 1) := by decide +kernel
theorem dX3_endThose_29 : decode cX3_endThose 29 = .ok (.if_icmp .gt 11, 3) := by decide +kernel
theorem dX3_endThose_32 : decode cX3_endThose 32 = .ok (.aload_n 0, 1) := by decide +kernel
theorem dX3_endThose_33 : decode cX3_endThose 33 = .ok (.getfield 9, 3) := by decide +kernel
theorem dX3_endThose_36 : decode cX3_endThose 36 = .ok (.iload 4, 2) := by decide +kernel
theorem dX3_endThose_38 : decode cX3_endThose 38 = .ok (.iload_n 2, 1) := by decide +kernel
theorem dX3_endThose_39 : decode cX3_endThose 39 = .ok (.iastore, 1) := by decide +kernel
theorem dX3_endThose_40 : decode cX3_endThose 40 = .ok (.iinc 4 1, 3) := by decide +kernel
theorem dX3_endThose_43 : decode cX3_endThose 43 = .ok (.goto (-40), 3) := by decide +kernel
theorem dX3_endThose_46 : decode cX3_endThose 46 = .ok (.return_, 1) := by decide +kernel
theorem dX3_cost_0 : decode cX3_cost 0 = .ok (.iconst 0, 1) := by decide +kernel
theorem dX3_cost_1 : decode cX3_cost 1 = .ok (.istore_n 3, 1) := by decide +kernel
theorem dX3_cost_2 : decode cX3_cost 2 = .ok (.iconst 0, 1) := by decide +kernel
theorem dX3_cost_3 : decode cX3_cost 3 = .ok (.istore 4, 2) := by decide +kernel
theorem dX3_cost_5 : decode cX3_cost 5 = .ok (.iload 4, 2) := by decide +kernel
theorem dX3_cost_7 : decode cX3_cost 7 = .ok (.bipush 12, 2) := by decide +kernel
theorem dX3_cost_9 : decode cX3_cost 9 = .ok (.if_icmp .ge 34, 3) := by decide +kernel
theorem dX3_cost_12 : decode cX3_cost 12 = .ok (.aload_n 0, 1) := by decide +kernel
theorem dX3_cost_13 : decode cX3_cost 13 = .ok (.getfield 9, 3) := by decide +kernel
theorem dX3_cost_16 : decode cX3_cost 16 = .ok (.iload 4, 2) := by decide +kernel
theorem dX3_cost_18 : decode cX3_cost 18 = .ok (.iaload, 1) := by decide +kernel
theorem dX3_cost_19 : decode cX3_cost 19 = .ok (.ifCond .eq 18, 3) := by decide +kernel
theorem dX3_cost_22 : decode cX3_cost 22 = .ok (.iload_n 3, 1) := by decide +kernel
theorem dX3_cost_23 : decode cX3_cost 23 = .ok (.iload 4, 2) := by decide +kernel
theorem dX3_cost_25 : decode cX3_cost 25 = .ok (.bipush 8, 2) := by decide +kernel
theorem dX3_cost_27 : decode cX3_cost 27 = .ok (.if_icmp .ge 7, 3) := by decide +kernel
theorem dX3_cost_30 : decode cX3_cost 30 = .ok (.iload_n 1, 1) := by decide +kernel
theorem dX3_cost_31 : decode cX3_cost 31 = .ok (.goto 4, 3) := by decide +kernel
theorem dX3_cost_34 : decode cX3_cost 34 = .ok (.iload_n 2, 1) := by decide +kernel
theorem dX3_cost_35 : decode cX3_cost 35 = .ok (.iadd, 1) := by decide +kernel
theorem dX3_cost_36 : decode cX3_cost 36 = .ok (.istore_n 3, 1) := by decide +kernel
theorem dX3_cost_37 : decode cX3_cost 37 = .ok (.iinc 4 1, 3) := by decide +kernel
theorem dX3_cost_40 : decode cX3_cost 40 = .ok (.goto (-35), 3) := by decide +kernel
theorem dX3_cost_43 : decode cX3_cost 43 = .ok (.iload_n 3, 1) := by decide +kernel
theorem dX3_cost_44 : decode cX3_cost 44 = .ok (.ireturn, 1) := by decide +kernel
set_option maxRecDepth 20000 in
theorem ggX4_init_X3_init : GoodIn wsX4_init wsX3_init := goodIn_r _ [25, 26, 2, 3, 5, 27, 28, 85, 86] rfl (by decide +kernel)
set_option maxRecDepth 20000 in
theorem gX4_init_X3_init : GoodIn wsX4_init (wsX3_init) := ggX4_init_X3_init
set_option maxRecDepth 20000 in
theorem ggX4_init_X2_init : GoodIn wsX4_init wsX2_init := goodIn_r _ [31, 32, 2, 3, 5, 33, 34, 35, 36, 87, 88, 89, 90, 91, 92, 93, 94] rfl (by decide +kernel)
set_option maxRecDepth 20000 in
theorem gX4_init_X2_init : GoodIn wsX4_init (wsX2_init) := ggX4_init_X2_init
set_option maxRecDepth 20000 in
theorem ggX4_init_X1_init : GoodIn wsX4_init wsX1_init := goodIn_r _ [39, 40, 2, 3, 5, 41, 95, 96] rfl (by decide +kernel)
set_option maxRecDepth 20000 in
theorem gX4_init_X1_init : GoodIn wsX4_init (wsX1_init) := ggX4_init_X1_init
set_option maxRecDepth 20000 in
theorem ggX4_init_X4_begin : GoodIn wsX4_init wsX4_begin := goodIn_r _ [46, 12, 16, 20, 47, 48, 49, 50, 51, 52, 53, 54, 55, 56, 11, 57, 27, 58, 59, 60, 15, 61, 62, 63, 64, 65, 66, 67, 68, 19, 69, 70, 71, 72, 73, 74, 75, 76, 77, 78, 79, 80, 81, 82, 83, 84, 85, 86, 87, 88, 89, 90, 91, 92, 93, 94, 95, 96] rfl (by decide +kernel)
set_option maxRecDepth 20000 in
theorem gX4_init_X4_begin : GoodIn wsX4_init (wsV RX4 49 RX4 yX4_begin wsX4_begin) := goodIn_app (goodIn_of _ (by decide +kernel)) ggX4_init_X4_begin
theorem dX4_init_0 : decode cX4_init 0 = .ok (.aload_n 0, 1) := by decide +kernel
theorem dX4_init_1 : decode cX4_init 1 = .ok (.invokespecial 3, 3) := by decide +kernel
theorem dX4_init_4 : decode cX4_init 4 = .ok (.aload_n 0, 1) := by decide +kernel
theorem dX4_init_5 : decode cX4_init 5 = .ok (.aload_n 1, 1) := by decide +kernel
theorem dX4_init_6 : decode cX4_init 6 = .ok (.putfield 9, 3) := by decide +kernel
theorem dX4_init_9 : decode cX4_init 9 = .ok (.aload_n 0, 1) := by decide +kernel
theorem dX4_init_10 : decode cX4_init 10 = .ok (.sipush 200, 3) := by decide +kernel
theorem dX4_init_13 : decode cX4_init 13 = .ok (.newarray .int, 2) := by decide +kernel
theorem dX4_init_15 : decode cX4_init 15 = .ok (.putfield 15, 3) := by decide +kernel
theorem dX4_init_18 : decode cX4_init 18 = .ok (.aload_n 0, 1) := by decide +kernel
theorem dX4_init_19 : decode cX4_init 19 = .ok (.sipush 200, 3) := by decide +kernel
theorem dX4_init_22 : decode cX4_init 22 = .ok (.newarray .boolean, 2) := by decide +kernel
theorem dX4_init_24 : decode cX4_init 24 = .ok (.putfield 19, 3) := by decide +kernel
theorem dX4_init_27 : decode cX4_init 27 = .ok (.aload_n 0, 1) := by decide +kernel
theorem dX4_init_28 : decode cX4_init 28 = .ok (.new 23, 3) := by decide +kernel
theorem dX4_init_31 : decode cX4_init 31 = .ok (.dup, 1) := by decide +kernel
theorem dX4_init_32 : decode cX4_init 32 = .ok (.invokespecial 25, 3) := by decide +kernel
theorem dX4_init_35 : decode cX4_init 35 = .ok (.putfield 26, 3) := by decide +kernel
theorem dX4_init_38 : decode cX4_init 38 = .ok (.aload_n 0, 1) := by decide +kernel
theorem dX4_init_39 : decode cX4_init 39 = .ok (.new 30, 3) := by decide +kernel
theorem dX4_init_42 : decode cX4_init 42 = .ok (.dup, 1) := by decide +kernel
theorem dX4_init_43 : decode cX4_init 43 = .ok (.invokespecial 32, 3) := by decide +kernel
theorem dX4_init_46 : decode cX4_init 46 = .ok (.putfield 33, 3) := by decide +kernel
theorem dX4_init_49 : decode cX4_init 49 = .ok (.aload_n 0, 1) := by decide +kernel
theorem dX4_init_50 : decode cX4_init 50 = .ok (.new 37, 3) := by decide +kernel
theorem dX4_init_53 : decode cX4_init 53 = .ok (.dup, 1) := by decide +kernel
theorem dX4_init_54 : decode cX4_init 54 = .ok (.invokespecial 39, 3) := by decide +kernel
theorem dX4_init_57 : decode cX4_init 57 = .ok (.putfield 40, 3) := by decide +kernel
theorem dX4_init_60 : decode cX4_init 60 = .ok (.aload_n 0, 1) := by decide +kernel
theorem dX4_init_61 : decode cX4_init 61 = .ok (.bipush 6, 2) := by decide +kernel
theorem dX4_init_63 : decode cX4_init 63 = .ok (.sipush 200, 3) := by decide +kernel
theorem dX4_init_66 : decode cX4_init 66 = .ok (.multianewarray 44 2, 4) := by decide +kernel
theorem dX4_init_70 : decode cX4_init 70 = .ok (.putfield 46, 3) := by decide +kernel
theorem dX4_init_73 : decode cX4_init 73 = .ok (.aload_n 0, 1) := by decide +kernel
theorem dX4_init_74 : decode cX4_init 74 = .ok (.invokevirtual 49, 3) := by decide +kernel
theorem dX4_init_77 : decode cX4_init 77 = .ok (.return_, 1) := by decide +kernel
set_option maxRecDepth 20000 in
theorem ggX4_begin_X3_begin : GoodIn wsX4_begin wsX3_begin := goodIn_r _ [15, 16, 46, 47] rfl (by decide +kernel)
set_option maxRecDepth 20000 in
theorem gX4_begin_X3_begin : GoodIn wsX4_begin (wsV RX4 52 RX3 yX3_begin wsX3_begin) := goodIn_app (goodIn_of _ (by decide +kernel)) ggX4_begin_X3_begin
set_option maxRecDepth 20000 in
theorem ggX4_begin_X2_begin : GoodIn wsX4_begin wsX2_begin := goodIn_r _ [21, 22, 23, 24, 25, 48, 49, 50, 51, 52, 53, 54, 55] rfl (by decide +kernel)
set_option maxRecDepth 20000 in
theorem gX4_begin_X2_begin : GoodIn wsX4_begin (wsV RX4 53 RX2 yX2_begin wsX2_begin) := goodIn_app (goodIn_of _ (by decide +kernel)) ggX4_begin_X2_begin
set_option maxRecDepth 20000 in
theorem ggX4_begin_X1_begin : GoodIn wsX4_begin wsX1_begin := goodIn_r _ [30, 31, 56, 57] rfl (by decide +kernel)
set_option maxRecDepth 20000 in
theorem gX4_begin_X1_begin : GoodIn wsX4_begin (wsV RX4 54 RX1 yX1_begin wsX1_begin) := goodIn_app (goodIn_of _ (by decide +kernel)) ggX4_begin_X1_begin
theorem dX4_begin_0 : decode cX4_begin 0 = .ok (.aload_n 0, 1) := by decide +kernel
theorem dX4_begin_1 : decode cX4_begin 1 = .ok (.getfield 26, 3) := by decide +kernel
theorem dX4_begin_4 : decode cX4_begin 4 = .ok (.invokevirtual 52, 3) := by decide +kernel
theorem dX4_begin_7 : decode cX4_begin 7 = .ok (.aload_n 0, 1) := by decide +kernel
theorem dX4_begin_8 : decode cX4_begin 8 = .ok (.getfield 33, 3) := by decide +kernel
theorem dX4_begin_11 : decode cX4_begin 11 = .ok (.invokevirtual 53, 3) := by decide +kernel
theorem dX4_begin_14 : decode cX4_begin 14 = .ok (.aload_n 0, 1) := by decide +kernel
theorem dX4_begin_15 : decode cX4_begin 15 = .ok (.getfield 40, 3) := by decide +kernel
theorem dX4_begin_18 : decode cX4_begin 18 = .ok (.invokevirtual 54, 3) := by decide +kernel
theorem dX4_begin_21 : decode cX4_begin 21 = .ok (.aload_n 0, 1) := by decide +kernel
theorem dX4_begin_22 : decode cX4_begin 22 = .ok (.iconst 0, 1) := by decide +kernel
theorem dX4_begin_23 : decode cX4_begin 23 = .ok (.putfield 55, 3) := by decide +kernel
theorem dX4_begin_26 : decode cX4_begin 26 = .ok (.aload_n 0, 1) := by decide +kernel
theorem dX4_begin_27 : decode cX4_begin 27 = .ok (.iconst (-1), 1) := by decide +kernel
theorem dX4_begin_28 : decode cX4_begin 28 = .ok (.putfield 59, 3) := by decide +kernel
theorem dX4_begin_31 : decode cX4_begin 31 = .ok (.aload_n 0, 1) := by decide +kernel
theorem dX4_begin_32 : decode cX4_begin 32 = .ok (.iconst (-1), 1) := by decide +kernel
theorem dX4_begin_33 : decode cX4_begin 33 = .ok (.putfield 62, 3) := by decide +kernel
theorem dX4_begin_36 : decode cX4_begin 36 = .ok (.aload_n 0, 1) := by decide +kernel
theorem dX4_begin_37 : decode cX4_begin 37 = .ok (.iconst 0, 1) := by decide +kernel
theorem dX4_begin_38 : decode cX4_begin 38 = .ok (.putfield 65, 3) := by decide +kernel
theorem dX4_begin_41 : decode cX4_begin 41 = .ok (.aload_n 0, 1) := by decide +kernel
theorem dX4_begin_42 : decode cX4_begin 42 = .ok (.iconst 0, 1) := by decide +kernel
theorem dX4_begin_43 : decode cX4_begin 43 = .ok (.putfield 68, 3) := by decide +kernel
theorem dX4_begin_46 : decode cX4_begin 46 = .ok (.aload_n 0, 1) := by decide +kernel
theorem dX4_begin_47 : decode cX4_begin 47 = .ok (.iconst 0, 1) := by decide +kernel
theorem dX4_begin_48 : decode cX4_begin 48 = .ok (.putfield 71, 3) := by decide +kernel
theorem dX4_begin_51 : decode cX4_begin 51 = .ok (.aload_n 0, 1) := by decide +kernel
theorem dX4_begin_52 : decode cX4_begin 52 = .ok (.iconst 0, 1) := by decide +kernel
theorem dX4_begin_53 : decode cX4_begin 53 = .ok (.putfield 74, 3) := by decide +kernel
theorem dX4_begin_56 : decode cX4_begin 56 = .ok (.return_, 1) := by decide +kernel
set_option maxRecDepth 20000 in
theorem ggX4_loadOf_X6_within : GoodIn wsX4_loadOf wsX6_within := goodIn_r _ [4] rfl (by decide +kernel)
set_option maxRecDepth 20000 in
theorem gX4_loadOf_X6_within_n77 : GoodIn wsX4_loadOf (wsX6_within) := ggX4_loadOf_X6_within
theorem dX4_loadOf_0 : decode cX4_loadOf 0 = .ok (.iload_n 1, 1) := by decide +kernel
theorem dX4_loadOf_1 : decode cX4_loadOf 1 = .ok (.iconst 0, 1) := by decide +kernel
theorem dX4_loadOf_2 : decode cX4_loadOf 2 = .ok (.sipush 199, 3) := by decide +kernel
theorem dX4_loadOf_5 : decode cX4_loadOf 5 = .ok (.invokestatic 77, 3) := by decide +kernel
theorem dX4_loadOf_8 : decode cX4_loadOf 8 = .ok (.ifCond .eq 12, 3) := by decide +kernel
theorem dX4_loadOf_11 : decode cX4_loadOf 11 = .ok (.aload_n 0, 1) := by decide +kernel
theorem dX4_loadOf_12 : decode cX4_loadOf 12 = .ok (.getfield 15, 3) := by decide +kernel
theorem dX4_loadOf_15 : decode cX4_loadOf 15 = .ok (.iload_n 1, 1) := by decide +kernel
theorem dX4_loadOf_16 : decode cX4_loadOf 16 = .ok (.iaload, 1) := by decide +kernel
theorem dX4_loadOf_17 : decode cX4_loadOf 17 = .ok (.goto 4, 3) := by decide +kernel
theorem dX4_loadOf_20 : decode cX4_loadOf 20 = .ok (.iconst 0, 1) := by decide +kernel
theorem dX4_loadOf_21 : decode cX4_loadOf 21 = .ok (.ireturn, 1) := by decide +kernel
set_option maxRecDepth 20000 in
theorem ggX4_changeLoad_X6_within : GoodIn wsX4_changeLoad wsX6_within := goodIn_r _ [4] rfl (by decide +kernel)
set_option maxRecDepth 20000 in
theorem gX4_changeLoad_X6_within_n77 : GoodIn wsX4_changeLoad (wsX6_within) := ggX4_changeLoad_X6_within
theorem dX4_changeLoad_0 : decode cX4_changeLoad 0 = .ok (.iload_n 1, 1) := by decide +kernel
theorem dX4_changeLoad_1 : decode cX4_changeLoad 1 = .ok (.iconst 0, 1) := by decide +kernel
theorem dX4_changeLoad_2 : decode cX4_changeLoad 2 = .ok (.sipush 199, 3) := by decide +kernel
theorem dX4_changeLoad_5 : decode cX4_changeLoad 5 = .ok (.invokestatic 77, 3) := by decide +kernel
theorem dX4_changeLoad_8 : decode cX4_changeLoad 8 = .ok (.ifCond .ne 7, 3) := by decide +kernel
theorem dX4_changeLoad_11 : decode cX4_changeLoad 11 = .ok (.sipush (-1002), 3) := by decide +kernel
theorem dX4_changeLoad_14 : decode cX4_changeLoad 14 = .ok (.ireturn, 1) := by decide +kernel
theorem dX4_changeLoad_15 : decode cX4_changeLoad 15 = .ok (.aload_n 0, 1) := by decide +kernel
theorem dX4_changeLoad_16 : decode cX4_changeLoad 16 = .ok (.getfield 15, 3) := by decide +kernel
theorem dX4_changeLoad_19 : decode cX4_changeLoad 19 = .ok (.iload_n 1, 1) := by decide +kernel
theorem dX4_changeLoad_20 : decode cX4_changeLoad 20 = .ok (.iaload, 1) := by decide +kernel
theorem dX4_changeLoad_21 : decode cX4_changeLoad 21 = .ok (.istore_n 3, 1) := by decide +kernel
theorem dX4_changeLoad_22 : decode cX4_changeLoad 22 = .ok (.aload_n 0, 1) := by decide +kernel
theorem dX4_changeLoad_23 : decode cX4_changeLoad 23 = .ok (.getfield 15, 3) := by decide +kernel
theorem dX4_changeLoad_26 : decode cX4_changeLoad 26 = .ok (.iload_n 1, 1) := by decide +kernel
theorem dX4_changeLoad_27 : decode cX4_changeLoad 27 = .ok (.iload_n 2, 1) := by decide +kernel
theorem dX4_changeLoad_28 : decode cX4_changeLoad 28 = .ok (.iastore, 1) := by decide +kernel
theorem dX4_changeLoad_29 : decode cX4_changeLoad 29 = .ok (.iload_n 3, 1) := by decide +kernel
theorem dX4_changeLoad_30 : decode cX4_changeLoad 30 = .ok (.ireturn, 1) := by decide +kernel
set_option maxRecDepth 20000 in
theorem ggX4_changeMeter_X6_within : GoodIn wsX4_changeMeter wsX6_within := goodIn_r _ [4] rfl (by decide +kernel)
set_option maxRecDepth 20000 in
theorem gX4_changeMeter_X6_within_n77 : GoodIn wsX4_changeMeter (wsX6_within) := ggX4_changeMeter_X6_within
theorem dX4_changeMeter_0 : decode cX4_changeMeter 0 = .ok (.iload_n 1, 1) := by decide +kernel
theorem dX4_changeMeter_1 : decode cX4_changeMeter 1 = .ok (.iconst 0, 1) := by decide +kernel
theorem dX4_changeMeter_2 : decode cX4_changeMeter 2 = .ok (.sipush 199, 3) := by decide +kernel
theorem dX4_changeMeter_5 : decode cX4_changeMeter 5 = .ok (.invokestatic 77, 3) := by decide +kernel
theorem dX4_changeMeter_8 : decode cX4_changeMeter 8 = .ok (.ifCond .ne 7, 3) := by decide +kernel
theorem dX4_changeMeter_11 : decode cX4_changeMeter 11 = .ok (.sipush (-1002), 3) := by decide +kernel
theorem dX4_changeMeter_14 : decode cX4_changeMeter 14 = .ok (.ireturn, 1) := by decide +kernel
theorem dX4_changeMeter_15 : decode cX4_changeMeter 15 = .ok (.aload_n 0, 1) := by decide +kernel
theorem dX4_changeMeter_16 : decode cX4_changeMeter 16 = .ok (.getfield 19, 3) := by decide +kernel
theorem dX4_changeMeter_19 : decode cX4_changeMeter 19 = .ok (.iload_n 1, 1) := by decide +kernel
theorem dX4_changeMeter_20 : decode cX4_changeMeter 20 = .ok (.baload, 1) := by decide +kernel
theorem dX4_changeMeter_21 : decode cX4_changeMeter 21 = .ok (.ifCond .eq 7, 3) := by decide +kernel
theorem dX4_changeMeter_24 : decode cX4_changeMeter 24 = .ok (.iconst 1, 1) := by decide +kernel
theorem dX4_changeMeter_25 : decode cX4_changeMeter 25 = .ok (.goto 4, 3) := by decide +kernel
theorem dX4_changeMeter_28 : decode cX4_changeMeter 28 = .ok (.iconst 0, 1) := by decide +kernel
theorem dX4_changeMeter_29 : decode cX4_changeMeter 29 = .ok (.istore_n 3, 1) := by decide +kernel
theorem dX4_changeMeter_30 : decode cX4_changeMeter 30 = .ok (.aload_n 0, 1) := by decide +kernel
theorem dX4_changeMeter_31 : decode cX4_changeMeter 31 = .ok (.getfield 19, 3) := by decide +kernel
theorem dX4_changeMeter_34 : decode cX4_changeMeter 34 = .ok (.iload_n 1, 1) := by decide +kernel
theorem dX4_changeMeter_35 : decode cX4_changeMeter 35 = .ok (.iload_n 2, 1) := by decide +kernel
theorem dX4_changeMeter_36 : decode cX4_changeMeter 36 = .ok (.bastore, 1) := by decide +kernel
theorem dX4_changeMeter_37 : decode cX4_changeMeter 37 = .ok (.iload_n 3, 1) := by decide +kernel
theorem dX4_changeMeter_38 : decode cX4_changeMeter 38 = .ok (.ireturn, 1) := by decide +kernel
set_option maxRecDepth 20000 in
theorem ggX4_run_X4_step : GoodIn wsX4_run wsX4_step := goodIn_r _ [5, 6, 7, 8, 9, 10, 11, 12, 13, 14, 15, 16, 17, 18, 19, 20, 21, 22, 23, 24, 25, 26, 27, 28, 29, 30, 31, 32, 33, 34, 35, 36, 37, 38, 39, 40, 41, 42, 43, 44, 45, 46, 47, 48, 49, 50, 51, 52, 53, 54, 55, 56, 57, 58, 59, 60, 61, 62, 63, 64, 65, 66, 4, 67, 68, 69, 70, 71, 72, 73, 74, 75, 76, 77, 78, 79, 80, 81, 82, 83, 84, 85, 86, 87, 88, 89, 90, 91, 92, 93, 94, 95, 96, 97, 98, 99, 100, 101, 102, 103, 104, 105, 106, 107, 108, 109, 110, 111, 112, 113, 114, 115, 116, 117, 118, 119, 120, 121, 122, 123, 124, 125, 126, 127, 128, 129, 130, 131, 132, 133, 134, 135, 136, 137, 138, 139, 140, 141, 142, 143, 144, 145, 146, 147, 148, 149, 150, 151, 152, 153, 154, 155, 156, 157, 158, 159, 160, 161, 162, 163, 164, 165, 166, 167, 168, 169, 170, 171, 172, 173, 174, 175] rfl (by decide +kernel)
set_option maxRecDepth 20000 in
theorem gX4_run_X4_step : GoodIn wsX4_run (wsV RX4 81 RX4 yX4_step wsX4_step) := goodIn_app (goodIn_of _ (by decide +kernel)) ggX4_run_X4_step
theorem dX4_run_0 : decode cX4_run 0 = .ok (.iconst 0, 1) := by decide +kernel
theorem dX4_run_1 : decode cX4_run 1 = .ok (.istore_n 2, 1) := by decide +kernel
theorem dX4_run_2 : decode cX4_run 2 = .ok (.iload_n 2, 1) := by decide +kernel
theorem dX4_run_3 : decode cX4_run 3 = .ok (.iload_n 1, 1) := by decide +kernel
theorem dX4_run_4 : decode cX4_run 4 = .ok (.if_icmp .ge 13, 3) := by decide +kernel
theorem dX4_run_7 : decode cX4_run 7 = .ok (.aload_n 0, 1) := by decide +kernel
theorem dX4_run_8 : decode cX4_run 8 = .ok (.invokevirtual 81, 3) := by decide +kernel
theorem dX4_run_11 : decode cX4_run 11 = .ok (.iinc 2 1, 3) := by decide +kernel
theorem dX4_run_14 : decode cX4_run 14 = .ok (.goto (-12), 3) := by decide +kernel
theorem dX4_run_17 : decode cX4_run 17 = .ok (.return_, 1) := by decide +kernel
set_option maxRecDepth 20000 in
theorem ggX4_step_X6_within : GoodIn wsX4_step wsX6_within := goodIn_r _ [16] rfl (by decide +kernel)
set_option maxRecDepth 20000 in
theorem gX4_step_X6_within_n77 : GoodIn wsX4_step (wsX6_within) := ggX4_step_X6_within
set_option maxRecDepth 20000 in
theorem ggX4_step_X2_come : GoodIn wsX4_step wsX2_come := goodIn_r _ [21, 22, 23, 24, 25, 26, 14, 15, 16, 27, 28, 29, 20, 30, 31, 32, 33, 34, 35, 36, 37, 158, 159, 160, 161, 162, 163, 164, 165] rfl (by decide +kernel)
set_option maxRecDepth 20000 in
theorem gX4_step_X2_come : GoodIn wsX4_step (wsV RX4 84 RX2 yX2_come wsX2_come) := goodIn_app (goodIn_of _ (by decide +kernel)) ggX4_step_X2_come
set_option maxRecDepth 20000 in
theorem ggX4_step_X1_note : GoodIn wsX4_step wsX1_note := goodIn_r _ [42, 43, 14, 15, 16, 166, 167] rfl (by decide +kernel)
set_option maxRecDepth 20000 in
theorem gX4_step_X1_note : GoodIn wsX4_step (wsV RX4 91 RX1 yX1_note wsX1_note) := goodIn_app (goodIn_of _ (by decide +kernel)) ggX4_step_X1_note
set_option maxRecDepth 20000 in
theorem ggX4_step_X5_value : GoodIn wsX4_step wsX5_value := goodIn_r _ [48, 49, 14, 15, 16, 168, 169] rfl (by decide +kernel)
set_option maxRecDepth 20000 in
theorem gX4_step_X5_value : GoodIn wsX4_step (wsV RX4 96 RX5 yX5_value wsX5_value) := goodIn_app (goodIn_of _ (by decide +kernel)) ggX4_step_X5_value
set_option maxRecDepth 20000 in
theorem ggX4_step_X1_read : GoodIn wsX4_step wsX1_read := goodIn_r _ [53, 54, 55, 56, 57, 43, 58, 166, 167] rfl (by decide +kernel)
set_option maxRecDepth 20000 in
theorem gX4_step_X1_read : GoodIn wsX4_step (wsV RX4 100 RX1 yX1_read wsX1_read) := goodIn_app (goodIn_of _ (by decide +kernel)) ggX4_step_X1_read
set_option maxRecDepth 20000 in
theorem ggX4_step_X4_wantedByRule : GoodIn wsX4_step wsX4_wantedByRule := goodIn_r _ [63, 6, 64, 55, 56, 57, 4, 8, 44, 45, 46, 47, 48, 49, 14, 15, 16, 65, 66, 67, 68, 69, 70, 71, 72, 73, 74, 144, 145, 146, 147, 148, 149, 150, 151, 152, 153, 154, 155, 156, 157, 166, 167, 168, 169, 170, 171] rfl (by decide +kernel)
set_option maxRecDepth 20000 in
theorem gX4_step_X4_wantedByRule : GoodIn wsX4_step (wsV RX4 103 RX4 yX4_wantedByRule wsX4_wantedByRule) := goodIn_app (goodIn_of _ (by decide +kernel)) ggX4_step_X4_wantedByRule
set_option maxRecDepth 20000 in
theorem ggX4_step_X5_bounded : GoodIn wsX4_step wsX5_bounded := goodIn_r _ [78, 79, 49, 80, 55, 56, 57, 81, 82, 83, 84, 35, 36, 37, 168, 169] rfl (by decide +kernel)
set_option maxRecDepth 20000 in
theorem gX4_step_X5_bounded : GoodIn wsX4_step (wsV RX4 107 RX5 yX5_bounded wsX5_bounded) := goodIn_app (goodIn_of _ (by decide +kernel)) ggX4_step_X5_bounded
set_option maxRecDepth 20000 in
theorem ggX4_step_X4_makeChanges : GoodIn wsX4_step wsX4_makeChanges := goodIn_r _ [88, 8, 6, 1, 64, 55, 56, 57, 7, 89, 65, 66, 67, 68, 69, 70, 71, 72, 73, 74, 90, 91, 92, 62, 93, 44, 45, 46, 47, 48, 49, 14, 15, 16, 75, 76, 77, 78, 79, 80, 81, 82, 83, 84, 35, 36, 37, 94, 95, 96, 97, 98, 99, 100, 101, 102, 103, 104, 105, 106, 144, 145, 146, 147, 148, 149, 150, 151, 152, 153, 154, 155, 156, 157, 170, 171, 168, 169] rfl (by decide +kernel)
set_option maxRecDepth 20000 in
theorem gX4_step_X4_makeChanges : GoodIn wsX4_step (wsV RX4 111 RX4 yX4_makeChanges wsX4_makeChanges) := goodIn_app (goodIn_of _ (by decide +kernel)) ggX4_step_X4_makeChanges
set_option maxRecDepth 20000 in
theorem ggX4_step_X3_endWarming : GoodIn wsX4_step wsX3_endWarming := goodIn_r _ [110, 111, 112, 113, 68, 114, 74, 98, 170, 171] rfl (by decide +kernel)
set_option maxRecDepth 20000 in
theorem gX4_step_X3_endWarming : GoodIn wsX4_step (wsV RX4 114 RX3 yX3_endWarming wsX3_endWarming) := goodIn_app (goodIn_of _ (by decide +kernel)) ggX4_step_X3_endWarming
set_option maxRecDepth 20000 in
theorem ggX4_step_X3_working : GoodIn wsX4_step wsX3_working := goodIn_r _ [118, 70, 71, 72, 68, 73, 74, 170, 171] rfl (by decide +kernel)
set_option maxRecDepth 20000 in
theorem gX4_step_X3_working : GoodIn wsX4_step (wsV RX4 118 RX3 yX3_working wsX3_working) := goodIn_app (goodIn_of _ (by decide +kernel)) ggX4_step_X3_working
set_option maxRecDepth 20000 in
theorem ggX4_step_X2_serve : GoodIn wsX4_step wsX2_serve := goodIn_r _ [122, 32, 24, 123, 82, 56, 83, 22, 124, 125, 126, 20, 127, 31, 33, 14, 15, 16, 34, 35, 36, 37, 128, 129, 130, 131, 158, 159, 160, 161, 162, 163, 164, 165] rfl (by decide +kernel)
set_option maxRecDepth 20000 in
theorem gX4_step_X2_serve : GoodIn wsX4_step (wsV RX4 121 RX2 yX2_serve wsX2_serve) := goodIn_app (goodIn_of _ (by decide +kernel)) ggX4_step_X2_serve
set_option maxRecDepth 20000 in
theorem ggX4_step_X3_cost : GoodIn wsX4_step wsX3_cost := goodIn_r _ [135, 74, 170, 171] rfl (by decide +kernel)
set_option maxRecDepth 20000 in
theorem gX4_step_X3_cost : GoodIn wsX4_step (wsV RX4 124 RX3 yX3_cost wsX3_cost) := goodIn_app (goodIn_of _ (by decide +kernel)) ggX4_step_X3_cost
set_option maxRecDepth 20000 in
theorem ggX4_step_X3_endDraining : GoodIn wsX4_step wsX3_endDraining := goodIn_r _ [139, 111, 112, 113, 68, 114, 74, 98, 170, 171] rfl (by decide +kernel)
set_option maxRecDepth 20000 in
theorem gX4_step_X3_endDraining : GoodIn wsX4_step (wsV RX4 127 RX3 yX3_endDraining wsX3_endDraining) := goodIn_app (goodIn_of _ (by decide +kernel)) ggX4_step_X3_endDraining
set_option maxRecDepth 20000 in
theorem ggX4_step_X2_leave : GoodIn wsX4_step wsX2_leave := goodIn_r _ [143, 32, 26, 22, 24, 25, 23, 124, 125, 126, 20, 127, 31, 33, 14, 15, 16, 34, 35, 36, 37, 128, 129, 130, 131, 27, 28, 29, 30, 158, 159, 160, 161, 162, 163, 164, 165] rfl (by decide +kernel)
set_option maxRecDepth 20000 in
theorem gX4_step_X2_leave : GoodIn wsX4_step (wsV RX4 130 RX2 yX2_leave wsX2_leave) := goodIn_app (goodIn_of _ (by decide +kernel)) ggX4_step_X2_leave
set_option maxRecDepth 20000 in
theorem ggX4_step_X3_up : GoodIn wsX4_step wsX3_up := goodIn_r _ [69, 70, 71, 72, 68, 73, 74, 170, 171] rfl (by decide +kernel)
set_option maxRecDepth 20000 in
theorem gX4_step_X3_up : GoodIn wsX4_step (wsV RX4 134 RX3 yX3_up wsX3_up) := goodIn_app (goodIn_of _ (by decide +kernel)) ggX4_step_X3_up
theorem dX4_step_0 : decode cX4_step 0 = .ok (.aload_n 0, 1) := by decide +kernel
theorem dX4_step_1 : decode cX4_step 1 = .ok (.getfield 55, 3) := by decide +kernel
theorem dX4_step_4 : decode cX4_step 4 = .ok (.iconst 0, 1) := by decide +kernel
theorem dX4_step_5 : decode cX4_step 5 = .ok (.sipush 199, 3) := by decide +kernel
theorem dX4_step_8 : decode cX4_step 8 = .ok (.invokestatic 77, 3) := by decide +kernel
theorem dX4_step_11 : decode cX4_step 11 = .ok (.ifCond .ne 4, 3) := by decide +kernel
theorem dX4_step_14 : decode cX4_step 14 = .ok (.return_, 1) := by decide +kernel
theorem dX4_step_15 : decode cX4_step 15 = .ok (.aload_n 0, 1) := by decide +kernel
theorem dX4_step_16 : decode cX4_step 16 = .ok (.getfield 33, 3) := by decide +kernel
theorem dX4_step_19 : decode cX4_step 19 = .ok (.aload_n 0, 1) := by decide +kernel
theorem dX4_step_20 : decode cX4_step 20 = .ok (.getfield 55, 3) := by decide +kernel
theorem dX4_step_23 : decode cX4_step 23 = .ok (.aload_n 0, 1) := by decide +kernel
theorem dX4_step_24 : decode cX4_step 24 = .ok (.getfield 15, 3) := by decide +kernel
theorem dX4_step_27 : decode cX4_step 27 = .ok (.aload_n 0, 1) := by decide +kernel
theorem dX4_step_28 : decode cX4_step 28 = .ok (.getfield 55, 3) := by decide +kernel
theorem dX4_step_31 : decode cX4_step 31 = .ok (.iaload, 1) := by decide +kernel
theorem dX4_step_32 : decode cX4_step 32 = .ok (.invokevirtual 84, 3) := by decide +kernel
theorem dX4_step_35 : decode cX4_step 35 = .ok (.aload_n 0, 1) := by decide +kernel
theorem dX4_step_36 : decode cX4_step 36 = .ok (.getfield 33, 3) := by decide +kernel
theorem dX4_step_39 : decode cX4_step 39 = .ok (.getfield 88, 3) := by decide +kernel
theorem dX4_step_42 : decode cX4_step 42 = .ok (.istore_n 1, 1) := by decide +kernel
theorem dX4_step_43 : decode cX4_step 43 = .ok (.aload_n 0, 1) := by decide +kernel
theorem dX4_step_44 : decode cX4_step 44 = .ok (.getfield 40, 3) := by decide +kernel
theorem dX4_step_47 : decode cX4_step 47 = .ok (.aload_n 0, 1) := by decide +kernel
theorem dX4_step_48 : decode cX4_step 48 = .ok (.getfield 55, 3) := by decide +kernel
theorem dX4_step_51 : decode cX4_step 51 = .ok (.aload_n 0, 1) := by decide +kernel
theorem dX4_step_52 : decode cX4_step 52 = .ok (.getfield 19, 3) := by decide +kernel
theorem dX4_step_55 : decode cX4_step 55 = .ok (.aload_n 0, 1) := by decide +kernel
theorem dX4_step_56 : decode cX4_step 56 = .ok (.getfield 55, 3) := by decide +kernel
theorem dX4_step_59 : decode cX4_step 59 = .ok (.baload, 1) := by decide +kernel
theorem dX4_step_60 : decode cX4_step 60 = .ok (.ifCond .eq 7, 3) := by decide +kernel
theorem dX4_step_63 : decode cX4_step 63 = .ok (.iconst (-1), 1) := by decide +kernel
theorem dX4_step_64 : decode cX4_step 64 = .ok (.goto 4, 3) := by decide +kernel
theorem dX4_step_67 : decode cX4_step 67 = .ok (.iload_n 1, 1) := by decide +kernel
theorem dX4_step_68 : decode cX4_step 68 = .ok (.invokevirtual 91, 3) := by decide +kernel
theorem dX4_step_71 : decode cX4_step 71 = .ok (.aload_n 0, 1) := by decide +kernel
theorem dX4_step_72 : decode cX4_step 72 = .ok (.getfield 40, 3) := by decide +kernel
theorem dX4_step_75 : decode cX4_step 75 = .ok (.aload_n 0, 1) := by decide +kernel
theorem dX4_step_76 : decode cX4_step 76 = .ok (.getfield 55, 3) := by decide +kernel
theorem dX4_step_79 : decode cX4_step 79 = .ok (.aload_n 0, 1) := by decide +kernel
theorem dX4_step_80 : decode cX4_step 80 = .ok (.getfield 9, 3) := by decide +kernel
theorem dX4_step_83 : decode cX4_step 83 = .ok (.iconst 5, 1) := by decide +kernel
theorem dX4_step_84 : decode cX4_step 84 = .ok (.invokevirtual 96, 3) := by decide +kernel
theorem dX4_step_87 : decode cX4_step 87 = .ok (.isub, 1) := by decide +kernel
theorem dX4_step_88 : decode cX4_step 88 = .ok (.aload_n 0, 1) := by decide +kernel
theorem dX4_step_89 : decode cX4_step 89 = .ok (.getfield 9, 3) := by decide +kernel
theorem dX4_step_92 : decode cX4_step 92 = .ok (.bipush 6, 2) := by decide +kernel
theorem dX4_step_94 : decode cX4_step 94 = .ok (.invokevirtual 96, 3) := by decide +kernel
theorem dX4_step_97 : decode cX4_step 97 = .ok (.invokevirtual 100, 3) := by decide +kernel
theorem dX4_step_100 : decode cX4_step 100 = .ok (.aload_n 0, 1) := by decide +kernel
theorem dX4_step_101 : decode cX4_step 101 = .ok (.aload_n 0, 1) := by decide +kernel
theorem dX4_step_102 : decode cX4_step 102 = .ok (.getfield 9, 3) := by decide +kernel
theorem dX4_step_105 : decode cX4_step 105 = .ok (.aload_n 0, 1) := by decide +kernel
theorem dX4_step_106 : decode cX4_step 106 = .ok (.invokevirtual 103, 3) := by decide +kernel
theorem dX4_step_109 : decode cX4_step 109 = .ok (.aload_n 0, 1) := by decide +kernel
theorem dX4_step_110 : decode cX4_step 110 = .ok (.getfield 55, 3) := by decide +kernel
theorem dX4_step_113 : decode cX4_step 113 = .ok (.invokevirtual 107, 3) := by decide +kernel
theorem dX4_step_116 : decode cX4_step 116 = .ok (.putfield 59, 3) := by decide +kernel
theorem dX4_step_119 : decode cX4_step 119 = .ok (.aload_n 0, 1) := by decide +kernel
theorem dX4_step_120 : decode cX4_step 120 = .ok (.invokevirtual 111, 3) := by decide +kernel
theorem dX4_step_123 : decode cX4_step 123 = .ok (.aload_n 0, 1) := by decide +kernel
theorem dX4_step_124 : decode cX4_step 124 = .ok (.getfield 26, 3) := by decide +kernel
theorem dX4_step_127 : decode cX4_step 127 = .ok (.aload_n 0, 1) := by decide +kernel
theorem dX4_step_128 : decode cX4_step 128 = .ok (.getfield 55, 3) := by decide +kernel
theorem dX4_step_131 : decode cX4_step 131 = .ok (.aload_n 0, 1) := by decide +kernel
theorem dX4_step_132 : decode cX4_step 132 = .ok (.getfield 9, 3) := by decide +kernel
theorem dX4_step_135 : decode cX4_step 135 = .ok (.iconst 0, 1) := by decide +kernel
theorem dX4_step_136 : decode cX4_step 136 = .ok (.invokevirtual 96, 3) := by decide +kernel
theorem dX4_step_139 : decode cX4_step 139 = .ok (.isub, 1) := by decide +kernel
theorem dX4_step_140 : decode cX4_step 140 = .ok (.invokevirtual 114, 3) := by decide +kernel
theorem dX4_step_143 : decode cX4_step 143 = .ok (.aload_n 0, 1) := by decide +kernel
theorem dX4_step_144 : decode cX4_step 144 = .ok (.getfield 33, 3) := by decide +kernel
theorem dX4_step_147 : decode cX4_step 147 = .ok (.aload_n 0, 1) := by decide +kernel
theorem dX4_step_148 : decode cX4_step 148 = .ok (.getfield 26, 3) := by decide +kernel
theorem dX4_step_151 : decode cX4_step 151 = .ok (.invokevirtual 118, 3) := by decide +kernel
theorem dX4_step_154 : decode cX4_step 154 = .ok (.aload_n 0, 1) := by decide +kernel
theorem dX4_step_155 : decode cX4_step 155 = .ok (.getfield 9, 3) := by decide +kernel
theorem dX4_step_158 : decode cX4_step 158 = .ok (.iconst 2, 1) := by decide +kernel
theorem dX4_step_159 : decode cX4_step 159 = .ok (.invokevirtual 96, 3) := by decide +kernel
theorem dX4_step_162 : decode cX4_step 162 = .ok (.imul, 1) := by decide +kernel
theorem dX4_step_163 : decode cX4_step 163 = .ok (.invokevirtual 121, 3) := by decide +kernel
theorem dX4_step_166 : decode cX4_step 166 = .ok (.istore_n 2, 1) := by decide +kernel
theorem dX4_step_167 : decode cX4_step 167 = .ok (.aload_n 0, 1) := by decide +kernel
theorem dX4_step_168 : decode cX4_step 168 = .ok (.getfield 26, 3) := by decide +kernel
theorem dX4_step_171 : decode cX4_step 171 = .ok (.aload_n 0, 1) := by decide +kernel
theorem dX4_step_172 : decode cX4_step 172 = .ok (.getfield 9, 3) := by decide +kernel
theorem dX4_step_175 : decode cX4_step 175 = .ok (.bipush 16, 2) := by decide +kernel
theorem dX4_step_177 : decode cX4_step 177 = .ok (.invokevirtual 96, 3) := by decide +kernel
theorem dX4_step_180 : decode cX4_step 180 = .ok (.aload_n 0, 1) := by decide +kernel
theorem dX4_step_181 : decode cX4_step 181 = .ok (.getfield 9, 3) := by decide +kernel
theorem dX4_step_184 : decode cX4_step 184 = .ok (.bipush 17, 2) := by decide +kernel
theorem dX4_step_186 : decode cX4_step 186 = .ok (.invokevirtual 96, 3) := by decide +kernel
theorem dX4_step_189 : decode cX4_step 189 = .ok (.invokevirtual 124, 3) := by decide +kernel
theorem dX4_step_192 : decode cX4_step 192 = .ok (.istore_n 3, 1) := by decide +kernel
theorem dX4_step_193 : decode cX4_step 193 = .ok (.aload_n 0, 1) := by decide +kernel
theorem dX4_step_194 : decode cX4_step 194 = .ok (.getfield 26, 3) := by decide +kernel
theorem dX4_step_197 : decode cX4_step 197 = .ok (.aload_n 0, 1) := by decide +kernel
theorem dX4_step_198 : decode cX4_step 198 = .ok (.getfield 55, 3) := by decide +kernel
theorem dX4_step_201 : decode cX4_step 201 = .ok (.aload_n 0, 1) := by decide +kernel
theorem dX4_step_202 : decode cX4_step 202 = .ok (.getfield 9, 3) := by decide +kernel
theorem dX4_step_205 : decode cX4_step 205 = .ok (.iconst 1, 1) := by decide +kernel
theorem dX4_step_206 : decode cX4_step 206 = .ok (.invokevirtual 96, 3) := by decide +kernel
theorem dX4_step_209 : decode cX4_step 209 = .ok (.isub, 1) := by decide +kernel
theorem dX4_step_210 : decode cX4_step 210 = .ok (.invokevirtual 127, 3) := by decide +kernel
theorem dX4_step_213 : decode cX4_step 213 = .ok (.aload_n 0, 1) := by decide +kernel
theorem dX4_step_214 : decode cX4_step 214 = .ok (.getfield 33, 3) := by decide +kernel
theorem dX4_step_217 : decode cX4_step 217 = .ok (.aload_n 0, 1) := by decide +kernel
theorem dX4_step_218 : decode cX4_step 218 = .ok (.getfield 55, 3) := by decide +kernel
theorem dX4_step_221 : decode cX4_step 221 = .ok (.aload_n 0, 1) := by decide +kernel
theorem dX4_step_222 : decode cX4_step 222 = .ok (.getfield 9, 3) := by decide +kernel
theorem dX4_step_225 : decode cX4_step 225 = .ok (.iconst 3, 1) := by decide +kernel
theorem dX4_step_226 : decode cX4_step 226 = .ok (.invokevirtual 96, 3) := by decide +kernel
theorem dX4_step_229 : decode cX4_step 229 = .ok (.aload_n 0, 1) := by decide +kernel
theorem dX4_step_230 : decode cX4_step 230 = .ok (.getfield 9, 3) := by decide +kernel
theorem dX4_step_233 : decode cX4_step 233 = .ok (.iconst 4, 1) := by decide +kernel
theorem dX4_step_234 : decode cX4_step 234 = .ok (.invokevirtual 96, 3) := by decide +kernel
theorem dX4_step_237 : decode cX4_step 237 = .ok (.invokevirtual 130, 3) := by decide +kernel
theorem dX4_step_240 : decode cX4_step 240 = .ok (.istore 4, 2) := by decide +kernel
theorem dX4_step_242 : decode cX4_step 242 = .ok (.iload_n 3, 1) := by decide +kernel
theorem dX4_step_243 : decode cX4_step 243 = .ok (.iload 4, 2) := by decide +kernel
theorem dX4_step_245 : decode cX4_step 245 = .ok (.aload_n 0, 1) := by decide +kernel
theorem dX4_step_246 : decode cX4_step 246 = .ok (.getfield 9, 3) := by decide +kernel
theorem dX4_step_249 : decode cX4_step 249 = .ok (.bipush 18, 2) := by decide +kernel
theorem dX4_step_251 : decode cX4_step 251 = .ok (.invokevirtual 96, 3) := by decide +kernel
theorem dX4_step_254 : decode cX4_step 254 = .ok (.imul, 1) := by decide +kernel
theorem dX4_step_255 : decode cX4_step 255 = .ok (.iadd, 1) := by decide +kernel
theorem dX4_step_256 : decode cX4_step 256 = .ok (.istore_n 3, 1) := by decide +kernel
theorem dX4_step_257 : decode cX4_step 257 = .ok (.aload_n 0, 1) := by decide +kernel
theorem dX4_step_258 : decode cX4_step 258 = .ok (.dup, 1) := by decide +kernel
theorem dX4_step_259 : decode cX4_step 259 = .ok (.getfield 65, 3) := by decide +kernel
theorem dX4_step_262 : decode cX4_step 262 = .ok (.aload_n 0, 1) := by decide +kernel
theorem dX4_step_263 : decode cX4_step 263 = .ok (.getfield 15, 3) := by decide +kernel
theorem dX4_step_266 : decode cX4_step 266 = .ok (.aload_n 0, 1) := by decide +kernel
theorem dX4_step_267 : decode cX4_step 267 = .ok (.getfield 55, 3) := by decide +kernel
theorem dX4_step_270 : decode cX4_step 270 = .ok (.iaload, 1) := by decide +kernel
theorem dX4_step_271 : decode cX4_step 271 = .ok (.iadd, 1) := by decide +kernel
theorem dX4_step_272 : decode cX4_step 272 = .ok (.putfield 65, 3) := by decide +kernel
theorem dX4_step_275 : decode cX4_step 275 = .ok (.aload_n 0, 1) := by decide +kernel
theorem dX4_step_276 : decode cX4_step 276 = .ok (.dup, 1) := by decide +kernel
theorem dX4_step_277 : decode cX4_step 277 = .ok (.getfield 68, 3) := by decide +kernel
theorem dX4_step_280 : decode cX4_step 280 = .ok (.iload_n 2, 1) := by decide +kernel
theorem dX4_step_281 : decode cX4_step 281 = .ok (.iadd, 1) := by decide +kernel
theorem dX4_step_282 : decode cX4_step 282 = .ok (.putfield 68, 3) := by decide +kernel
theorem dX4_step_285 : decode cX4_step 285 = .ok (.aload_n 0, 1) := by decide +kernel
theorem dX4_step_286 : decode cX4_step 286 = .ok (.dup, 1) := by decide +kernel
theorem dX4_step_287 : decode cX4_step 287 = .ok (.getfield 71, 3) := by decide +kernel
theorem dX4_step_290 : decode cX4_step 290 = .ok (.iload 4, 2) := by decide +kernel
theorem dX4_step_292 : decode cX4_step 292 = .ok (.iadd, 1) := by decide +kernel
theorem dX4_step_293 : decode cX4_step 293 = .ok (.putfield 71, 3) := by decide +kernel
theorem dX4_step_296 : decode cX4_step 296 = .ok (.aload_n 0, 1) := by decide +kernel
theorem dX4_step_297 : decode cX4_step 297 = .ok (.dup, 1) := by decide +kernel
theorem dX4_step_298 : decode cX4_step 298 = .ok (.getfield 74, 3) := by decide +kernel
theorem dX4_step_301 : decode cX4_step 301 = .ok (.iload_n 3, 1) := by decide +kernel
theorem dX4_step_302 : decode cX4_step 302 = .ok (.iadd, 1) := by decide +kernel
theorem dX4_step_303 : decode cX4_step 303 = .ok (.putfield 74, 3) := by decide +kernel
theorem dX4_step_306 : decode cX4_step 306 = .ok (.aload_n 0, 1) := by decide +kernel
theorem dX4_step_307 : decode cX4_step 307 = .ok (.getfield 46, 3) := by decide +kernel
theorem dX4_step_310 : decode cX4_step 310 = .ok (.iconst 0, 1) := by decide +kernel
theorem dX4_step_311 : decode cX4_step 311 = .ok (.aaload, 1) := by decide +kernel
theorem dX4_step_312 : decode cX4_step 312 = .ok (.aload_n 0, 1) := by decide +kernel
theorem dX4_step_313 : decode cX4_step 313 = .ok (.getfield 55, 3) := by decide +kernel
theorem dX4_step_316 : decode cX4_step 316 = .ok (.iload_n 1, 1) := by decide +kernel
theorem dX4_step_317 : decode cX4_step 317 = .ok (.iastore, 1) := by decide +kernel
theorem dX4_step_318 : decode cX4_step 318 = .ok (.aload_n 0, 1) := by decide +kernel
theorem dX4_step_319 : decode cX4_step 319 = .ok (.getfield 46, 3) := by decide +kernel
theorem dX4_step_322 : decode cX4_step 322 = .ok (.iconst 1, 1) := by decide +kernel
theorem dX4_step_323 : decode cX4_step 323 = .ok (.aaload, 1) := by decide +kernel
theorem dX4_step_324 : decode cX4_step 324 = .ok (.aload_n 0, 1) := by decide +kernel
theorem dX4_step_325 : decode cX4_step 325 = .ok (.getfield 55, 3) := by decide +kernel
theorem dX4_step_328 : decode cX4_step 328 = .ok (.iload_n 2, 1) := by decide +kernel
theorem dX4_step_329 : decode cX4_step 329 = .ok (.iastore, 1) := by decide +kernel
theorem dX4_step_330 : decode cX4_step 330 = .ok (.aload_n 0, 1) := by decide +kernel
theorem dX4_step_331 : decode cX4_step 331 = .ok (.getfield 46, 3) := by decide +kernel
theorem dX4_step_334 : decode cX4_step 334 = .ok (.iconst 2, 1) := by decide +kernel
theorem dX4_step_335 : decode cX4_step 335 = .ok (.aaload, 1) := by decide +kernel
theorem dX4_step_336 : decode cX4_step 336 = .ok (.aload_n 0, 1) := by decide +kernel
theorem dX4_step_337 : decode cX4_step 337 = .ok (.getfield 55, 3) := by decide +kernel
theorem dX4_step_340 : decode cX4_step 340 = .ok (.iload 4, 2) := by decide +kernel
theorem dX4_step_342 : decode cX4_step 342 = .ok (.iastore, 1) := by decide +kernel
theorem dX4_step_343 : decode cX4_step 343 = .ok (.aload_n 0, 1) := by decide +kernel
theorem dX4_step_344 : decode cX4_step 344 = .ok (.getfield 46, 3) := by decide +kernel
theorem dX4_step_347 : decode cX4_step 347 = .ok (.iconst 3, 1) := by decide +kernel
theorem dX4_step_348 : decode cX4_step 348 = .ok (.aaload, 1) := by decide +kernel
theorem dX4_step_349 : decode cX4_step 349 = .ok (.aload_n 0, 1) := by decide +kernel
theorem dX4_step_350 : decode cX4_step 350 = .ok (.getfield 55, 3) := by decide +kernel
theorem dX4_step_353 : decode cX4_step 353 = .ok (.aload_n 0, 1) := by decide +kernel
theorem dX4_step_354 : decode cX4_step 354 = .ok (.getfield 26, 3) := by decide +kernel
theorem dX4_step_357 : decode cX4_step 357 = .ok (.invokevirtual 134, 3) := by decide +kernel
theorem dX4_step_360 : decode cX4_step 360 = .ok (.iastore, 1) := by decide +kernel
theorem dX4_step_361 : decode cX4_step 361 = .ok (.aload_n 0, 1) := by decide +kernel
theorem dX4_step_362 : decode cX4_step 362 = .ok (.getfield 46, 3) := by decide +kernel
theorem dX4_step_365 : decode cX4_step 365 = .ok (.iconst 4, 1) := by decide +kernel
theorem dX4_step_366 : decode cX4_step 366 = .ok (.aaload, 1) := by decide +kernel
theorem dX4_step_367 : decode cX4_step 367 = .ok (.aload_n 0, 1) := by decide +kernel
theorem dX4_step_368 : decode cX4_step 368 = .ok (.getfield 55, 3) := by decide +kernel
theorem dX4_step_371 : decode cX4_step 371 = .ok (.aload_n 0, 1) := by decide +kernel
theorem dX4_step_372 : decode cX4_step 372 = .ok (.getfield 59, 3) := by decide +kernel
theorem dX4_step_375 : decode cX4_step 375 = .ok (.iastore, 1) := by decide +kernel
theorem dX4_step_376 : decode cX4_step 376 = .ok (.aload_n 0, 1) := by decide +kernel
theorem dX4_step_377 : decode cX4_step 377 = .ok (.getfield 46, 3) := by decide +kernel
theorem dX4_step_380 : decode cX4_step 380 = .ok (.iconst 5, 1) := by decide +kernel
theorem dX4_step_381 : decode cX4_step 381 = .ok (.aaload, 1) := by decide +kernel
theorem dX4_step_382 : decode cX4_step 382 = .ok (.aload_n 0, 1) := by decide +kernel
theorem dX4_step_383 : decode cX4_step 383 = .ok (.getfield 55, 3) := by decide +kernel
theorem dX4_step_386 : decode cX4_step 386 = .ok (.iload_n 3, 1) := by decide +kernel
theorem dX4_step_387 : decode cX4_step 387 = .ok (.iastore, 1) := by decide +kernel
theorem dX4_step_388 : decode cX4_step 388 = .ok (.aload_n 0, 1) := by decide +kernel
theorem dX4_step_389 : decode cX4_step 389 = .ok (.dup, 1) := by decide +kernel
theorem dX4_step_390 : decode cX4_step 390 = .ok (.getfield 55, 3) := by decide +kernel
theorem dX4_step_393 : decode cX4_step 393 = .ok (.iconst 1, 1) := by decide +kernel
theorem dX4_step_394 : decode cX4_step 394 = .ok (.iadd, 1) := by decide +kernel
theorem dX4_step_395 : decode cX4_step 395 = .ok (.putfield 55, 3) := by decide +kernel
theorem dX4_step_398 : decode cX4_step 398 = .ok (.return_, 1) := by decide +kernel
set_option maxRecDepth 20000 in
theorem ggX4_wantedByRule_X5_value : GoodIn wsX4_wantedByRule wsX5_value := goodIn_r _ [12, 13, 14, 15, 16, 43, 44] rfl (by decide +kernel)
set_option maxRecDepth 20000 in
theorem gX4_wantedByRule_X5_value : GoodIn wsX4_wantedByRule (wsV RX4 96 RX5 yX5_value wsX5_value) := goodIn_app (goodIn_of _ (by decide +kernel)) ggX4_wantedByRule_X5_value
set_option maxRecDepth 20000 in
theorem ggX4_wantedByRule_X3_up : GoodIn wsX4_wantedByRule wsX3_up := goodIn_r _ [21, 22, 23, 24, 20, 25, 26, 45, 46] rfl (by decide +kernel)
set_option maxRecDepth 20000 in
theorem gX4_wantedByRule_X3_up : GoodIn wsX4_wantedByRule (wsV RX4 134 RX3 yX3_up wsX3_up) := goodIn_app (goodIn_of _ (by decide +kernel)) ggX4_wantedByRule_X3_up
theorem dX4_wantedByRule_0 : decode cX4_wantedByRule 0 = .ok (.aload_n 0, 1) := by decide +kernel
theorem dX4_wantedByRule_1 : decode cX4_wantedByRule 1 = .ok (.getfield 9, 3) := by decide +kernel
theorem dX4_wantedByRule_4 : decode cX4_wantedByRule 4 = .ok (.bipush 10, 2) := by decide +kernel
theorem dX4_wantedByRule_6 : decode cX4_wantedByRule 6 = .ok (.invokevirtual 96, 3) := by decide +kernel
theorem dX4_wantedByRule_9 : decode cX4_wantedByRule 9 = .ok (.istore_n 1, 1) := by decide +kernel
theorem dX4_wantedByRule_10 : decode cX4_wantedByRule 10 = .ok (.iload_n 1, 1) := by decide +kernel
theorem dX4_wantedByRule_11 : decode cX4_wantedByRule 11 = .ok (.iconst 1, 1) := by decide +kernel
theorem dX4_wantedByRule_12 : decode cX4_wantedByRule 12 = .ok (.if_icmp .ne 31, 3) := by decide +kernel
theorem dX4_wantedByRule_15 : decode cX4_wantedByRule 15 = .ok (.aload_n 0, 1) := by decide +kernel
theorem dX4_wantedByRule_16 : decode cX4_wantedByRule 16 = .ok (.getfield 9, 3) := by decide +kernel
theorem dX4_wantedByRule_19 : decode cX4_wantedByRule 19 = .ok (.bipush 11, 2) := by decide +kernel
theorem dX4_wantedByRule_21 : decode cX4_wantedByRule 21 = .ok (.invokevirtual 96, 3) := by decide +kernel
theorem dX4_wantedByRule_24 : decode cX4_wantedByRule 24 = .ok (.iconst 1, 1) := by decide +kernel
theorem dX4_wantedByRule_25 : decode cX4_wantedByRule 25 = .ok (.invokestatic 137, 3) := by decide +kernel
theorem dX4_wantedByRule_28 : decode cX4_wantedByRule 28 = .ok (.istore_n 2, 1) := by decide +kernel
theorem dX4_wantedByRule_29 : decode cX4_wantedByRule 29 = .ok (.aload_n 0, 1) := by decide +kernel
theorem dX4_wantedByRule_30 : decode cX4_wantedByRule 30 = .ok (.getfield 40, 3) := by decide +kernel
theorem dX4_wantedByRule_33 : decode cX4_wantedByRule 33 = .ok (.getfield 142, 3) := by decide +kernel
theorem dX4_wantedByRule_36 : decode cX4_wantedByRule 36 = .ok (.iload_n 2, 1) := by decide +kernel
theorem dX4_wantedByRule_37 : decode cX4_wantedByRule 37 = .ok (.iadd, 1) := by decide +kernel
theorem dX4_wantedByRule_38 : decode cX4_wantedByRule 38 = .ok (.iconst 1, 1) := by decide +kernel
theorem dX4_wantedByRule_39 : decode cX4_wantedByRule 39 = .ok (.isub, 1) := by decide +kernel
theorem dX4_wantedByRule_40 : decode cX4_wantedByRule 40 = .ok (.iload_n 2, 1) := by decide +kernel
theorem dX4_wantedByRule_41 : decode cX4_wantedByRule 41 = .ok (.idiv, 1) := by decide +kernel
theorem dX4_wantedByRule_42 : decode cX4_wantedByRule 42 = .ok (.ireturn, 1) := by decide +kernel
theorem dX4_wantedByRule_43 : decode cX4_wantedByRule 43 = .ok (.aload_n 0, 1) := by decide +kernel
theorem dX4_wantedByRule_44 : decode cX4_wantedByRule 44 = .ok (.getfield 26, 3) := by decide +kernel
theorem dX4_wantedByRule_47 : decode cX4_wantedByRule 47 = .ok (.invokevirtual 134, 3) := by decide +kernel
theorem dX4_wantedByRule_50 : decode cX4_wantedByRule 50 = .ok (.istore_n 2, 1) := by decide +kernel
theorem dX4_wantedByRule_51 : decode cX4_wantedByRule 51 = .ok (.iload_n 1, 1) := by decide +kernel
theorem dX4_wantedByRule_52 : decode cX4_wantedByRule 52 = .ok (.iconst 2, 1) := by decide +kernel
theorem dX4_wantedByRule_53 : decode cX4_wantedByRule 53 = .ok (.if_icmp .ne 34, 3) := by decide +kernel
theorem dX4_wantedByRule_56 : decode cX4_wantedByRule 56 = .ok (.aload_n 0, 1) := by decide +kernel
theorem dX4_wantedByRule_57 : decode cX4_wantedByRule 57 = .ok (.getfield 40, 3) := by decide +kernel
theorem dX4_wantedByRule_60 : decode cX4_wantedByRule 60 = .ok (.getfield 142, 3) := by decide +kernel
theorem dX4_wantedByRule_63 : decode cX4_wantedByRule 63 = .ok (.aload_n 0, 1) := by decide +kernel
theorem dX4_wantedByRule_64 : decode cX4_wantedByRule 64 = .ok (.getfield 9, 3) := by decide +kernel
theorem dX4_wantedByRule_67 : decode cX4_wantedByRule 67 = .ok (.bipush 12, 2) := by decide +kernel
theorem dX4_wantedByRule_69 : decode cX4_wantedByRule 69 = .ok (.invokevirtual 96, 3) := by decide +kernel
theorem dX4_wantedByRule_72 : decode cX4_wantedByRule 72 = .ok (.if_icmp .le 15, 3) := by decide +kernel
theorem dX4_wantedByRule_75 : decode cX4_wantedByRule 75 = .ok (.iload_n 2, 1) := by decide +kernel
theorem dX4_wantedByRule_76 : decode cX4_wantedByRule 76 = .ok (.aload_n 0, 1) := by decide +kernel
theorem dX4_wantedByRule_77 : decode cX4_wantedByRule 77 = .ok (.getfield 9, 3) := by decide +kernel
theorem dX4_wantedByRule_80 : decode cX4_wantedByRule 80 = .ok (.bipush 14, 2) := by decide +kernel
theorem dX4_wantedByRule_82 : decode cX4_wantedByRule 82 = .ok (.invokevirtual 96, 3) := by decide +kernel
theorem dX4_wantedByRule_85 : decode cX4_wantedByRule 85 = .ok (.iadd, 1) := by decide +kernel
theorem dX4_wantedByRule_86 : decode cX4_wantedByRule 86 = .ok (.ireturn, 1) := by decide +kernel
theorem dX4_wantedByRule_87 : decode cX4_wantedByRule 87 = .ok (.iload_n 1, 1) := by decide +kernel
theorem dX4_wantedByRule_88 : decode cX4_wantedByRule 88 = .ok (.iconst 2, 1) := by decide +kernel
theorem dX4_wantedByRule_89 : decode cX4_wantedByRule 89 = .ok (.if_icmp .ne 34, 3) := by decide +kernel
theorem dX4_wantedByRule_92 : decode cX4_wantedByRule 92 = .ok (.aload_n 0, 1) := by decide +kernel
theorem dX4_wantedByRule_93 : decode cX4_wantedByRule 93 = .ok (.getfield 40, 3) := by decide +kernel
theorem dX4_wantedByRule_96 : decode cX4_wantedByRule 96 = .ok (.getfield 142, 3) := by decide +kernel
theorem dX4_wantedByRule_99 : decode cX4_wantedByRule 99 = .ok (.aload_n 0, 1) := by decide +kernel
theorem dX4_wantedByRule_100 : decode cX4_wantedByRule 100 = .ok (.getfield 9, 3) := by decide +kernel
theorem dX4_wantedByRule_103 : decode cX4_wantedByRule 103 = .ok (.bipush 13, 2) := by decide +kernel
theorem dX4_wantedByRule_105 : decode cX4_wantedByRule 105 = .ok (.invokevirtual 96, 3) := by decide +kernel
theorem dX4_wantedByRule_108 : decode cX4_wantedByRule 108 = .ok (.if_icmp .ge 15, 3) := by decide +kernel
theorem dX4_wantedByRule_111 : decode cX4_wantedByRule 111 = .ok (.iload_n 2, 1) := by decide +kernel
theorem dX4_wantedByRule_112 : decode cX4_wantedByRule 112 = .ok (.aload_n 0, 1) := by decide +kernel
theorem dX4_wantedByRule_113 : decode cX4_wantedByRule 113 = .ok (.getfield 9, 3) := by decide +kernel
theorem dX4_wantedByRule_116 : decode cX4_wantedByRule 116 = .ok (.bipush 15, 2) := by decide +kernel
theorem dX4_wantedByRule_118 : decode cX4_wantedByRule 118 = .ok (.invokevirtual 96, 3) := by decide +kernel
theorem dX4_wantedByRule_121 : decode cX4_wantedByRule 121 = .ok (.isub, 1) := by decide +kernel
theorem dX4_wantedByRule_122 : decode cX4_wantedByRule 122 = .ok (.ireturn, 1) := by decide +kernel
theorem dX4_wantedByRule_123 : decode cX4_wantedByRule 123 = .ok (.iload_n 2, 1) := by decide +kernel
theorem dX4_wantedByRule_124 : decode cX4_wantedByRule 124 = .ok (.ireturn, 1) := by decide +kernel
set_option maxRecDepth 20000 in
theorem ggX4_makeChanges_X3_up : GoodIn wsX4_makeChanges wsX3_up := goodIn_r _ [14, 15, 16, 17, 13, 18, 19, 74, 75] rfl (by decide +kernel)
set_option maxRecDepth 20000 in
theorem gX4_makeChanges_X3_up : GoodIn wsX4_makeChanges (wsV RX4 134 RX3 yX3_up wsX3_up) := goodIn_app (goodIn_of _ (by decide +kernel)) ggX4_makeChanges_X3_up
set_option maxRecDepth 20000 in
theorem ggX4_makeChanges_X4_resting : GoodIn wsX4_makeChanges wsX4_resting := goodIn_r _ [24, 9, 3, 2, 25, 26, 27, 28, 29, 30, 31, 32, 33, 60, 61, 62, 63, 64, 65, 66, 67, 68, 69, 70, 71, 72, 73, 76, 77] rfl (by decide +kernel)
set_option maxRecDepth 20000 in
theorem gX4_makeChanges_X4_resting : GoodIn wsX4_makeChanges (wsV RX4 145 RX4 yX4_resting wsX4_resting) := goodIn_app (goodIn_of _ (by decide +kernel)) ggX4_makeChanges_X4_resting
set_option maxRecDepth 20000 in
theorem ggX4_makeChanges_X5_bounded : GoodIn wsX4_makeChanges wsX5_bounded := goodIn_r _ [37, 38, 30, 39, 5, 6, 7, 40, 41, 42, 43, 44, 45, 46, 76, 77] rfl (by decide +kernel)
set_option maxRecDepth 20000 in
theorem gX4_makeChanges_X5_bounded : GoodIn wsX4_makeChanges (wsV RX4 107 RX5 yX5_bounded wsX5_bounded) := goodIn_app (goodIn_of _ (by decide +kernel)) ggX4_makeChanges_X5_bounded
set_option maxRecDepth 20000 in
theorem ggX4_makeChanges_X3_start : GoodIn wsX4_makeChanges wsX3_start := goodIn_r _ [50, 19, 51, 74, 75] rfl (by decide +kernel)
set_option maxRecDepth 20000 in
theorem gX4_makeChanges_X3_start : GoodIn wsX4_makeChanges (wsV RX4 149 RX3 yX3_start wsX3_start) := goodIn_app (goodIn_of _ (by decide +kernel)) ggX4_makeChanges_X3_start
set_option maxRecDepth 20000 in
theorem ggX4_makeChanges_X3_shed : GoodIn wsX4_makeChanges wsX3_shed := goodIn_r _ [55, 56, 57, 58, 13, 59, 19, 51, 74, 75] rfl (by decide +kernel)
set_option maxRecDepth 20000 in
theorem gX4_makeChanges_X3_shed : GoodIn wsX4_makeChanges (wsV RX4 152 RX3 yX3_shed wsX3_shed) := goodIn_app (goodIn_of _ (by decide +kernel)) ggX4_makeChanges_X3_shed
theorem dX4_makeChanges_0 : decode cX4_makeChanges 0 = .ok (.aload_n 0, 1) := by decide +kernel
theorem dX4_makeChanges_1 : decode cX4_makeChanges 1 = .ok (.getfield 26, 3) := by decide +kernel
theorem dX4_makeChanges_4 : decode cX4_makeChanges 4 = .ok (.invokevirtual 134, 3) := by decide +kernel
theorem dX4_makeChanges_7 : decode cX4_makeChanges 7 = .ok (.istore_n 1, 1) := by decide +kernel
theorem dX4_makeChanges_8 : decode cX4_makeChanges 8 = .ok (.aload_n 0, 1) := by decide +kernel
theorem dX4_makeChanges_9 : decode cX4_makeChanges 9 = .ok (.invokevirtual 145, 3) := by decide +kernel
theorem dX4_makeChanges_12 : decode cX4_makeChanges 12 = .ok (.ifCond .eq 22, 3) := by decide +kernel
theorem dX4_makeChanges_15 : decode cX4_makeChanges 15 = .ok (.iload_n 1, 1) := by decide +kernel
theorem dX4_makeChanges_16 : decode cX4_makeChanges 16 = .ok (.aload_n 0, 1) := by decide +kernel
theorem dX4_makeChanges_17 : decode cX4_makeChanges 17 = .ok (.getfield 9, 3) := by decide +kernel
theorem dX4_makeChanges_20 : decode cX4_makeChanges 20 = .ok (.iconst 0, 1) := by decide +kernel
theorem dX4_makeChanges_21 : decode cX4_makeChanges 21 = .ok (.aload_n 0, 1) := by decide +kernel
theorem dX4_makeChanges_22 : decode cX4_makeChanges 22 = .ok (.getfield 55, 3) := by decide +kernel
theorem dX4_makeChanges_25 : decode cX4_makeChanges 25 = .ok (.invokevirtual 107, 3) := by decide +kernel
theorem dX4_makeChanges_28 : decode cX4_makeChanges 28 = .ok (.invokestatic 137, 3) := by decide +kernel
theorem dX4_makeChanges_31 : decode cX4_makeChanges 31 = .ok (.goto 7, 3) := by decide +kernel
theorem dX4_makeChanges_34 : decode cX4_makeChanges 34 = .ok (.aload_n 0, 1) := by decide +kernel
theorem dX4_makeChanges_35 : decode cX4_makeChanges 35 = .ok (.getfield 59, 3) := by decide +kernel
theorem dX4_makeChanges_38 : decode cX4_makeChanges 38 = .ok (.istore_n 2, 1) := by decide +kernel
theorem dX4_makeChanges_39 : decode cX4_makeChanges 39 = .ok (.iload_n 2, 1) := by decide +kernel
theorem dX4_makeChanges_40 : decode cX4_makeChanges 40 = .ok (.iload_n 1, 1) := by decide +kernel
theorem dX4_makeChanges_41 : decode cX4_makeChanges 41 = .ok (.if_icmp .le 20, 3) := by decide +kernel
theorem dX4_makeChanges_44 : decode cX4_makeChanges 44 = .ok (.aload_n 0, 1) := by decide +kernel
theorem dX4_makeChanges_45 : decode cX4_makeChanges 45 = .ok (.getfield 26, 3) := by decide +kernel
theorem dX4_makeChanges_48 : decode cX4_makeChanges 48 = .ok (.iload_n 2, 1) := by decide +kernel
theorem dX4_makeChanges_49 : decode cX4_makeChanges 49 = .ok (.iload_n 1, 1) := by decide +kernel
theorem dX4_makeChanges_50 : decode cX4_makeChanges 50 = .ok (.isub, 1) := by decide +kernel
theorem dX4_makeChanges_51 : decode cX4_makeChanges 51 = .ok (.aload_n 0, 1) := by decide +kernel
theorem dX4_makeChanges_52 : decode cX4_makeChanges 52 = .ok (.getfield 55, 3) := by decide +kernel
theorem dX4_makeChanges_55 : decode cX4_makeChanges 55 = .ok (.invokevirtual 149, 3) := by decide +kernel
theorem dX4_makeChanges_58 : decode cX4_makeChanges 58 = .ok (.goto 17, 3) := by decide +kernel
theorem dX4_makeChanges_61 : decode cX4_makeChanges 61 = .ok (.aload_n 0, 1) := by decide +kernel
theorem dX4_makeChanges_62 : decode cX4_makeChanges 62 = .ok (.getfield 26, 3) := by decide +kernel
theorem dX4_makeChanges_65 : decode cX4_makeChanges 65 = .ok (.iload_n 1, 1) := by decide +kernel
theorem dX4_makeChanges_66 : decode cX4_makeChanges 66 = .ok (.iload_n 2, 1) := by decide +kernel
theorem dX4_makeChanges_67 : decode cX4_makeChanges 67 = .ok (.isub, 1) := by decide +kernel
theorem dX4_makeChanges_68 : decode cX4_makeChanges 68 = .ok (.aload_n 0, 1) := by decide +kernel
theorem dX4_makeChanges_69 : decode cX4_makeChanges 69 = .ok (.getfield 55, 3) := by decide +kernel
theorem dX4_makeChanges_72 : decode cX4_makeChanges 72 = .ok (.invokevirtual 152, 3) := by decide +kernel
theorem dX4_makeChanges_75 : decode cX4_makeChanges 75 = .ok (.istore_n 3, 1) := by decide +kernel
theorem dX4_makeChanges_76 : decode cX4_makeChanges 76 = .ok (.iload_n 3, 1) := by decide +kernel
theorem dX4_makeChanges_77 : decode cX4_makeChanges 77 = .ok (.ifCond .le 11, 3) := by decide +kernel
theorem dX4_makeChanges_80 : decode cX4_makeChanges 80 = .ok (.aload_n 0, 1) := by decide +kernel
theorem dX4_makeChanges_81 : decode cX4_makeChanges 81 = .ok (.aload_n 0, 1) := by decide +kernel
theorem dX4_makeChanges_82 : decode cX4_makeChanges 82 = .ok (.getfield 55, 3) := by decide +kernel
theorem dX4_makeChanges_85 : decode cX4_makeChanges 85 = .ok (.putfield 62, 3) := by decide +kernel
theorem dX4_makeChanges_88 : decode cX4_makeChanges 88 = .ok (.return_, 1) := by decide +kernel
set_option maxRecDepth 20000 in
theorem ggX4_resting_X5_value : GoodIn wsX4_resting wsX5_value := goodIn_r _ [8, 9, 10, 11, 12, 27, 28] rfl (by decide +kernel)
set_option maxRecDepth 20000 in
theorem gX4_resting_X5_value : GoodIn wsX4_resting (wsV RX4 96 RX5 yX5_value wsX5_value) := goodIn_app (goodIn_of _ (by decide +kernel)) ggX4_resting_X5_value
theorem dX4_resting_0 : decode cX4_resting 0 = .ok (.aload_n 0, 1) := by decide +kernel
theorem dX4_resting_1 : decode cX4_resting 1 = .ok (.getfield 62, 3) := by decide +kernel
theorem dX4_resting_4 : decode cX4_resting 4 = .ok (.iconst (-1), 1) := by decide +kernel
theorem dX4_resting_5 : decode cX4_resting 5 = .ok (.if_icmp .eq 28, 3) := by decide +kernel
theorem dX4_resting_8 : decode cX4_resting 8 = .ok (.aload_n 0, 1) := by decide +kernel
theorem dX4_resting_9 : decode cX4_resting 9 = .ok (.getfield 55, 3) := by decide +kernel
theorem dX4_resting_12 : decode cX4_resting 12 = .ok (.aload_n 0, 1) := by decide +kernel
theorem dX4_resting_13 : decode cX4_resting 13 = .ok (.getfield 62, 3) := by decide +kernel
theorem dX4_resting_16 : decode cX4_resting 16 = .ok (.isub, 1) := by decide +kernel
theorem dX4_resting_17 : decode cX4_resting 17 = .ok (.aload_n 0, 1) := by decide +kernel
theorem dX4_resting_18 : decode cX4_resting 18 = .ok (.getfield 9, 3) := by decide +kernel
theorem dX4_resting_21 : decode cX4_resting 21 = .ok (.bipush 9, 2) := by decide +kernel
theorem dX4_resting_23 : decode cX4_resting 23 = .ok (.invokevirtual 96, 3) := by decide +kernel
theorem dX4_resting_26 : decode cX4_resting 26 = .ok (.if_icmp .ge 7, 3) := by decide +kernel
theorem dX4_resting_29 : decode cX4_resting 29 = .ok (.iconst 1, 1) := by decide +kernel
theorem dX4_resting_30 : decode cX4_resting 30 = .ok (.goto 4, 3) := by decide +kernel
theorem dX4_resting_33 : decode cX4_resting 33 = .ok (.iconst 0, 1) := by decide +kernel
theorem dX4_resting_34 : decode cX4_resting 34 = .ok (.ireturn, 1) := by decide +kernel
set_option maxRecDepth 20000 in
theorem ggX4_figure_X3_up : GoodIn wsX4_figure wsX3_up := goodIn_r _ [15, 16, 17, 18, 14, 19, 20, 46, 47] rfl (by decide +kernel)
set_option maxRecDepth 20000 in
theorem gX4_figure_X3_up : GoodIn wsX4_figure (wsV RX4 134 RX3 yX3_up wsX3_up) := goodIn_app (goodIn_of _ (by decide +kernel)) ggX4_figure_X3_up
set_option maxRecDepth 20000 in
theorem ggX4_figure_X3_count : GoodIn wsX4_figure wsX3_count := goodIn_r _ [19, 20, 46, 47] rfl (by decide +kernel)
