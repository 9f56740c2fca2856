theorem dX4_init_0 : decode cX4_init 0 = .ok (.aload_n 0, 1) := by decide +kernel
theorem dX4_init_1 : decode cX4_init 1 = .ok (.invokespecial 3, 3) := by decide +kernel
theorem dX4_init_4 : decode cX4_init 4 = .ok (.aload_n 0, 1) := by decide +kernel
theorem dX4_init_5 : decode cX4_init 5 = .ok (.bipush 116, 2) := by decide +kernel
theorem dX4_init_7 : decode cX4_init 7 = .ok (.putfield 9, 3) := by decide +kernel
theorem dX4_init_10 : decode cX4_init 10 = .ok (.aload_n 0, 1) := by decide +kernel
theorem dX4_init_11 : decode cX4_init 11 = .ok (.iconst 0, 1) := by decide +kernel
theorem dX4_init_12 : decode cX4_init 12 = .ok (.putfield 15, 3) := by decide +kernel
theorem dX4_init_15 : decode cX4_init 15 = .ok (.aload_n 0, 1) := by decide +kernel
theorem dX4_init_16 : decode cX4_init 16 = .ok (.iconst 0, 1) := by decide +kernel
theorem dX4_init_17 : decode cX4_init 17 = .ok (.putfield 19, 3) := by decide +kernel
theorem dX4_init_20 : decode cX4_init 20 = .ok (.aload_n 0, 1) := by decide +kernel
theorem dX4_init_21 : decode cX4_init 21 = .ok (.iconst 1, 1) := by decide +kernel
theorem dX4_init_22 : decode cX4_init 22 = .ok (.putfield 22, 3) := by decide +kernel
theorem dX4_init_25 : decode cX4_init 25 = .ok (.return_, 1) := by decide +kernel
theorem dX4_tell_0 : decode cX4_tell 0 = .ok (.aload_n 0, 1) := by decide +kernel
theorem dX4_tell_1 : decode cX4_tell 1 = .ok (.iload_n 1, 1) := by decide +kernel
theorem dX4_tell_2 : decode cX4_tell 2 = .ok (.putfield 9, 3) := by decide +kernel
theorem dX4_tell_5 : decode cX4_tell 5 = .ok (.aload_n 0, 1) := by decide +kernel
theorem dX4_tell_6 : decode cX4_tell 6 = .ok (.iload_n 2, 1) := by decide +kernel
theorem dX4_tell_7 : decode cX4_tell 7 = .ok (.putfield 15, 3) := by decide +kernel
theorem dX4_tell_10 : decode cX4_tell 10 = .ok (.aload_n 0, 1) := by decide +kernel
theorem dX4_tell_11 : decode cX4_tell 11 = .ok (.iload_n 3, 1) := by decide +kernel
theorem dX4_tell_12 : decode cX4_tell 12 = .ok (.putfield 19, 3) := by decide +kernel
theorem dX4_tell_15 : decode cX4_tell 15 = .ok (.aload_n 0, 1) := by decide +kernel
theorem dX4_tell_16 : decode cX4_tell 16 = .ok (.iload 4, 2) := by decide +kernel
theorem dX4_tell_18 : decode cX4_tell 18 = .ok (.putfield 22, 3) := by decide +kernel
theorem dX4_tell_21 : decode cX4_tell 21 = .ok (.return_, 1) := by decide +kernel
theorem dX4_sign_0 : decode cX4_sign 0 = .ok (.aload_n 0, 1) := by decide +kernel
theorem dX4_sign_1 : decode cX4_sign 1 = .ok (.getfield 9, 3) := by decide +kernel
theorem dX4_sign_4 : decode cX4_sign 4 = .ok (.ireturn, 1) := by decide +kernel
theorem dX4_number_0 : decode cX4_number 0 = .ok (.aload_n 0, 1) := by decide +kernel
theorem dX4_number_1 : decode cX4_number 1 = .ok (.getfield 15, 3) := by decide +kernel
theorem dX4_number_4 : decode cX4_number 4 = .ok (.ireturn, 1) := by decide +kernel
theorem dX4_weight_0 : decode cX4_weight 0 = .ok (.aload_n 0, 1) := by decide +kernel
theorem dX4_weight_1 : decode cX4_weight 1 = .ok (.getfield 19, 3) := by decide +kernel
theorem dX4_weight_4 : decode cX4_weight 4 = .ok (.ireturn, 1) := by decide +kernel
theorem dX4_rungs_0 : decode cX4_rungs 0 = .ok (.aload_n 0, 1) := by decide +kernel
theorem dX4_rungs_1 : decode cX4_rungs 1 = .ok (.getfield 22, 3) := by decide +kernel
theorem dX4_rungs_4 : decode cX4_rungs 4 = .ok (.ireturn, 1) := by decide +kernel
theorem dX5_init_0 : decode cX5_init 0 = .ok (.aload_n 0, 1) := by decide +kernel
theorem dX5_init_1 : decode cX5_init 1 = .ok (.invokespecial 3, 3) := by decide +kernel
theorem dX5_init_4 : decode cX5_init 4 = .ok (.aload_n 0, 1) := by decide +kernel
theorem dX5_init_5 : decode cX5_init 5 = .ok (.bipush 60, 2) := by decide +kernel
theorem dX5_init_7 : decode cX5_init 7 = .ok (.newarray .char, 2) := by decide +kernel
theorem dX5_init_9 : decode cX5_init 9 = .ok (.putfield 9, 3) := by decide +kernel
theorem dX5_init_12 : decode cX5_init 12 = .ok (.aload_n 0, 1) := by decide +kernel
theorem dX5_init_13 : decode cX5_init 13 = .ok (.iconst 0, 1) := by decide +kernel
theorem dX5_init_14 : decode cX5_init 14 = .ok (.putfield 15, 3) := by decide +kernel
theorem dX5_init_17 : decode cX5_init 17 = .ok (.aload_n 0, 1) := by decide +kernel
theorem dX5_init_18 : decode cX5_init 18 = .ok (.iconst 0, 1) := by decide +kernel
theorem dX5_init_19 : decode cX5_init 19 = .ok (.putfield 19, 3) := by decide +kernel
theorem dX5_init_22 : decode cX5_init 22 = .ok (.aload_n 0, 1) := by decide +kernel
theorem dX5_init_23 : decode cX5_init 23 = .ok (.iconst 0, 1) := by decide +kernel
theorem dX5_init_24 : decode cX5_init 24 = .ok (.putfield 22, 3) := by decide +kernel
theorem dX5_init_27 : decode cX5_init 27 = .ok (.return_, 1) := by decide +kernel
theorem dX5_length_0 : decode cX5_length 0 = .ok (.aload_n 0, 1) := by decide +kernel
theorem dX5_length_1 : decode cX5_length 1 = .ok (.getfield 15, 3) := by decide +kernel
theorem dX5_length_4 : decode cX5_length 4 = .ok (.ireturn, 1) := by decide +kernel
theorem dX5_clear_0 : decode cX5_clear 0 = .ok (.aload_n 0, 1) := by decide +kernel
theorem dX5_clear_1 : decode cX5_clear 1 = .ok (.iconst 0, 1) := by decide +kernel
theorem dX5_clear_2 : decode cX5_clear 2 = .ok (.putfield 15, 3) := by decide +kernel
theorem dX5_clear_5 : decode cX5_clear 5 = .ok (.return_, 1) := by decide +kernel
theorem dX5_take_0 : decode cX5_take 0 = .ok (.aload_n 0, 1) := by decide +kernel
theorem dX5_take_1 : decode cX5_take 1 = .ok (.getfield 15, 3) := by decide +kernel
theorem dX5_take_4 : decode cX5_take 4 = .ok (.ifCond .lt 12, 3) := by decide +kernel
theorem dX5_take_7 : decode cX5_take 7 = .ok (.aload_n 0, 1) := by decide +kernel
theorem dX5_take_8 : decode cX5_take 8 = .ok (.getfield 15, 3) := by decide +kernel
theorem dX5_take_11 : decode cX5_take 11 = .ok (.bipush 60, 2) := by decide +kernel
theorem dX5_take_13 : decode cX5_take 13 = .ok (.if_icmp .lt 5, 3) := by decide +kernel
theorem dX5_take_16 : decode cX5_take 16 = .ok (.iconst 0, 1) := by decide +kernel
theorem dX5_take_17 : decode cX5_take 17 = .ok (.ireturn, 1) := by decide +kernel
theorem dX5_take_18 : decode cX5_take 18 = .ok (.aload_n 0, 1) := by decide +kernel
theorem dX5_take_19 : decode cX5_take 19 = .ok (.getfield 9, 3) := by decide +kernel
theorem dX5_take_22 : decode cX5_take 22 = .ok (.aload_n 0, 1) := by decide +kernel
theorem dX5_take_23 : decode cX5_take 23 = .ok (.getfield 15, 3) := by decide +kernel
theorem dX5_take_26 : decode cX5_take 26 = .ok (.iload_n 1, 1) := by decide +kernel
theorem dX5_take_27 : decode cX5_take 27 = .ok (.castore, 1) := by decide +kernel
theorem dX5_take_28 : decode cX5_take 28 = .ok (.aload_n 0, 1) := by decide +kernel
theorem dX5_take_29 : decode cX5_take 29 = .ok (.dup, 1) := by decide +kernel
theorem dX5_take_30 : decode cX5_take 30 = .ok (.getfield 15, 3) := by decide +kernel
theorem dX5_take_33 : decode cX5_take 33 = .ok (.iconst 1, 1) := by decide +kernel
theorem dX5_take_34 : decode cX5_take 34 = .ok (.iadd, 1) := by decide +kernel
theorem dX5_take_35 : decode cX5_take 35 = .ok (.putfield 15, 3) := by decide +kernel
theorem dX5_take_38 : decode cX5_take 38 = .ok (.iconst 1, 1) := by decide +kernel
theorem dX5_take_39 : decode cX5_take 39 = .ok (.ireturn, 1) := by decide +kernel
theorem dX5_rewind_0 : decode cX5_rewind 0 = .ok (.aload_n 0, 1) := by decide +kernel
theorem dX5_rewind_1 : decode cX5_rewind 1 = .ok (.iconst 0, 1) := by decide +kernel
theorem dX5_rewind_2 : decode cX5_rewind 2 = .ok (.putfield 19, 3) := by decide +kernel
theorem dX5_rewind_5 : decode cX5_rewind 5 = .ok (.aload_n 0, 1) := by decide +kernel
theorem dX5_rewind_6 : decode cX5_rewind 6 = .ok (.iconst 0, 1) := by decide +kernel
theorem dX5_rewind_7 : decode cX5_rewind 7 = .ok (.putfield 22, 3) := by decide +kernel
theorem dX5_rewind_10 : decode cX5_rewind 10 = .ok (.return_, 1) := by decide +kernel
set_option maxRecDepth 20000 in
theorem ggX5_findFault_X5_rewind : GoodIn wsX5_findFault wsX5_rewind := goodIn_r _ [7, 2, 1, 58, 59, 60, 61] (by decide +kernel) (by decide +kernel)
set_option maxRecDepth 20000 in
theorem gX5_findFault_X5_rewind : GoodIn wsX5_findFault (wsV RX5 26 RX5 yX5_rewind wsX5_rewind) := goodIn_app (goodIn_of _ (by decide +kernel)) ggX5_findFault_X5_rewind
set_option maxRecDepth 20000 in
theorem ggX5_findFault_X5_readOrder : GoodIn wsX5_findFault wsX5_readOrder := goodIn_ca (goodIn_r _ [11, 2, 1, 12, 13, 14, 6, 15, 16, 17, 18, 19, 20, 21, 22, 23, 24, 25, 26, 27, 28, 29, 30, 31, 32, 33, 34, 35, 36, 37, 38, 39, 40, 41, 42, 43, 44, 45, 46, 47, 48, 49, 50, 51, 52, 53, 58, 59, 60, 61, 62, 63, 64, 65] (by decide +kernel) (by decide +kernel)) (goodIn_sub (fun _ h => List.mem_cons_of_mem _ (List.mem_append_right _ h)) (by decide +kernel))
set_option maxRecDepth 20000 in
theorem gX5_findFault_X5_readOrder : GoodIn wsX5_findFault (wsV RX5 29 RX5 yX5_readOrder wsX5_readOrder) := goodIn_app (goodIn_of _ (by decide +kernel)) ggX5_findFault_X5_readOrder
set_option maxRecDepth 20000 in
theorem ggX5_findFault_X5_passSeparator : GoodIn wsX5_findFault wsX5_passSeparator := goodIn_ca (goodIn_r _ [57, 1, 12, 13, 14, 6, 15, 2, 16, 17, 33, 34, 35, 36, 58, 59, 60, 61] (by decide +kernel) (by decide +kernel)) (goodIn_sub (fun _ h => List.mem_cons_of_mem _ (List.mem_append_right _ h)) (by decide +kernel))
set_option maxRecDepth 20000 in
theorem gX5_findFault_X5_passSeparator : GoodIn wsX5_findFault (wsV RX5 33 RX5 yX5_passSeparator wsX5_passSeparator) := goodIn_app (goodIn_of _ (by decide +kernel)) ggX5_findFault_X5_passSeparator
theorem dX5_findFault_0 : decode cX5_findFault 0 = .ok (.aload_n 0, 1) := by decide +kernel
theorem dX5_findFault_1 : decode cX5_findFault 1 = .ok (.invokevirtual 26, 3) := by decide +kernel
theorem dX5_findFault_4 : decode cX5_findFault 4 = .ok (.iconst 1, 1) := by decide +kernel
theorem dX5_findFault_5 : decode cX5_findFault 5 = .ok (.istore_n 2, 1) := by decide +kernel
theorem dX5_findFault_6 : decode cX5_findFault 6 = .ok (.iconst 0, 1) := by decide +kernel
theorem dX5_findFault_7 : decode cX5_findFault 7 = .ok (.istore_n 3, 1) := by decide +kernel
theorem dX5_findFault_8 : decode cX5_findFault 8 = .ok (.iload_n 2, 1) := by decide +kernel
theorem dX5_findFault_9 : decode cX5_findFault 9 = .ok (.ifCond .eq 25, 3) := by decide +kernel
theorem dX5_findFault_12 : decode cX5_findFault 12 = .ok (.iload_n 3, 1) := by decide +kernel
theorem dX5_findFault_13 : decode cX5_findFault 13 = .ok (.bipush 60, 2) := by decide +kernel
theorem dX5_findFault_15 : decode cX5_findFault 15 = .ok (.if_icmp .ge 19, 3) := by decide +kernel
theorem dX5_findFault_18 : decode cX5_findFault 18 = .ok (.aload_n 0, 1) := by decide +kernel
theorem dX5_findFault_19 : decode cX5_findFault 19 = .ok (.aload_n 1, 1) := by decide +kernel
theorem dX5_findFault_20 : decode cX5_findFault 20 = .ok (.invokevirtual 29, 3) := by decide +kernel
theorem dX5_findFault_23 : decode cX5_findFault 23 = .ok (.aload_n 0, 1) := by decide +kernel
theorem dX5_findFault_24 : decode cX5_findFault 24 = .ok (.invokevirtual 33, 3) := by decide +kernel
theorem dX5_findFault_27 : decode cX5_findFault 27 = .ok (.istore_n 2, 1) := by decide +kernel
theorem dX5_findFault_28 : decode cX5_findFault 28 = .ok (.iinc 3 1, 3) := by decide +kernel
theorem dX5_findFault_31 : decode cX5_findFault 31 = .ok (.goto (-23), 3) := by decide +kernel
theorem dX5_findFault_34 : decode cX5_findFault 34 = .ok (.aload_n 0, 1) := by decide +kernel
theorem dX5_findFault_35 : decode cX5_findFault 35 = .ok (.getfield 22, 3) := by decide +kernel
theorem dX5_findFault_38 : decode cX5_findFault 38 = .ok (.ifCond .eq 10, 3) := by decide +kernel
theorem dX5_findFault_41 : decode cX5_findFault 41 = .ok (.aload_n 0, 1) := by decide +kernel
theorem dX5_findFault_42 : decode cX5_findFault 42 = .ok (.getfield 19, 3) := by decide +kernel
theorem dX5_findFault_45 : decode cX5_findFault 45 = .ok (.goto 4, 3) := by decide +kernel
theorem dX5_findFault_48 : decode cX5_findFault 48 = .ok (.iconst (-1), 1) := by decide +kernel
theorem dX5_findFault_49 : decode cX5_findFault 49 = .ok (.ireturn, 1) := by decide +kernel
set_option maxRecDepth 20000 in
theorem ggX5_passSeparator_X5_look : GoodIn wsX5_passSeparator wsX5_look := goodIn_ca (goodIn_r _ [6, 7, 8, 9, 14, 15, 16, 17] (by decide +kernel) (by decide +kernel)) (goodIn_sub (fun _ h => List.mem_cons_of_mem _ (List.mem_append_right _ h)) (by decide +kernel))
set_option maxRecDepth 20000 in
theorem gX5_passSeparator_X5_look : GoodIn wsX5_passSeparator (wsV RX5 37 RX5 yX5_look wsX5_look) := goodIn_app (goodIn_of _ (by decide +kernel)) ggX5_passSeparator_X5_look
set_option maxRecDepth 20000 in
theorem ggX5_passSeparator_X5_pass : GoodIn wsX5_passSeparator wsX5_pass := goodIn_ca (goodIn_r _ [13, 1, 7, 2, 3, 4, 5, 6, 8, 9, 14, 15, 16, 17] (by decide +kernel) (by decide +kernel)) (goodIn_sub (fun _ h => List.mem_cons_of_mem _ (List.mem_append_right _ h)) (by decide +kernel))
set_option maxRecDepth 20000 in
theorem gX5_passSeparator_X5_pass : GoodIn wsX5_passSeparator (wsV RX5 41 RX5 yX5_pass wsX5_pass) := goodIn_app (goodIn_of _ (by decide +kernel)) ggX5_passSeparator_X5_pass
theorem dX5_passSeparator_0 : decode cX5_passSeparator 0 = .ok (.aload_n 0, 1) := by decide +kernel
theorem dX5_passSeparator_1 : decode cX5_passSeparator 1 = .ok (.getfield 22, 3) := by decide +kernel
theorem dX5_passSeparator_4 : decode cX5_passSeparator 4 = .ok (.ifCond .ne 11, 3) := by decide +kernel
theorem dX5_passSeparator_7 : decode cX5_passSeparator 7 = .ok (.aload_n 0, 1) := by decide +kernel
theorem dX5_passSeparator_8 : decode cX5_passSeparator 8 = .ok (.invokevirtual 37, 3) := by decide +kernel
theorem dX5_passSeparator_11 : decode cX5_passSeparator 11 = .ok (.iconst (-1), 1) := by decide +kernel
theorem dX5_passSeparator_12 : decode cX5_passSeparator 12 = .ok (.if_icmp .ne 5, 3) := by decide +kernel
theorem dX5_passSeparator_15 : decode cX5_passSeparator 15 = .ok (.iconst 0, 1) := by decide +kernel
theorem dX5_passSeparator_16 : decode cX5_passSeparator 16 = .ok (.ireturn, 1) := by decide +kernel
theorem dX5_passSeparator_17 : decode cX5_passSeparator 17 = .ok (.aload_n 0, 1) := by decide +kernel
theorem dX5_passSeparator_18 : decode cX5_passSeparator 18 = .ok (.bipush 59, 2) := by decide +kernel
theorem dX5_passSeparator_20 : decode cX5_passSeparator 20 = .ok (.invokevirtual 41, 3) := by decide +kernel
theorem dX5_passSeparator_23 : decode cX5_passSeparator 23 = .ok (.ireturn, 1) := by decide +kernel
set_option maxRecDepth 20000 in
theorem ggX5_readOrder_X5_look : GoodIn wsX5_readOrder wsX5_look := goodIn_ca (goodIn_r _ [7, 1, 8, 9, 46, 47, 48, 49] (by decide +kernel) (by decide +kernel)) (goodIn_sub (fun _ h => List.mem_cons_of_mem _ (List.mem_append_right _ h)) (by decide +kernel))
set_option maxRecDepth 20000 in
theorem gX5_readOrder_X5_look : GoodIn wsX5_readOrder (wsV RX5 37 RX5 yX5_look wsX5_look) := goodIn_app (goodIn_of _ (by decide +kernel)) ggX5_readOrder_X5_look
set_option maxRecDepth 20000 in
theorem ggX5_readOrder_X5_readFiling : GoodIn wsX5_readOrder wsX5_readFiling := goodIn_ca (goodIn_r _ [13, 1, 2, 14, 15, 16, 6, 17, 18, 19, 20, 21, 3, 4, 5, 7, 8, 9, 22, 23, 24, 25, 26, 27, 28, 29, 30, 31, 32, 33, 34, 35, 36, 37, 38, 39, 40, 41, 42, 43, 44, 45, 46, 47, 48, 49, 50, 51, 52, 53] (by decide +kernel) (by decide +kernel)) (goodIn_sub (fun _ h => List.mem_cons_of_mem _ (List.mem_append_right _ h)) (by decide +kernel))
set_option maxRecDepth 20000 in
theorem gX5_readOrder_X5_readFiling : GoodIn wsX5_readOrder (wsV RX5 45 RX5 yX5_readFiling wsX5_readFiling) := goodIn_app (goodIn_of _ (by decide +kernel)) ggX5_readOrder_X5_readFiling
set_option maxRecDepth 20000 in
theorem ggX5_readOrder_X5_readKeyAndWeight : GoodIn wsX5_readOrder wsX5_readKeyAndWeight := goodIn_ca (goodIn_r _ [17, 18, 19, 20, 6, 21, 2, 1, 3, 4, 5, 7, 8, 9, 22, 23, 24, 25, 26, 27, 28, 29, 30, 31, 32, 33, 34, 35, 36, 37, 46, 47, 48, 49, 50, 51, 52, 53] (by decide +kernel) (by decide +kernel)) (goodIn_sub (fun _ h => List.mem_cons_of_mem _ (List.mem_append_right _ h)) (by decide +kernel))
set_option maxRecDepth 20000 in
theorem gX5_readOrder_X5_readKeyAndWeight : GoodIn wsX5_readOrder (wsV RX5 48 RX5 yX5_readKeyAndWeight wsX5_readKeyAndWeight) := goodIn_app (goodIn_of _ (by decide +kernel)) ggX5_readOrder_X5_readKeyAndWeight
set_option maxRecDepth 20000 in
theorem ggX5_readOrder_X5_readNumber : GoodIn wsX5_readOrder wsX5_readNumber := goodIn_ca (goodIn_r _ [21, 2, 1, 3, 4, 5, 6, 7, 8, 9, 22, 23, 24, 46, 47, 48, 49] (by decide +kernel) (by decide +kernel)) (goodIn_sub (fun _ h => List.mem_cons_of_mem _ (List.mem_append_right _ h)) (by decide +kernel))
set_option maxRecDepth 20000 in
theorem gX5_readOrder_X5_readNumber : GoodIn wsX5_readOrder (wsV RX5 52 RX5 yX5_readNumber wsX5_readNumber) := goodIn_app (goodIn_of _ (by decide +kernel)) ggX5_readOrder_X5_readNumber
set_option maxRecDepth 20000 in
theorem ggX5_readOrder_X4_tell : GoodIn wsX5_readOrder wsX4_tell := goodIn_r _ [33, 34, 35, 36, 37, 50, 51, 52, 53] (by decide +kernel) (by decide +kernel)
set_option maxRecDepth 20000 in
theorem gX5_readOrder_X4_tell : GoodIn wsX5_readOrder (wsV RX5 56 RX4 yX4_tell wsX4_tell) := goodIn_app (goodIn_of _ (by decide +kernel)) ggX5_readOrder_X4_tell
theorem dX5_readOrder_0 : decode cX5_readOrder 0 = .ok (.aload_n 0, 1) := by decide +kernel
theorem dX5_readOrder_1 : decode cX5_readOrder 1 = .ok (.invokevirtual 37, 3) := by decide +kernel
theorem dX5_readOrder_4 : decode cX5_readOrder 4 = .ok (.istore_n 2, 1) := by decide +kernel
theorem dX5_readOrder_5 : decode cX5_readOrder 5 = .ok (.iload_n 2, 1) := by decide +kernel
theorem dX5_readOrder_6 : decode cX5_readOrder 6 = .ok (.lookupswitch 176 #[(43, 74), (45, 102), (100, 102), (102, 128), (114, 128), (116, 154), (117, 102), (119, 82)], 74) := by decide +kernel
theorem dX5_readOrder_80 : decode cX5_readOrder 80 = .ok (.aload_n 0, 1) := by decide +kernel
theorem dX5_readOrder_81 : decode cX5_readOrder 81 = .ok (.aload_n 1, 1) := by decide +kernel
theorem dX5_readOrder_82 : decode cX5_readOrder 82 = .ok (.invokevirtual 45, 3) := by decide +kernel
theorem dX5_readOrder_85 : decode cX5_readOrder 85 = .ok (.goto 102, 3) := by decide +kernel
theorem dX5_readOrder_88 : decode cX5_readOrder 88 = .ok (.aload_n 0, 1) := by decide +kernel
theorem dX5_readOrder_89 : decode cX5_readOrder 89 = .ok (.dup, 1) := by decide +kernel
theorem dX5_readOrder_90 : decode cX5_readOrder 90 = .ok (.getfield 19, 3) := by decide +kernel
theorem dX5_readOrder_93 : decode cX5_readOrder 93 = .ok (.iconst 1, 1) := by decide +kernel
theorem dX5_readOrder_94 : decode cX5_readOrder 94 = .ok (.iadd, 1) := by decide +kernel
theorem dX5_readOrder_95 : decode cX5_readOrder 95 = .ok (.putfield 19, 3) := by decide +kernel
theorem dX5_readOrder_98 : decode cX5_readOrder 98 = .ok (.aload_n 0, 1) := by decide +kernel
theorem dX5_readOrder_99 : decode cX5_readOrder 99 = .ok (.aload_n 1, 1) := by decide +kernel
theorem dX5_readOrder_100 : decode cX5_readOrder 100 = .ok (.bipush 119, 2) := by decide +kernel
theorem dX5_readOrder_102 : decode cX5_readOrder 102 = .ok (.invokevirtual 48, 3) := by decide +kernel
theorem dX5_readOrder_105 : decode cX5_readOrder 105 = .ok (.goto 82, 3) := by decide +kernel
theorem dX5_readOrder_108 : decode cX5_readOrder 108 = .ok (.aload_n 0, 1) := by decide +kernel
theorem dX5_readOrder_109 : decode cX5_readOrder 109 = .ok (.dup, 1) := by decide +kernel
theorem dX5_readOrder_110 : decode cX5_readOrder 110 = .ok (.getfield 19, 3) := by decide +kernel
theorem dX5_readOrder_113 : decode cX5_readOrder 113 = .ok (.iconst 1, 1) := by decide +kernel
theorem dX5_readOrder_114 : decode cX5_readOrder 114 = .ok (.iadd, 1) := by decide +kernel
theorem dX5_readOrder_115 : decode cX5_readOrder 115 = .ok (.putfield 19, 3) := by decide +kernel
theorem dX5_readOrder_118 : decode cX5_readOrder 118 = .ok (.aload_n 1, 1) := by decide +kernel
theorem dX5_readOrder_119 : decode cX5_readOrder 119 = .ok (.iload_n 2, 1) := by decide +kernel
theorem dX5_readOrder_120 : decode cX5_readOrder 120 = .ok (.i2c, 1) := by decide +kernel
theorem dX5_readOrder_121 : decode cX5_readOrder 121 = .ok (.aload_n 0, 1) := by decide +kernel
theorem dX5_readOrder_122 : decode cX5_readOrder 122 = .ok (.iconst 3, 1) := by decide +kernel
theorem dX5_readOrder_123 : decode cX5_readOrder 123 = .ok (.invokevirtual 52, 3) := by decide +kernel
theorem dX5_readOrder_126 : decode cX5_readOrder 126 = .ok (.iconst 0, 1) := by decide +kernel
theorem dX5_readOrder_127 : decode cX5_readOrder 127 = .ok (.iconst 1, 1) := by decide +kernel
theorem dX5_readOrder_128 : decode cX5_readOrder 128 = .ok (.invokevirtual 56, 3) := by decide +kernel
theorem dX5_readOrder_131 : decode cX5_readOrder 131 = .ok (.goto 56, 3) := by decide +kernel
theorem dX5_readOrder_134 : decode cX5_readOrder 134 = .ok (.aload_n 0, 1) := by decide +kernel
theorem dX5_readOrder_135 : decode cX5_readOrder 135 = .ok (.dup, 1) := by decide +kernel
theorem dX5_readOrder_136 : decode cX5_readOrder 136 = .ok (.getfield 19, 3) := by decide +kernel
theorem dX5_readOrder_139 : decode cX5_readOrder 139 = .ok (.iconst 1, 1) := by decide +kernel
theorem dX5_readOrder_140 : decode cX5_readOrder 140 = .ok (.iadd, 1) := by decide +kernel
theorem dX5_readOrder_141 : decode cX5_readOrder 141 = .ok (.putfield 19, 3) := by decide +kernel
theorem dX5_readOrder_144 : decode cX5_readOrder 144 = .ok (.aload_n 1, 1) := by decide +kernel
theorem dX5_readOrder_145 : decode cX5_readOrder 145 = .ok (.iload_n 2, 1) := by decide +kernel
theorem dX5_readOrder_146 : decode cX5_readOrder 146 = .ok (.i2c, 1) := by decide +kernel
theorem dX5_readOrder_147 : decode cX5_readOrder 147 = .ok (.aload_n 0, 1) := by decide +kernel
theorem dX5_readOrder_148 : decode cX5_readOrder 148 = .ok (.iconst 1, 1) := by decide +kernel
theorem dX5_readOrder_149 : decode cX5_readOrder 149 = .ok (.invokevirtual 52, 3) := by decide +kernel
theorem dX5_readOrder_152 : decode cX5_readOrder 152 = .ok (.iconst 0, 1) := by decide +kernel
theorem dX5_readOrder_153 : decode cX5_readOrder 153 = .ok (.iconst 1, 1) := by decide +kernel
theorem dX5_readOrder_154 : decode cX5_readOrder 154 = .ok (.invokevirtual 56, 3) := by decide +kernel
theorem dX5_readOrder_157 : decode cX5_readOrder 157 = .ok (.goto 30, 3) := by decide +kernel
theorem dX5_readOrder_160 : decode cX5_readOrder 160 = .ok (.aload_n 0, 1) := by decide +kernel
theorem dX5_readOrder_161 : decode cX5_readOrder 161 = .ok (.dup, 1) := by decide +kernel
theorem dX5_readOrder_162 : decode cX5_readOrder 162 = .ok (.getfield 19, 3) := by decide +kernel
theorem dX5_readOrder_165 : decode cX5_readOrder 165 = .ok (.iconst 1, 1) := by decide +kernel
theorem dX5_readOrder_166 : decode cX5_readOrder 166 = .ok (.iadd, 1) := by decide +kernel
theorem dX5_readOrder_167 : decode cX5_readOrder 167 = .ok (.putfield 19, 3) := by decide +kernel
theorem dX5_readOrder_170 : decode cX5_readOrder 170 = .ok (.aload_n 1, 1) := by decide +kernel
theorem dX5_readOrder_171 : decode cX5_readOrder 171 = .ok (.bipush 116, 2) := by decide +kernel
theorem dX5_readOrder_173 : decode cX5_readOrder 173 = .ok (.iconst 0, 1) := by decide +kernel
theorem dX5_readOrder_174 : decode cX5_readOrder 174 = .ok (.iconst 0, 1) := by decide +kernel
theorem dX5_readOrder_175 : decode cX5_readOrder 175 = .ok (.iconst 1, 1) := by decide +kernel
theorem dX5_readOrder_176 : decode cX5_readOrder 176 = .ok (.invokevirtual 56, 3) := by decide +kernel
theorem dX5_readOrder_179 : decode cX5_readOrder 179 = .ok (.goto 8, 3) := by decide +kernel
theorem dX5_readOrder_182 : decode cX5_readOrder 182 = .ok (.aload_n 0, 1) := by decide +kernel
theorem dX5_readOrder_183 : decode cX5_readOrder 183 = .ok (.iconst 1, 1) := by decide +kernel
theorem dX5_readOrder_184 : decode cX5_readOrder 184 = .ok (.putfield 22, 3) := by decide +kernel
theorem dX5_readOrder_187 : decode cX5_readOrder 187 = .ok (.return_, 1) := by decide +kernel
set_option maxRecDepth 20000 in
theorem ggX5_readFiling_X5_readKeyAndWeight : GoodIn wsX5_readFiling wsX5_readKeyAndWeight := goodIn_ca (goodIn_r _ [7, 8, 9, 10, 6, 11, 2, 1, 12, 13, 14, 15, 16, 17, 18, 19, 20, 21, 22, 23, 24, 25, 26, 27, 28, 29, 30, 31, 32, 33, 42, 43, 44, 45, 46, 47, 48, 49] (by decide +kernel) (by decide +kernel)) (goodIn_sub (fun _ h => List.mem_cons_of_mem _ (List.mem_append_right _ h)) (by decide +kernel))
set_option maxRecDepth 20000 in
theorem gX5_readFiling_X5_readKeyAndWeight : GoodIn wsX5_readFiling (wsV RX5 48 RX5 yX5_readKeyAndWeight wsX5_readKeyAndWeight) := goodIn_app (goodIn_of _ (by decide +kernel)) ggX5_readFiling_X5_readKeyAndWeight
set_option maxRecDepth 20000 in
theorem ggX5_readFiling_X5_look : GoodIn wsX5_readFiling wsX5_look := goodIn_ca (goodIn_r _ [15, 1, 16, 17, 42, 43, 44, 45] (by decide +kernel) (by decide +kernel)) (goodIn_sub (fun _ h => List.mem_cons_of_mem _ (List.mem_append_right _ h)) (by decide +kernel))
set_option maxRecDepth 20000 in
theorem gX5_readFiling_X5_look : GoodIn wsX5_readFiling (wsV RX5 37 RX5 yX5_look wsX5_look) := goodIn_app (goodIn_of _ (by decide +kernel)) ggX5_readFiling_X5_look
set_option maxRecDepth 20000 in
theorem ggX5_readFiling_X4_number : GoodIn wsX5_readFiling wsX4_number := goodIn_r _ [37, 31, 46, 47, 48, 49] (by decide +kernel) (by decide +kernel)
set_option maxRecDepth 20000 in
theorem gX5_readFiling_X4_number : GoodIn wsX5_readFiling (wsV RX5 62 RX4 yX4_number wsX4_number) := goodIn_app (goodIn_of _ (by decide +kernel)) ggX5_readFiling_X4_number
set_option maxRecDepth 20000 in
theorem ggX5_readFiling_X4_weight : GoodIn wsX5_readFiling wsX4_weight := goodIn_r _ [41, 32, 46, 47, 48, 49] (by decide +kernel) (by decide +kernel)
set_option maxRecDepth 20000 in
theorem gX5_readFiling_X4_weight : GoodIn wsX5_readFiling (wsV RX5 65 RX4 yX4_weight wsX4_weight) := goodIn_app (goodIn_of _ (by decide +kernel)) ggX5_readFiling_X4_weight
set_option maxRecDepth 20000 in
theorem ggX5_readFiling_X5_readNumber : GoodIn wsX5_readFiling wsX5_readNumber := goodIn_ca (goodIn_r _ [11, 2, 1, 12, 13, 14, 6, 15, 16, 17, 18, 19, 20, 42, 43, 44, 45] (by decide +kernel) (by decide +kernel)) (goodIn_sub (fun _ h => List.mem_cons_of_mem _ (List.mem_append_right _ h)) (by decide +kernel))
set_option maxRecDepth 20000 in
theorem gX5_readFiling_X5_readNumber : GoodIn wsX5_readFiling (wsV RX5 52 RX5 yX5_readNumber wsX5_readNumber) := goodIn_app (goodIn_of _ (by decide +kernel)) ggX5_readFiling_X5_readNumber
set_option maxRecDepth 20000 in
theorem ggX5_readFiling_X4_tell : GoodIn wsX5_readFiling wsX4_tell := goodIn_r _ [29, 30, 31, 32, 33, 46, 47, 48, 49] (by decide +kernel) (by decide +kernel)
set_option maxRecDepth 20000 in
theorem gX5_readFiling_X4_tell : GoodIn wsX5_readFiling (wsV RX5 56 RX4 yX4_tell wsX4_tell) := goodIn_app (goodIn_of _ (by decide +kernel)) ggX5_readFiling_X4_tell
theorem dX5_readFiling_0 : decode cX5_readFiling 0 = .ok (.aload_n 0, 1) := by decide +kernel
theorem dX5_readFiling_1 : decode cX5_readFiling 1 = .ok (.dup, 1) := by decide +kernel
theorem dX5_readFiling_2 : decode cX5_readFiling 2 = .ok (.getfield 19, 3) := by decide +kernel
theorem dX5_readFiling_5 : decode cX5_readFiling 5 = .ok (.iconst 1, 1) := by decide +kernel
theorem dX5_readFiling_6 : decode cX5_readFiling 6 = .ok (.iadd, 1) := by decide +kernel
theorem dX5_readFiling_7 : decode cX5_readFiling 7 = .ok (.putfield 19, 3) := by decide +kernel
theorem dX5_readFiling_10 : decode cX5_readFiling 10 = .ok (.aload_n 0, 1) := by decide +kernel
theorem dX5_readFiling_11 : decode cX5_readFiling 11 = .ok (.aload_n 1, 1) := by decide +kernel
theorem dX5_readFiling_12 : decode cX5_readFiling 12 = .ok (.bipush 43, 2) := by decide +kernel
theorem dX5_readFiling_14 : decode cX5_readFiling 14 = .ok (.invokevirtual 48, 3) := by decide +kernel
theorem dX5_readFiling_17 : decode cX5_readFiling 17 = .ok (.aload_n 0, 1) := by decide +kernel
theorem dX5_readFiling_18 : decode cX5_readFiling 18 = .ok (.getfield 22, 3) := by decide +kernel
theorem dX5_readFiling_21 : decode cX5_readFiling 21 = .ok (.ifCond .ne 41, 3) := by decide +kernel
theorem dX5_readFiling_24 : decode cX5_readFiling 24 = .ok (.aload_n 0, 1) := by decide +kernel
theorem dX5_readFiling_25 : decode cX5_readFiling 25 = .ok (.invokevirtual 37, 3) := by decide +kernel
theorem dX5_readFiling_28 : decode cX5_readFiling 28 = .ok (.bipush 94, 2) := by decide +kernel
theorem dX5_readFiling_30 : decode cX5_readFiling 30 = .ok (.if_icmp .ne 32, 3) := by decide +kernel
theorem dX5_readFiling_33 : decode cX5_readFiling 33 = .ok (.aload_n 0, 1) := by decide +kernel
theorem dX5_readFiling_34 : decode cX5_readFiling 34 = .ok (.dup, 1) := by decide +kernel
theorem dX5_readFiling_35 : decode cX5_readFiling 35 = .ok (.getfield 19, 3) := by decide +kernel
theorem dX5_readFiling_38 : decode cX5_readFiling 38 = .ok (.iconst 1, 1) := by decide +kernel
theorem dX5_readFiling_39 : decode cX5_readFiling 39 = .ok (.iadd, 1) := by decide +kernel
theorem dX5_readFiling_40 : decode cX5_readFiling 40 = .ok (.putfield 19, 3) := by decide +kernel
theorem dX5_readFiling_43 : decode cX5_readFiling 43 = .ok (.aload_n 1, 1) := by decide +kernel
theorem dX5_readFiling_44 : decode cX5_readFiling 44 = .ok (.bipush 94, 2) := by decide +kernel
theorem dX5_readFiling_46 : decode cX5_readFiling 46 = .ok (.aload_n 1, 1) := by decide +kernel
theorem dX5_readFiling_47 : decode cX5_readFiling 47 = .ok (.invokevirtual 62, 3) := by decide +kernel
theorem dX5_readFiling_50 : decode cX5_readFiling 50 = .ok (.aload_n 1, 1) := by decide +kernel
theorem dX5_readFiling_51 : decode cX5_readFiling 51 = .ok (.invokevirtual 65, 3) := by decide +kernel
theorem dX5_readFiling_54 : decode cX5_readFiling 54 = .ok (.aload_n 0, 1) := by decide +kernel
theorem dX5_readFiling_55 : decode cX5_readFiling 55 = .ok (.iconst 1, 1) := by decide +kernel
theorem dX5_readFiling_56 : decode cX5_readFiling 56 = .ok (.invokevirtual 52, 3) := by decide +kernel
theorem dX5_readFiling_59 : decode cX5_readFiling 59 = .ok (.invokevirtual 56, 3) := by decide +kernel
theorem dX5_readFiling_62 : decode cX5_readFiling 62 = .ok (.return_, 1) := by decide +kernel
set_option maxRecDepth 20000 in
theorem ggX5_readKeyAndWeight_X5_readNumber : GoodIn wsX5_readKeyAndWeight wsX5_readNumber := goodIn_ca (goodIn_r _ [5, 6, 7, 8, 9, 10, 4, 11, 12, 13, 14, 15, 16, 30, 31, 32, 33] (by decide +kernel) (by decide +kernel)) (goodIn_sub (fun _ h => List.mem_cons_of_mem _ (List.mem_append_right _ h)) (by decide +kernel))
set_option maxRecDepth 20000 in
theorem gX5_readKeyAndWeight_X5_readNumber : GoodIn wsX5_readKeyAndWeight (wsV RX5 52 RX5 yX5_readNumber wsX5_readNumber) := goodIn_app (goodIn_of _ (by decide +kernel)) ggX5_readKeyAndWeight_X5_readNumber
set_option maxRecDepth 20000 in
theorem ggX5_readKeyAndWeight_X5_pass : GoodIn wsX5_readKeyAndWeight wsX5_pass := goodIn_ca (goodIn_r _ [20, 6, 7, 8, 9, 10, 4, 11, 12, 13, 30, 31, 32, 33] (by decide +kernel) (by decide +kernel)) (goodIn_sub (fun _ h => List.mem_cons_of_mem _ (List.mem_append_right _ h)) (by decide +kernel))
set_option maxRecDepth 20000 in
theorem gX5_readKeyAndWeight_X5_pass : GoodIn wsX5_readKeyAndWeight (wsV RX5 41 RX5 yX5_pass wsX5_pass) := goodIn_app (goodIn_of _ (by decide +kernel)) ggX5_readKeyAndWeight_X5_pass
set_option maxRecDepth 20000 in
theorem ggX5_readKeyAndWeight_X4_tell : GoodIn wsX5_readKeyAndWeight wsX4_tell := goodIn_r _ [25, 26, 27, 28, 29, 34, 35, 36, 37] (by decide +kernel) (by decide +kernel)
set_option maxRecDepth 20000 in
theorem gX5_readKeyAndWeight_X4_tell : GoodIn wsX5_readKeyAndWeight (wsV RX5 56 RX4 yX4_tell wsX4_tell) := goodIn_app (goodIn_of _ (by decide +kernel)) ggX5_readKeyAndWeight_X4_tell
theorem dX5_readKeyAndWeight_0 : decode cX5_readKeyAndWeight 0 = .ok (.aload_n 0, 1) := by decide +kernel
theorem dX5_readKeyAndWeight_1 : decode cX5_readKeyAndWeight 1 = .ok (.iconst 3, 1) := by decide +kernel
theorem dX5_readKeyAndWeight_2 : decode cX5_readKeyAndWeight 2 = .ok (.invokevirtual 52, 3) := by decide +kernel
theorem dX5_readKeyAndWeight_5 : decode cX5_readKeyAndWeight 5 = .ok (.istore_n 3, 1) := by decide +kernel
theorem dX5_readKeyAndWeight_6 : decode cX5_readKeyAndWeight 6 = .ok (.aload_n 0, 1) := by decide +kernel
theorem dX5_readKeyAndWeight_7 : decode cX5_readKeyAndWeight 7 = .ok (.bipush 61, 2) := by decide +kernel
theorem dX5_readKeyAndWeight_9 : decode cX5_readKeyAndWeight 9 = .ok (.invokevirtual 41, 3) := by decide +kernel
theorem dX5_readKeyAndWeight_12 : decode cX5_readKeyAndWeight 12 = .ok (.pop, 1) := by decide +kernel
theorem dX5_readKeyAndWeight_13 : decode cX5_readKeyAndWeight 13 = .ok (.aload_n 1, 1) := by decide +kernel
theorem dX5_readKeyAndWeight_14 : decode cX5_readKeyAndWeight 14 = .ok (.iload_n 2, 1) := by decide +kernel
theorem dX5_readKeyAndWeight_15 : decode cX5_readKeyAndWeight 15 = .ok (.iload_n 3, 1) := by decide +kernel
theorem dX5_readKeyAndWeight_16 : decode cX5_readKeyAndWeight 16 = .ok (.aload_n 0, 1) := by decide +kernel
theorem dX5_readKeyAndWeight_17 : decode cX5_readKeyAndWeight 17 = .ok (.iconst 2, 1) := by decide +kernel
theorem dX5_readKeyAndWeight_18 : decode cX5_readKeyAndWeight 18 = .ok (.invokevirtual 52, 3) := by decide +kernel
theorem dX5_readKeyAndWeight_21 : decode cX5_readKeyAndWeight 21 = .ok (.iconst 1, 1) := by decide +kernel
theorem dX5_readKeyAndWeight_22 : decode cX5_readKeyAndWeight 22 = .ok (.invokevirtual 56, 3) := by decide +kernel
theorem dX5_readKeyAndWeight_25 : decode cX5_readKeyAndWeight 25 = .ok (.return_, 1) := by decide +kernel
set_option maxRecDepth 20000 in
theorem ggX5_readNumber_X5_look : GoodIn wsX5_readNumber wsX5_look := goodIn_ca (goodIn_r _ [7, 2, 8, 9, 13, 14, 15, 16] (by decide +kernel) (by decide +kernel)) (goodIn_sub (fun _ h => List.mem_cons_of_mem _ (List.mem_append_right _ h)) (by decide +kernel))
set_option maxRecDepth 20000 in
theorem gX5_readNumber_X5_look : GoodIn wsX5_readNumber (wsV RX5 37 RX5 yX5_look wsX5_look) := goodIn_app (goodIn_of _ (by decide +kernel)) ggX5_readNumber_X5_look
set_option maxRecDepth 20000 in
theorem ggX5_readNumber_X5_isDigit : GoodIn wsX5_readNumber wsX5_isDigit := goodIn_r _ [12] (by decide +kernel) (by decide +kernel)
set_option maxRecDepth 20000 in
theorem gX5_readNumber_X5_isDigit : GoodIn wsX5_readNumber (va_wsS RX5 68 yX5_isDigit wsX5_isDigit) := goodIn_app (goodIn_of _ (by decide +kernel)) ggX5_readNumber_X5_isDigit
theorem dX5_readNumber_0 : decode cX5_readNumber 0 = .ok (.iconst 0, 1) := by decide +kernel
theorem dX5_readNumber_1 : decode cX5_readNumber 1 = .ok (.istore_n 2, 1) := by decide +kernel
theorem dX5_readNumber_2 : decode cX5_readNumber 2 = .ok (.iconst 0, 1) := by decide +kernel
theorem dX5_readNumber_3 : decode cX5_readNumber 3 = .ok (.istore_n 3, 1) := by decide +kernel
theorem dX5_readNumber_4 : decode cX5_readNumber 4 = .ok (.aload_n 0, 1) := by decide +kernel
theorem dX5_readNumber_5 : decode cX5_readNumber 5 = .ok (.getfield 22, 3) := by decide +kernel
theorem dX5_readNumber_8 : decode cX5_readNumber 8 = .ok (.ifCond .ne 47, 3) := by decide +kernel
theorem dX5_readNumber_11 : decode cX5_readNumber 11 = .ok (.iload_n 3, 1) := by decide +kernel
theorem dX5_readNumber_12 : decode cX5_readNumber 12 = .ok (.iload_n 1, 1) := by decide +kernel
theorem dX5_readNumber_13 : decode cX5_readNumber 13 = .ok (.if_icmp .ge 42, 3) := by decide +kernel
theorem dX5_readNumber_16 : decode cX5_readNumber 16 = .ok (.aload_n 0, 1) := by decide +kernel
theorem dX5_readNumber_17 : decode cX5_readNumber 17 = .ok (.invokevirtual 37, 3) := by decide +kernel
theorem dX5_readNumber_20 : decode cX5_readNumber 20 = .ok (.invokestatic 68, 3) := by decide +kernel
theorem dX5_readNumber_23 : decode cX5_readNumber 23 = .ok (.ifCond .eq 32, 3) := by decide +kernel
theorem dX5_readNumber_26 : decode cX5_readNumber 26 = .ok (.bipush 10, 2) := by decide +kernel
theorem dX5_readNumber_28 : decode cX5_readNumber 28 = .ok (.iload_n 2, 1) := by decide +kernel
theorem dX5_readNumber_29 : decode cX5_readNumber 29 = .ok (.imul, 1) := by decide +kernel
theorem dX5_readNumber_30 : decode cX5_readNumber 30 = .ok (.aload_n 0, 1) := by decide +kernel
theorem dX5_readNumber_31 : decode cX5_readNumber 31 = .ok (.invokevirtual 37, 3) := by decide +kernel
theorem dX5_readNumber_34 : decode cX5_readNumber 34 = .ok (.iadd, 1) := by decide +kernel
theorem dX5_readNumber_35 : decode cX5_readNumber 35 = .ok (.bipush 48, 2) := by decide +kernel
theorem dX5_readNumber_37 : decode cX5_readNumber 37 = .ok (.isub, 1) := by decide +kernel
theorem dX5_readNumber_38 : decode cX5_readNumber 38 = .ok (.istore_n 2, 1) := by decide +kernel
theorem dX5_readNumber_39 : decode cX5_readNumber 39 = .ok (.iinc 3 1, 3) := by decide +kernel
theorem dX5_readNumber_42 : decode cX5_readNumber 42 = .ok (.aload_n 0, 1) := by decide +kernel
theorem dX5_readNumber_43 : decode cX5_readNumber 43 = .ok (.dup, 1) := by decide +kernel
theorem dX5_readNumber_44 : decode cX5_readNumber 44 = .ok (.getfield 19, 3) := by decide +kernel
theorem dX5_readNumber_47 : decode cX5_readNumber 47 = .ok (.iconst 1, 1) := by decide +kernel
theorem dX5_readNumber_48 : decode cX5_readNumber 48 = .ok (.iadd, 1) := by decide +kernel
theorem dX5_readNumber_49 : decode cX5_readNumber 49 = .ok (.putfield 19, 3) := by decide +kernel
theorem dX5_readNumber_52 : decode cX5_readNumber 52 = .ok (.goto (-48), 3) := by decide +kernel
theorem dX5_readNumber_55 : decode cX5_readNumber 55 = .ok (.iload_n 3, 1) := by decide +kernel
theorem dX5_readNumber_56 : decode cX5_readNumber 56 = .ok (.ifCond .ne 8, 3) := by decide +kernel
theorem dX5_readNumber_59 : decode cX5_readNumber 59 = .ok (.aload_n 0, 1) := by decide +kernel
theorem dX5_readNumber_60 : decode cX5_readNumber 60 = .ok (.iconst 1, 1) := by decide +kernel
theorem dX5_readNumber_61 : decode cX5_readNumber 61 = .ok (.putfield 22, 3) := by decide +kernel
theorem dX5_readNumber_64 : decode cX5_readNumber 64 = .ok (.iload_n 2, 1) := by decide +kernel
theorem dX5_readNumber_65 : decode cX5_readNumber 65 = .ok (.ireturn, 1) := by decide +kernel
set_option maxRecDepth 20000 in
theorem ggX5_pass_X5_look : GoodIn wsX5_pass wsX5_look := goodIn_ca (goodIn_r _ [7, 2, 8, 9, 10, 11, 12, 13] (by decide +kernel) (by decide +kernel)) (goodIn_sub (fun _ h => List.mem_cons_of_mem _ (List.mem_append_right _ h)) (by decide +kernel))
set_option maxRecDepth 20000 in
theorem gX5_pass_X5_look : GoodIn wsX5_pass (wsV RX5 37 RX5 yX5_look wsX5_look) := goodIn_app (goodIn_of _ (by decide +kernel)) ggX5_pass_X5_look
theorem dX5_pass_0 : decode cX5_pass 0 = .ok (.aload_n 0, 1) := by decide +kernel
theorem dX5_pass_1 : decode cX5_pass 1 = .ok (.getfield 22, 3) := by decide +kernel
theorem dX5_pass_4 : decode cX5_pass 4 = .ok (.ifCond .ne 11, 3) := by decide +kernel
theorem dX5_pass_7 : decode cX5_pass 7 = .ok (.aload_n 0, 1) := by decide +kernel
theorem dX5_pass_8 : decode cX5_pass 8 = .ok (.invokevirtual 37, 3) := by decide +kernel
theorem dX5_pass_11 : decode cX5_pass 11 = .ok (.iload_n 1, 1) := by decide +kernel
theorem dX5_pass_12 : decode cX5_pass 12 = .ok (.if_icmp .eq 10, 3) := by decide +kernel
theorem dX5_pass_15 : decode cX5_pass 15 = .ok (.aload_n 0, 1) := by decide +kernel
theorem dX5_pass_16 : decode cX5_pass 16 = .ok (.iconst 1, 1) := by decide +kernel
theorem dX5_pass_17 : decode cX5_pass 17 = .ok (.putfield 22, 3) := by decide +kernel
theorem dX5_pass_20 : decode cX5_pass 20 = .ok (.iconst 0, 1) := by decide +kernel
theorem dX5_pass_21 : decode cX5_pass 21 = .ok (.ireturn, 1) := by decide +kernel
theorem dX5_pass_22 : decode cX5_pass 22 = .ok (.aload_n 0, 1) := by decide +kernel
theorem dX5_pass_23 : decode cX5_pass 23 = .ok (.dup, 1) := by decide +kernel
theorem dX5_pass_24 : decode cX5_pass 24 = .ok (.getfield 19, 3) := by decide +kernel
theorem dX5_pass_27 : decode cX5_pass 27 = .ok (.iconst 1, 1) := by decide +kernel
theorem dX5_pass_28 : decode cX5_pass 28 = .ok (.iadd, 1) := by decide +kernel
theorem dX5_pass_29 : decode cX5_pass 29 = .ok (.putfield 19, 3) := by decide +kernel
theorem dX5_pass_32 : decode cX5_pass 32 = .ok (.iconst 1, 1) := by decide +kernel
theorem dX5_pass_33 : decode cX5_pass 33 = .ok (.ireturn, 1) := by decide +kernel
theorem dX5_look_0 : decode cX5_look 0 = .ok (.aload_n 0, 1) := by decide +kernel
theorem dX5_look_1 : decode cX5_look 1 = .ok (.getfield 19, 3) := by decide +kernel
theorem dX5_look_4 : decode cX5_look 4 = .ok (.ifCond .lt 35, 3) := by decide +kernel
theorem dX5_look_7 : decode cX5_look 7 = .ok (.aload_n 0, 1) := by decide +kernel
theorem dX5_look_8 : decode cX5_look 8 = .ok (.getfield 19, 3) := by decide +kernel
theorem dX5_look_11 : decode cX5_look 11 = .ok (.aload_n 0, 1) := by decide +kernel
theorem dX5_look_12 : decode cX5_look 12 = .ok (.getfield 15, 3) := by decide +kernel
theorem dX5_look_15 : decode cX5_look 15 = .ok (.if_icmp .ge 24, 3) := by decide +kernel
theorem dX5_look_18 : decode cX5_look 18 = .ok (.aload_n 0, 1) := by decide +kernel
theorem dX5_look_19 : decode cX5_look 19 = .ok (.getfield 19, 3) := by decide +kernel
theorem dX5_look_22 : decode cX5_look 22 = .ok (.bipush 60, 2) := by decide +kernel
theorem dX5_look_24 : decode cX5_look 24 = .ok (.if_icmp .ge 15, 3) := by decide +kernel
theorem dX5_look_27 : decode cX5_look 27 = .ok (.aload_n 0, 1) := by decide +kernel
theorem dX5_look_28 : decode cX5_look 28 = .ok (.getfield 9, 3) := by decide +kernel
theorem dX5_look_31 : decode cX5_look 31 = .ok (.aload_n 0, 1) := by decide +kernel
theorem dX5_look_32 : decode cX5_look 32 = .ok (.getfield 19, 3) := by decide +kernel
theorem dX5_look_35 : decode cX5_look 35 = .ok (.caload, 1) := by decide +kernel
theorem dX5_look_36 : decode cX5_look 36 = .ok (.goto 4, 3) := by decide +kernel
theorem dX5_look_39 : decode cX5_look 39 = .ok (.iconst (-1), 1) := by decide +kernel
theorem dX5_look_40 : decode cX5_look 40 = .ok (.ireturn, 1) := by decide +kernel
theorem dX5_isDigit_0 : decode cX5_isDigit 0 = .ok (.iload_n 0, 1) := by decide +kernel
theorem dX5_isDigit_1 : decode cX5_isDigit 1 = .ok (.bipush 48, 2) := by decide +kernel
theorem dX5_isDigit_3 : decode cX5_isDigit 3 = .ok (.if_icmp .lt 13, 3) := by decide +kernel
theorem dX5_isDigit_6 : decode cX5_isDigit 6 = .ok (.iload_n 0, 1) := by decide +kernel
theorem dX5_isDigit_7 : decode cX5_isDigit 7 = .ok (.bipush 57, 2) := by decide +kernel
theorem dX5_isDigit_9 : decode cX5_isDigit 9 = .ok (.if_icmp .gt 7, 3) := by decide +kernel
theorem dX5_isDigit_12 : decode cX5_isDigit 12 = .ok (.iconst 1, 1) := by decide +kernel
theorem dX5_isDigit_13 : decode cX5_isDigit 13 = .ok (.goto 4, 3) := by decide +kernel
theorem dX5_isDigit_16 : decode cX5_isDigit 16 = .ok (.iconst 0, 1) := by decide +kernel
theorem dX5_isDigit_17 : decode cX5_isDigit 17 = .ok (.ireturn, 1) := by decide +kernel
theorem dX6_init_0 : decode cX6_init 0 = .ok (.aload_n 0, 1) := by decide +kernel
theorem dX6_init_1 : decode cX6_init 1 = .ok (.invokespecial 3, 3) := by decide +kernel
theorem dX6_init_4 : decode cX6_init 4 = .ok (.aload_n 0, 1) := by decide +kernel
theorem dX6_init_5 : decode cX6_init 5 = .ok (.iconst (-1), 1) := by decide +kernel
theorem dX6_init_6 : decode cX6_init 6 = .ok (.putfield 9, 3) := by decide +kernel
theorem dX6_init_9 : decode cX6_init 9 = .ok (.aload_n 0, 1) := by decide +kernel
theorem dX6_init_10 : decode cX6_init 10 = .ok (.iconst 0, 1) := by decide +kernel
theorem dX6_init_11 : decode cX6_init 11 = .ok (.putfield 15, 3) := by decide +kernel
theorem dX6_init_14 : decode cX6_init 14 = .ok (.aload_n 0, 1) := by decide +kernel
theorem dX6_init_15 : decode cX6_init 15 = .ok (.iconst 0, 1) := by decide +kernel
theorem dX6_init_16 : decode cX6_init 16 = .ok (.putfield 18, 3) := by decide +kernel
theorem dX6_init_19 : decode cX6_init 19 = .ok (.aload_n 0, 1) := by decide +kernel
theorem dX6_init_20 : decode cX6_init 20 = .ok (.iconst 0, 1) := by decide +kernel
theorem dX6_init_21 : decode cX6_init 21 = .ok (.putfield 21, 3) := by decide +kernel
theorem dX6_init_24 : decode cX6_init 24 = .ok (.aload_n 0, 1) := by decide +kernel
theorem dX6_init_25 : decode cX6_init 25 = .ok (.iconst 0, 1) := by decide +kernel
theorem dX6_init_26 : decode cX6_init 26 = .ok (.putfield 24, 3) := by decide +kernel
theorem dX6_init_29 : decode cX6_init 29 = .ok (.aload_n 0, 1) := by decide +kernel
theorem dX6_init_30 : decode cX6_init 30 = .ok (.aload_n 1, 1) := by decide +kernel
theorem dX6_init_31 : decode cX6_init 31 = .ok (.putfield 27, 3) := by decide +kernel
theorem dX6_init_34 : decode cX6_init 34 = .ok (.return_, 1) := by decide +kernel
theorem dX6_place_0 : decode cX6_place 0 = .ok (.aload_n 0, 1) := by decide +kernel
theorem dX6_place_1 : decode cX6_place 1 = .ok (.getfield 9, 3) := by decide +kernel
theorem dX6_place_4 : decode cX6_place 4 = .ok (.ireturn, 1) := by decide +kernel
set_option maxRecDepth 20000 in
theorem ggX6_stepsTo_X6_reaches : GoodIn wsX6_stepsTo wsX6_reaches := goodIn_ca (goodIn_r _ [7, 8, 9, 10, 1, 2, 11, 12, 13, 14, 15, 16, 17, 18, 19, 20, 21, 22, 23, 24, 25, 26, 27, 28, 29, 30, 31, 32, 33, 34, 35, 36, 37, 38, 39, 40, 41, 42, 43, 44, 45, 46, 6, 47, 48, 49, 50, 51, 52, 53, 54, 55, 56, 57, 58, 59, 60, 61, 62, 63, 64, 65, 66, 67, 68, 69, 70, 71, 72, 73] (by decide +kernel) (by decide +kernel)) (goodIn_sub (fun _ h => List.mem_cons_of_mem _ (List.mem_append_right _ h)) (by decide +kernel))
set_option maxRecDepth 20000 in
theorem gX6_stepsTo_X6_reaches : GoodIn wsX6_stepsTo (wsV RX6 31 RX6 yX6_reaches wsX6_reaches) := goodIn_app (goodIn_of _ (by decide +kernel)) ggX6_stepsTo_X6_reaches
theorem dX6_stepsTo_0 : decode cX6_stepsTo 0 = .ok (.aload_n 0, 1) := by decide +kernel
theorem dX6_stepsTo_1 : decode cX6_stepsTo 1 = .ok (.iload_n 1, 1) := by decide +kernel
theorem dX6_stepsTo_2 : decode cX6_stepsTo 2 = .ok (.bipush 25, 2) := by decide +kernel
theorem dX6_stepsTo_4 : decode cX6_stepsTo 4 = .ok (.invokevirtual 31, 3) := by decide +kernel
theorem dX6_stepsTo_7 : decode cX6_stepsTo 7 = .ok (.pop, 1) := by decide +kernel
theorem dX6_stepsTo_8 : decode cX6_stepsTo 8 = .ok (.aload_n 0, 1) := by decide +kernel
theorem dX6_stepsTo_9 : decode cX6_stepsTo 9 = .ok (.getfield 18, 3) := by decide +kernel
theorem dX6_stepsTo_12 : decode cX6_stepsTo 12 = .ok (.aload_n 0, 1) := by decide +kernel
theorem dX6_stepsTo_13 : decode cX6_stepsTo 13 = .ok (.getfield 21, 3) := by decide +kernel
theorem dX6_stepsTo_16 : decode cX6_stepsTo 16 = .ok (.iadd, 1) := by decide +kernel
theorem dX6_stepsTo_17 : decode cX6_stepsTo 17 = .ok (.ireturn, 1) := by decide +kernel
set_option maxRecDepth 20000 in
theorem ggX6_fallsTo_X6_reaches : GoodIn wsX6_fallsTo wsX6_reaches := goodIn_ca (goodIn_r _ [6, 7, 8, 9, 10, 1, 11, 12, 13, 14, 15, 16, 17, 18, 19, 20, 21, 22, 23, 24, 25, 26, 27, 28, 29, 30, 31, 32, 33, 34, 35, 36, 37, 38, 39, 40, 41, 42, 43, 44, 45, 46, 5, 47, 48, 49, 50, 51, 52, 53, 54, 55, 56, 57, 58, 59, 60, 61, 62, 63, 64, 65, 66, 67, 68, 69, 70, 71, 72, 73] (by decide +kernel) (by decide +kernel)) (goodIn_sub (fun _ h => List.mem_cons_of_mem _ (List.mem_append_right _ h)) (by decide +kernel))
set_option maxRecDepth 20000 in
theorem gX6_fallsTo_X6_reaches : GoodIn wsX6_fallsTo (wsV RX6 31 RX6 yX6_reaches wsX6_reaches) := goodIn_app (goodIn_of _ (by decide +kernel)) ggX6_fallsTo_X6_reaches
theorem dX6_fallsTo_0 : decode cX6_fallsTo 0 = .ok (.aload_n 0, 1) := by decide +kernel
theorem dX6_fallsTo_1 : decode cX6_fallsTo 1 = .ok (.iload_n 1, 1) := by decide +kernel
theorem dX6_fallsTo_2 : decode cX6_fallsTo 2 = .ok (.bipush 25, 2) := by decide +kernel
theorem dX6_fallsTo_4 : decode cX6_fallsTo 4 = .ok (.invokevirtual 31, 3) := by decide +kernel
theorem dX6_fallsTo_7 : decode cX6_fallsTo 7 = .ok (.pop, 1) := by decide +kernel
theorem dX6_fallsTo_8 : decode cX6_fallsTo 8 = .ok (.aload_n 0, 1) := by decide +kernel
theorem dX6_fallsTo_9 : decode cX6_fallsTo 9 = .ok (.getfield 21, 3) := by decide +kernel
theorem dX6_fallsTo_12 : decode cX6_fallsTo 12 = .ok (.ireturn, 1) := by decide +kernel
set_option maxRecDepth 20000 in
theorem ggX6_spansTo_X6_reaches : GoodIn wsX6_spansTo wsX6_reaches := goodIn_ca (goodIn_r _ [6, 7, 8, 9, 10, 11, 1, 12, 13, 14, 15, 16, 17, 18, 19, 20, 21, 22, 23, 24, 25, 26, 27, 28, 29, 30, 31, 32, 33, 34, 35, 36, 37, 38, 39, 40, 41, 42, 43, 44, 45, 46, 5, 47, 48, 49, 50, 51, 52, 53, 54, 55, 56, 57, 58, 59, 60, 61, 62, 63, 64, 65, 66, 67, 68, 69, 70, 71, 72, 73] (by decide +kernel) (by decide +kernel)) (goodIn_sub (fun _ h => List.mem_cons_of_mem _ (List.mem_append_right _ h)) (by decide +kernel))
set_option maxRecDepth 20000 in
theorem gX6_spansTo_X6_reaches : GoodIn wsX6_spansTo (wsV RX6 31 RX6 yX6_reaches wsX6_reaches) := goodIn_app (goodIn_of _ (by decide +kernel)) ggX6_spansTo_X6_reaches
theorem dX6_spansTo_0 : decode cX6_spansTo 0 = .ok (.aload_n 0, 1) := by decide +kernel
theorem dX6_spansTo_1 : decode cX6_spansTo 1 = .ok (.iload_n 1, 1) := by decide +kernel
theorem dX6_spansTo_2 : decode cX6_spansTo 2 = .ok (.bipush 25, 2) := by decide +kernel
theorem dX6_spansTo_4 : decode cX6_spansTo 4 = .ok (.invokevirtual 31, 3) := by decide +kernel
theorem dX6_spansTo_7 : decode cX6_spansTo 7 = .ok (.pop, 1) := by decide +kernel
theorem dX6_spansTo_8 : decode cX6_spansTo 8 = .ok (.aload_n 0, 1) := by decide +kernel
theorem dX6_spansTo_9 : decode cX6_spansTo 9 = .ok (.getfield 24, 3) := by decide +kernel
theorem dX6_spansTo_12 : decode cX6_spansTo 12 = .ok (.ireturn, 1) := by decide +kernel
set_option maxRecDepth 20000 in
theorem ggX6_reaches_X3_beginning : GoodIn wsX6_reaches wsX3_beginning := goodIn_ca (goodIn_r _ [11, 12, 13, 14, 10, 15, 16, 17, 18, 19, 20, 21, 22, 23, 24, 25, 26, 27, 28, 29, 30, 31, 32, 33, 34, 35, 36, 37, 38, 64, 65, 66, 67, 68, 69] (by decide +kernel) (by decide +kernel)) (goodIn_sub (fun _ h => List.mem_cons_of_mem _ (List.mem_append_right _ h)) (by decide +kernel))
set_option maxRecDepth 20000 in
theorem gX6_reaches_X3_beginning : GoodIn wsX6_reaches (wsV RX6 35 RX3 yX3_beginning wsX3_beginning) := goodIn_app (goodIn_of _ (by decide +kernel)) ggX6_reaches_X3_beginning
set_option maxRecDepth 20000 in
theorem ggX6_reaches_X6_step : GoodIn wsX6_reaches wsX6_step := goodIn_ca (goodIn_r _ [43, 2, 3, 1, 6, 4, 5, 44, 45, 46, 10, 47, 16, 48, 49, 50, 51, 25, 26, 27, 28, 29, 52, 53, 54, 55, 56, 57, 31, 32, 33, 17, 18, 19, 20, 34, 35, 36, 37, 38, 58, 59, 60, 61, 62, 63, 64, 65, 66, 67, 68, 69] (by decide +kernel) (by decide +kernel)) (goodIn_sub (fun _ h => List.mem_cons_of_mem _ (List.mem_append_right _ h)) (by decide +kernel))
set_option maxRecDepth 20000 in
theorem gX6_reaches_X6_step : GoodIn wsX6_reaches (wsV RX6 41 RX6 yX6_step wsX6_step) := goodIn_app (goodIn_of _ (by decide +kernel)) ggX6_reaches_X6_step
theorem dX6_reaches_0 : decode cX6_reaches 0 = .ok (.aload_n 0, 1) := by decide +kernel
theorem dX6_reaches_1 : decode cX6_reaches 1 = .ok (.iconst (-1), 1) := by decide +kernel
theorem dX6_reaches_2 : decode cX6_reaches 2 = .ok (.putfield 9, 3) := by decide +kernel
theorem dX6_reaches_5 : decode cX6_reaches 5 = .ok (.aload_n 0, 1) := by decide +kernel
theorem dX6_reaches_6 : decode cX6_reaches 6 = .ok (.aload_n 0, 1) := by decide +kernel
theorem dX6_reaches_7 : decode cX6_reaches 7 = .ok (.getfield 27, 3) := by decide +kernel
theorem dX6_reaches_10 : decode cX6_reaches 10 = .ok (.invokevirtual 35, 3) := by decide +kernel
theorem dX6_reaches_13 : decode cX6_reaches 13 = .ok (.putfield 15, 3) := by decide +kernel
theorem dX6_reaches_16 : decode cX6_reaches 16 = .ok (.aload_n 0, 1) := by decide +kernel
theorem dX6_reaches_17 : decode cX6_reaches 17 = .ok (.iconst 0, 1) := by decide +kernel
theorem dX6_reaches_18 : decode cX6_reaches 18 = .ok (.putfield 18, 3) := by decide +kernel
theorem dX6_reaches_21 : decode cX6_reaches 21 = .ok (.aload_n 0, 1) := by decide +kernel
theorem dX6_reaches_22 : decode cX6_reaches 22 = .ok (.iconst 0, 1) := by decide +kernel
theorem dX6_reaches_23 : decode cX6_reaches 23 = .ok (.putfield 21, 3) := by decide +kernel
theorem dX6_reaches_26 : decode cX6_reaches 26 = .ok (.aload_n 0, 1) := by decide +kernel
theorem dX6_reaches_27 : decode cX6_reaches 27 = .ok (.iconst 0, 1) := by decide +kernel
theorem dX6_reaches_28 : decode cX6_reaches 28 = .ok (.putfield 24, 3) := by decide +kernel
theorem dX6_reaches_31 : decode cX6_reaches 31 = .ok (.iconst 1, 1) := by decide +kernel
theorem dX6_reaches_32 : decode cX6_reaches 32 = .ok (.istore_n 3, 1) := by decide +kernel
theorem dX6_reaches_33 : decode cX6_reaches 33 = .ok (.iconst 0, 1) := by decide +kernel
theorem dX6_reaches_34 : decode cX6_reaches 34 = .ok (.istore 4, 2) := by decide +kernel
theorem dX6_reaches_36 : decode cX6_reaches 36 = .ok (.iload 4, 2) := by decide +kernel
theorem dX6_reaches_38 : decode cX6_reaches 38 = .ok (.sipush 1000, 3) := by decide +kernel
theorem dX6_reaches_41 : decode cX6_reaches 41 = .ok (.if_icmp .ge 27, 3) := by decide +kernel
theorem dX6_reaches_44 : decode cX6_reaches 44 = .ok (.iload_n 3, 1) := by decide +kernel
theorem dX6_reaches_45 : decode cX6_reaches 45 = .ok (.ifCond .eq 23, 3) := by decide +kernel
theorem dX6_reaches_48 : decode cX6_reaches 48 = .ok (.aload_n 0, 1) := by decide +kernel
theorem dX6_reaches_49 : decode cX6_reaches 49 = .ok (.getfield 18, 3) := by decide +kernel
theorem dX6_reaches_52 : decode cX6_reaches 52 = .ok (.iload_n 2, 1) := by decide +kernel
theorem dX6_reaches_53 : decode cX6_reaches 53 = .ok (.if_icmp .ge 15, 3) := by decide +kernel
theorem dX6_reaches_56 : decode cX6_reaches 56 = .ok (.aload_n 0, 1) := by decide +kernel
theorem dX6_reaches_57 : decode cX6_reaches 57 = .ok (.iload_n 1, 1) := by decide +kernel
theorem dX6_reaches_58 : decode cX6_reaches 58 = .ok (.invokevirtual 41, 3) := by decide +kernel
theorem dX6_reaches_61 : decode cX6_reaches 61 = .ok (.istore_n 3, 1) := by decide +kernel
theorem dX6_reaches_62 : decode cX6_reaches 62 = .ok (.iinc 4 1, 3) := by decide +kernel
theorem dX6_reaches_65 : decode cX6_reaches 65 = .ok (.goto (-29), 3) := by decide +kernel
theorem dX6_reaches_68 : decode cX6_reaches 68 = .ok (.aload_n 0, 1) := by decide +kernel
theorem dX6_reaches_69 : decode cX6_reaches 69 = .ok (.getfield 18, 3) := by decide +kernel
theorem dX6_reaches_72 : decode cX6_reaches 72 = .ok (.iload_n 2, 1) := by decide +kernel
theorem dX6_reaches_73 : decode cX6_reaches 73 = .ok (.if_icmp .lt 7, 3) := by decide +kernel
theorem dX6_reaches_76 : decode cX6_reaches 76 = .ok (.iconst 1, 1) := by decide +kernel
theorem dX6_reaches_77 : decode cX6_reaches 77 = .ok (.goto 4, 3) := by decide +kernel
theorem dX6_reaches_80 : decode cX6_reaches 80 = .ok (.iconst 0, 1) := by decide +kernel
theorem dX6_reaches_81 : decode cX6_reaches 81 = .ok (.ireturn, 1) := by decide +kernel
set_option maxRecDepth 20000 in
theorem ggX6_step_X3_nextOn : GoodIn wsX6_step wsX3_nextOn := goodIn_ca (goodIn_r _ [11, 12, 13, 14, 15, 10, 16, 17, 18, 19, 20, 21, 46, 47, 48, 49, 50, 51] (by decide +kernel) (by decide +kernel)) (goodIn_sub (fun _ h => List.mem_cons_of_mem _ (List.mem_append_right _ h)) (by decide +kernel))
set_option maxRecDepth 20000 in
theorem gX6_step_X3_nextOn : GoodIn wsX6_step (wsV RX6 45 RX3 yX3_nextOn wsX3_nextOn) := goodIn_app (goodIn_of _ (by decide +kernel)) ggX6_step_X3_nextOn
set_option maxRecDepth 20000 in
theorem ggX6_step_X3_hasLowerKey : GoodIn wsX6_step wsX3_hasLowerKey := goodIn_ca (goodIn_r _ [25, 26, 18, 19, 20, 10, 21, 12, 46, 47, 48, 49, 50, 51] (by decide +kernel) (by decide +kernel)) (goodIn_sub (fun _ h => List.mem_cons_of_mem _ (List.mem_append_right _ h)) (by decide +kernel))
set_option maxRecDepth 20000 in
theorem gX6_step_X3_hasLowerKey : GoodIn wsX6_step (wsV RX6 49 RX3 yX3_hasLowerKey wsX3_hasLowerKey) := goodIn_app (goodIn_of _ (by decide +kernel)) ggX6_step_X3_hasLowerKey
set_option maxRecDepth 20000 in
theorem ggX6_step_X3_usedUpTo : GoodIn wsX6_step wsX3_usedUpTo := goodIn_r _ [30, 31, 32, 33, 34, 35, 36, 37, 10, 38, 39, 46, 47, 48, 49, 50, 51] (by decide +kernel) (by decide +kernel)
set_option maxRecDepth 20000 in
theorem gX6_step_X3_usedUpTo : GoodIn wsX6_step (wsV RX6 52 RX3 yX3_usedUpTo wsX3_usedUpTo) := goodIn_app (goodIn_of _ (by decide +kernel)) ggX6_step_X3_usedUpTo
theorem dX6_step_0 : decode cX6_step 0 = .ok (.aload_n 0, 1) := by decide +kernel
theorem dX6_step_1 : decode cX6_step 1 = .ok (.getfield 27, 3) := by decide +kernel
theorem dX6_step_4 : decode cX6_step 4 = .ok (.aload_n 0, 1) := by decide +kernel
theorem dX6_step_5 : decode cX6_step 5 = .ok (.getfield 15, 3) := by decide +kernel
theorem dX6_step_8 : decode cX6_step 8 = .ok (.aload_n 0, 1) := by decide +kernel
theorem dX6_step_9 : decode cX6_step 9 = .ok (.getfield 9, 3) := by decide +kernel
theorem dX6_step_12 : decode cX6_step 12 = .ok (.invokevirtual 45, 3) := by decide +kernel
theorem dX6_step_15 : decode cX6_step 15 = .ok (.istore_n 2, 1) := by decide +kernel
theorem dX6_step_16 : decode cX6_step 16 = .ok (.aload_n 0, 1) := by decide +kernel
theorem dX6_step_17 : decode cX6_step 17 = .ok (.getfield 27, 3) := by decide +kernel
theorem dX6_step_20 : decode cX6_step 20 = .ok (.iload_n 2, 1) := by decide +kernel
theorem dX6_step_21 : decode cX6_step 21 = .ok (.iload_n 1, 1) := by decide +kernel
theorem dX6_step_22 : decode cX6_step 22 = .ok (.invokevirtual 49, 3) := by decide +kernel
theorem dX6_step_25 : decode cX6_step 25 = .ok (.ifCond .eq 35, 3) := by decide +kernel
theorem dX6_step_28 : decode cX6_step 28 = .ok (.aload_n 0, 1) := by decide +kernel
theorem dX6_step_29 : decode cX6_step 29 = .ok (.dup, 1) := by decide +kernel
theorem dX6_step_30 : decode cX6_step 30 = .ok (.getfield 24, 3) := by decide +kernel
theorem dX6_step_33 : decode cX6_step 33 = .ok (.iload_n 2, 1) := by decide +kernel
theorem dX6_step_34 : decode cX6_step 34 = .ok (.aload_n 0, 1) := by decide +kernel
theorem dX6_step_35 : decode cX6_step 35 = .ok (.getfield 9, 3) := by decide +kernel
theorem dX6_step_38 : decode cX6_step 38 = .ok (.isub, 1) := by decide +kernel
theorem dX6_step_39 : decode cX6_step 39 = .ok (.iadd, 1) := by decide +kernel
theorem dX6_step_40 : decode cX6_step 40 = .ok (.putfield 24, 3) := by decide +kernel
theorem dX6_step_43 : decode cX6_step 43 = .ok (.aload_n 0, 1) := by decide +kernel
theorem dX6_step_44 : decode cX6_step 44 = .ok (.iload_n 2, 1) := by decide +kernel
theorem dX6_step_45 : decode cX6_step 45 = .ok (.putfield 9, 3) := by decide +kernel
theorem dX6_step_48 : decode cX6_step 48 = .ok (.aload_n 0, 1) := by decide +kernel
theorem dX6_step_49 : decode cX6_step 49 = .ok (.dup, 1) := by decide +kernel
theorem dX6_step_50 : decode cX6_step 50 = .ok (.getfield 18, 3) := by decide +kernel
theorem dX6_step_53 : decode cX6_step 53 = .ok (.iconst 1, 1) := by decide +kernel
theorem dX6_step_54 : decode cX6_step 54 = .ok (.iadd, 1) := by decide +kernel
theorem dX6_step_55 : decode cX6_step 55 = .ok (.putfield 18, 3) := by decide +kernel
theorem dX6_step_58 : decode cX6_step 58 = .ok (.iconst 1, 1) := by decide +kernel
theorem dX6_step_59 : decode cX6_step 59 = .ok (.ireturn, 1) := by decide +kernel
theorem dX6_step_60 : decode cX6_step 60 = .ok (.aload_n 0, 1) := by decide +kernel
theorem dX6_step_61 : decode cX6_step 61 = .ok (.getfield 15, 3) := by decide +kernel
theorem dX6_step_64 : decode cX6_step 64 = .ok (.ifCond .ne 5, 3) := by decide +kernel
theorem dX6_step_67 : decode cX6_step 67 = .ok (.iconst 0, 1) := by decide +kernel
theorem dX6_step_68 : decode cX6_step 68 = .ok (.ireturn, 1) := by decide +kernel
theorem dX6_step_69 : decode cX6_step 69 = .ok (.aload_n 0, 1) := by decide +kernel
theorem dX6_step_70 : decode cX6_step 70 = .ok (.aload_n 0, 1) := by decide +kernel
theorem dX6_step_71 : decode cX6_step 71 = .ok (.getfield 27, 3) := by decide +kernel
theorem dX6_step_74 : decode cX6_step 74 = .ok (.aload_n 0, 1) := by decide +kernel
theorem dX6_step_75 : decode cX6_step 75 = .ok (.getfield 15, 3) := by decide +kernel
theorem dX6_step_78 : decode cX6_step 78 = .ok (.iconst 1, 1) := by decide +kernel
theorem dX6_step_79 : decode cX6_step 79 = .ok (.isub, 1) := by decide +kernel
theorem dX6_step_80 : decode cX6_step 80 = .ok (.invokevirtual 52, 3) := by decide +kernel
theorem dX6_step_83 : decode cX6_step 83 = .ok (.putfield 15, 3) := by decide +kernel
theorem dX6_step_86 : decode cX6_step 86 = .ok (.aload_n 0, 1) := by decide +kernel
theorem dX6_step_87 : decode cX6_step 87 = .ok (.dup, 1) := by decide +kernel
theorem dX6_step_88 : decode cX6_step 88 = .ok (.getfield 21, 3) := by decide +kernel
theorem dX6_step_91 : decode cX6_step 91 = .ok (.iconst 1, 1) := by decide +kernel
theorem dX6_step_92 : decode cX6_step 92 = .ok (.iadd, 1) := by decide +kernel
theorem dX6_step_93 : decode cX6_step 93 = .ok (.putfield 21, 3) := by decide +kernel
theorem dX6_step_96 : decode cX6_step 96 = .ok (.iconst 1, 1) := by decide +kernel
theorem dX6_step_97 : decode cX6_step 97 = .ok (.ireturn, 1) := by decide +kernel
set_option maxRecDepth 20000 in
theorem ggX6_stepsBackFrom_X3_beginning : GoodIn wsX6_stepsBackFrom wsX3_beginning := goodIn_ca (goodIn_r _ [6, 7, 8, 9, 5, 10, 11, 12, 13, 14, 15, 16, 17, 18, 19, 20, 21, 22, 23, 24, 25, 26, 27, 28, 29, 30, 31, 32, 33, 58, 59, 60, 61, 62, 63] (by decide +kernel) (by decide +kernel)) (goodIn_sub (fun _ h => List.mem_cons_of_mem _ (List.mem_append_right _ h)) (by decide +kernel))
set_option maxRecDepth 20000 in
theorem gX6_stepsBackFrom_X3_beginning : GoodIn wsX6_stepsBackFrom (wsV RX6 35 RX3 yX3_beginning wsX3_beginning) := goodIn_app (goodIn_of _ (by decide +kernel)) ggX6_stepsBackFrom_X3_beginning
set_option maxRecDepth 20000 in
theorem ggX6_stepsBackFrom_X3_lowerKeys : GoodIn wsX6_stepsBackFrom wsX3_lowerKeys := goodIn_ca (goodIn_r _ [37, 11, 38, 58, 59, 60, 61, 62, 63] (by decide +kernel) (by decide +kernel)) (goodIn_sub (fun _ h => List.mem_cons_of_mem _ (List.mem_append_right _ h)) (by decide +kernel))
set_option maxRecDepth 20000 in
theorem gX6_stepsBackFrom_X3_lowerKeys : GoodIn wsX6_stepsBackFrom (wsV RX6 56 RX3 yX3_lowerKeys wsX3_lowerKeys) := goodIn_app (goodIn_of _ (by decide +kernel)) ggX6_stepsBackFrom_X3_lowerKeys
set_option maxRecDepth 20000 in
theorem ggX6_stepsBackFrom_X3_usedAbove : GoodIn wsX6_stepsBackFrom wsX3_usedAbove := goodIn_r _ [42, 29, 30, 31, 5, 32, 33, 58, 59, 60, 61, 62, 63] (by decide +kernel) (by decide +kernel)
set_option maxRecDepth 20000 in
theorem gX6_stepsBackFrom_X3_usedAbove : GoodIn wsX6_stepsBackFrom (wsV RX6 59 RX3 yX3_usedAbove wsX3_usedAbove) := goodIn_app (goodIn_of _ (by decide +kernel)) ggX6_stepsBackFrom_X3_usedAbove
set_option maxRecDepth 20000 in
theorem ggX6_stepsBackFrom_X3_hasRung : GoodIn wsX6_stepsBackFrom wsX3_hasRung := goodIn_ca (goodIn_r _ [46, 20, 21, 22, 23, 5, 24, 11, 58, 59, 60, 61, 62, 63] (by decide +kernel) (by decide +kernel)) (goodIn_sub (fun _ h => List.mem_cons_of_mem _ (List.mem_append_right _ h)) (by decide +kernel))
set_option maxRecDepth 20000 in
theorem gX6_stepsBackFrom_X3_hasRung : GoodIn wsX6_stepsBackFrom (wsV RX6 62 RX3 yX3_hasRung wsX3_hasRung) := goodIn_app (goodIn_of _ (by decide +kernel)) ggX6_stepsBackFrom_X3_hasRung
set_option maxRecDepth 20000 in
theorem ggX6_stepsBackFrom_X3_previousOn : GoodIn wsX6_stepsBackFrom wsX3_previousOn := goodIn_ca (goodIn_r _ [50, 51, 44, 45, 5, 46, 20, 21, 22, 23, 24, 11, 58, 59, 60, 61, 62, 63] (by decide +kernel) (by decide +kernel)) (goodIn_sub (fun _ h => List.mem_cons_of_mem _ (List.mem_append_right _ h)) (by decide +kernel))
set_option maxRecDepth 20000 in
theorem gX6_stepsBackFrom_X3_previousOn : GoodIn wsX6_stepsBackFrom (wsV RX6 65 RX3 yX3_previousOn wsX3_previousOn) := goodIn_app (goodIn_of _ (by decide +kernel)) ggX6_stepsBackFrom_X3_previousOn
theorem dX6_stepsBackFrom_0 : decode cX6_stepsBackFrom 0 = .ok (.aload_n 0, 1) := by decide +kernel
theorem dX6_stepsBackFrom_1 : decode cX6_stepsBackFrom 1 = .ok (.getfield 27, 3) := by decide +kernel
theorem dX6_stepsBackFrom_4 : decode cX6_stepsBackFrom 4 = .ok (.invokevirtual 35, 3) := by decide +kernel
theorem dX6_stepsBackFrom_7 : decode cX6_stepsBackFrom 7 = .ok (.istore_n 2, 1) := by decide +kernel
theorem dX6_stepsBackFrom_8 : decode cX6_stepsBackFrom 8 = .ok (.aload_n 0, 1) := by decide +kernel
theorem dX6_stepsBackFrom_9 : decode cX6_stepsBackFrom 9 = .ok (.getfield 27, 3) := by decide +kernel
theorem dX6_stepsBackFrom_12 : decode cX6_stepsBackFrom 12 = .ok (.iload_n 1, 1) := by decide +kernel
theorem dX6_stepsBackFrom_13 : decode cX6_stepsBackFrom 13 = .ok (.invokevirtual 56, 3) := by decide +kernel
theorem dX6_stepsBackFrom_16 : decode cX6_stepsBackFrom 16 = .ok (.iconst 1, 1) := by decide +kernel
theorem dX6_stepsBackFrom_17 : decode cX6_stepsBackFrom 17 = .ok (.isub, 1) := by decide +kernel
theorem dX6_stepsBackFrom_18 : decode cX6_stepsBackFrom 18 = .ok (.istore_n 3, 1) := by decide +kernel
theorem dX6_stepsBackFrom_19 : decode cX6_stepsBackFrom 19 = .ok (.iconst 0, 1) := by decide +kernel
theorem dX6_stepsBackFrom_20 : decode cX6_stepsBackFrom 20 = .ok (.istore 4, 2) := by decide +kernel
theorem dX6_stepsBackFrom_22 : decode cX6_stepsBackFrom 22 = .ok (.iconst 0, 1) := by decide +kernel
theorem dX6_stepsBackFrom_23 : decode cX6_stepsBackFrom 23 = .ok (.istore 5, 2) := by decide +kernel
theorem dX6_stepsBackFrom_25 : decode cX6_stepsBackFrom 25 = .ok (.iload_n 3, 1) := by decide +kernel
theorem dX6_stepsBackFrom_26 : decode cX6_stepsBackFrom 26 = .ok (.iconst (-1), 1) := by decide +kernel
theorem dX6_stepsBackFrom_27 : decode cX6_stepsBackFrom 27 = .ok (.if_icmp .ne 9, 3) := by decide +kernel
theorem dX6_stepsBackFrom_30 : decode cX6_stepsBackFrom 30 = .ok (.iload 4, 2) := by decide +kernel
theorem dX6_stepsBackFrom_32 : decode cX6_stepsBackFrom 32 = .ok (.iload_n 2, 1) := by decide +kernel
theorem dX6_stepsBackFrom_33 : decode cX6_stepsBackFrom 33 = .ok (.if_icmp .eq 64, 3) := by decide +kernel
theorem dX6_stepsBackFrom_36 : decode cX6_stepsBackFrom 36 = .ok (.iload 5, 2) := by decide +kernel
theorem dX6_stepsBackFrom_38 : decode cX6_stepsBackFrom 38 = .ok (.sipush 1000, 3) := by decide +kernel
theorem dX6_stepsBackFrom_41 : decode cX6_stepsBackFrom 41 = .ok (.if_icmp .ge 56, 3) := by decide +kernel
theorem dX6_stepsBackFrom_44 : decode cX6_stepsBackFrom 44 = .ok (.aload_n 0, 1) := by decide +kernel
theorem dX6_stepsBackFrom_45 : decode cX6_stepsBackFrom 45 = .ok (.getfield 27, 3) := by decide +kernel
theorem dX6_stepsBackFrom_48 : decode cX6_stepsBackFrom 48 = .ok (.iload 4, 2) := by decide +kernel
theorem dX6_stepsBackFrom_50 : decode cX6_stepsBackFrom 50 = .ok (.invokevirtual 59, 3) := by decide +kernel
theorem dX6_stepsBackFrom_53 : decode cX6_stepsBackFrom 53 = .ok (.istore 6, 2) := by decide +kernel
theorem dX6_stepsBackFrom_55 : decode cX6_stepsBackFrom 55 = .ok (.iload_n 3, 1) := by decide +kernel
theorem dX6_stepsBackFrom_56 : decode cX6_stepsBackFrom 56 = .ok (.iconst (-1), 1) := by decide +kernel
theorem dX6_stepsBackFrom_57 : decode cX6_stepsBackFrom 57 = .ok (.if_icmp .eq 16, 3) := by decide +kernel
theorem dX6_stepsBackFrom_60 : decode cX6_stepsBackFrom 60 = .ok (.aload_n 0, 1) := by decide +kernel
theorem dX6_stepsBackFrom_61 : decode cX6_stepsBackFrom 61 = .ok (.getfield 27, 3) := by decide +kernel
theorem dX6_stepsBackFrom_64 : decode cX6_stepsBackFrom 64 = .ok (.iload_n 3, 1) := by decide +kernel
theorem dX6_stepsBackFrom_65 : decode cX6_stepsBackFrom 65 = .ok (.iload 6, 2) := by decide +kernel
theorem dX6_stepsBackFrom_67 : decode cX6_stepsBackFrom 67 = .ok (.invokevirtual 62, 3) := by decide +kernel
theorem dX6_stepsBackFrom_70 : decode cX6_stepsBackFrom 70 = .ok (.ifCond .eq 10, 3) := by decide +kernel
theorem dX6_stepsBackFrom_73 : decode cX6_stepsBackFrom 73 = .ok (.iload 6, 2) := by decide +kernel
theorem dX6_stepsBackFrom_75 : decode cX6_stepsBackFrom 75 = .ok (.istore 4, 2) := by decide +kernel
theorem dX6_stepsBackFrom_77 : decode cX6_stepsBackFrom 77 = .ok (.goto 14, 3) := by decide +kernel
theorem dX6_stepsBackFrom_80 : decode cX6_stepsBackFrom 80 = .ok (.aload_n 0, 1) := by decide +kernel
theorem dX6_stepsBackFrom_81 : decode cX6_stepsBackFrom 81 = .ok (.getfield 27, 3) := by decide +kernel
theorem dX6_stepsBackFrom_84 : decode cX6_stepsBackFrom 84 = .ok (.iload 4, 2) := by decide +kernel
theorem dX6_stepsBackFrom_86 : decode cX6_stepsBackFrom 86 = .ok (.iload_n 3, 1) := by decide +kernel
theorem dX6_stepsBackFrom_87 : decode cX6_stepsBackFrom 87 = .ok (.invokevirtual 65, 3) := by decide +kernel
theorem dX6_stepsBackFrom_90 : decode cX6_stepsBackFrom 90 = .ok (.istore_n 3, 1) := by decide +kernel
theorem dX6_stepsBackFrom_91 : decode cX6_stepsBackFrom 91 = .ok (.iinc 5 1, 3) := by decide +kernel
theorem dX6_stepsBackFrom_94 : decode cX6_stepsBackFrom 94 = .ok (.goto (-69), 3) := by decide +kernel
theorem dX6_stepsBackFrom_97 : decode cX6_stepsBackFrom 97 = .ok (.iload 5, 2) := by decide +kernel
theorem dX6_stepsBackFrom_99 : decode cX6_stepsBackFrom 99 = .ok (.ireturn, 1) := by decide +kernel
