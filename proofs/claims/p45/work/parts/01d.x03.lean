theorem dX0_init_0 : decode cX0_init 0 = .ok (.aload_n 0, 1) := by decide +kernel
theorem dX0_init_1 : decode cX0_init 1 = .ok (.invokespecial 3, 3) := by decide +kernel
theorem dX0_init_4 : decode cX0_init 4 = .ok (.aload_n 0, 1) := by decide +kernel
theorem dX0_init_5 : decode cX0_init 5 = .ok (.iconst 0, 1) := by decide +kernel
theorem dX0_init_6 : decode cX0_init 6 = .ok (.putfield 9, 3) := by decide +kernel
theorem dX0_init_9 : decode cX0_init 9 = .ok (.aload_n 0, 1) := by decide +kernel
theorem dX0_init_10 : decode cX0_init 10 = .ok (.iconst 0, 1) := by decide +kernel
theorem dX0_init_11 : decode cX0_init 11 = .ok (.putfield 15, 3) := by decide +kernel
theorem dX0_init_14 : decode cX0_init 14 = .ok (.aload_n 0, 1) := by decide +kernel
theorem dX0_init_15 : decode cX0_init 15 = .ok (.iconst 0, 1) := by decide +kernel
theorem dX0_init_16 : decode cX0_init 16 = .ok (.putfield 18, 3) := by decide +kernel
theorem dX0_init_19 : decode cX0_init 19 = .ok (.aload_n 0, 1) := by decide +kernel
theorem dX0_init_20 : decode cX0_init 20 = .ok (.iconst 0, 1) := by decide +kernel
theorem dX0_init_21 : decode cX0_init 21 = .ok (.putfield 21, 3) := by decide +kernel
theorem dX0_init_24 : decode cX0_init 24 = .ok (.aload_n 0, 1) := by decide +kernel
theorem dX0_init_25 : decode cX0_init 25 = .ok (.aload_n 1, 1) := by decide +kernel
theorem dX0_init_26 : decode cX0_init 26 = .ok (.putfield 24, 3) := by decide +kernel
theorem dX0_init_29 : decode cX0_init 29 = .ok (.return_, 1) := by decide +kernel
theorem dX0_hasRefused_0 : decode cX0_hasRefused 0 = .ok (.aload_n 0, 1) := by decide +kernel
theorem dX0_hasRefused_1 : decode cX0_hasRefused 1 = .ok (.getfield 15, 3) := by decide +kernel
theorem dX0_hasRefused_4 : decode cX0_hasRefused 4 = .ok (.ifCond .eq 7, 3) := by decide +kernel
theorem dX0_hasRefused_7 : decode cX0_hasRefused 7 = .ok (.iconst 1, 1) := by decide +kernel
theorem dX0_hasRefused_8 : decode cX0_hasRefused 8 = .ok (.goto 4, 3) := by decide +kernel
theorem dX0_hasRefused_11 : decode cX0_hasRefused 11 = .ok (.iconst 0, 1) := by decide +kernel
theorem dX0_hasRefused_12 : decode cX0_hasRefused 12 = .ok (.ireturn, 1) := by decide +kernel
theorem dX0_keptReason_0 : decode cX0_keptReason 0 = .ok (.aload_n 0, 1) := by decide +kernel
theorem dX0_keptReason_1 : decode cX0_keptReason 1 = .ok (.getfield 15, 3) := by decide +kernel
theorem dX0_keptReason_4 : decode cX0_keptReason 4 = .ok (.ireturn, 1) := by decide +kernel
theorem dX0_keptDetail_0 : decode cX0_keptDetail 0 = .ok (.aload_n 0, 1) := by decide +kernel
theorem dX0_keptDetail_1 : decode cX0_keptDetail 1 = .ok (.getfield 18, 3) := by decide +kernel
theorem dX0_keptDetail_4 : decode cX0_keptDetail 4 = .ok (.ireturn, 1) := by decide +kernel
theorem dX0_keptIndex_0 : decode cX0_keptIndex 0 = .ok (.aload_n 0, 1) := by decide +kernel
theorem dX0_keptIndex_1 : decode cX0_keptIndex 1 = .ok (.getfield 21, 3) := by decide +kernel
theorem dX0_keptIndex_4 : decode cX0_keptIndex 4 = .ok (.ireturn, 1) := by decide +kernel
set_option maxRecDepth 20000 in
theorem ggX0_refuses_X0_reasonAgainst : GoodIn wsX0_refuses wsX0_reasonAgainst := goodIn_ca (goodIn_r _ [9, 10, 11, 12, 13, 14, 15, 16, 17, 18, 8, 19, 20, 21, 22, 23, 24, 25, 26, 27, 28, 29, 30, 31, 32, 33, 34, 35, 36, 37, 38, 39, 40, 41, 42, 43, 44, 45, 46, 47, 48, 49, 50, 51, 52, 53, 54, 55, 56, 57, 1, 58, 59, 60, 61, 62, 63, 64, 65, 66, 67, 68, 69, 70, 71, 72, 73, 74, 75, 76, 77, 78, 79, 80, 81, 82, 83, 84, 85, 86, 87, 88, 89, 90, 91, 92, 98, 99, 100, 101, 93, 94, 95, 96, 97, 102, 103, 104, 105, 106, 107] (by decide +kernel) (by decide +kernel)) (goodIn_sub (fun _ h => List.mem_cons_of_mem _ (List.mem_append_right _ h)) (by decide +kernel))
set_option maxRecDepth 20000 in
theorem gX0_refuses_X0_reasonAgainst : GoodIn wsX0_refuses (wsV RX0 28 RX0 yX0_reasonAgainst wsX0_reasonAgainst) := goodIn_app (goodIn_of _ (by decide +kernel)) ggX0_refuses_X0_reasonAgainst
theorem dX0_refuses_0 : decode cX0_refuses 0 = .ok (.aload_n 0, 1) := by decide +kernel
theorem dX0_refuses_1 : decode cX0_refuses 1 = .ok (.iconst 0, 1) := by decide +kernel
theorem dX0_refuses_2 : decode cX0_refuses 2 = .ok (.putfield 9, 3) := by decide +kernel
theorem dX0_refuses_5 : decode cX0_refuses 5 = .ok (.aload_n 0, 1) := by decide +kernel
theorem dX0_refuses_6 : decode cX0_refuses 6 = .ok (.aload_n 1, 1) := by decide +kernel
theorem dX0_refuses_7 : decode cX0_refuses 7 = .ok (.invokevirtual 28, 3) := by decide +kernel
theorem dX0_refuses_10 : decode cX0_refuses 10 = .ok (.istore_n 3, 1) := by decide +kernel
theorem dX0_refuses_11 : decode cX0_refuses 11 = .ok (.iload_n 3, 1) := by decide +kernel
theorem dX0_refuses_12 : decode cX0_refuses 12 = .ok (.ifCond .ne 5, 3) := by decide +kernel
theorem dX0_refuses_15 : decode cX0_refuses 15 = .ok (.iconst 0, 1) := by decide +kernel
theorem dX0_refuses_16 : decode cX0_refuses 16 = .ok (.ireturn, 1) := by decide +kernel
theorem dX0_refuses_17 : decode cX0_refuses 17 = .ok (.aload_n 0, 1) := by decide +kernel
theorem dX0_refuses_18 : decode cX0_refuses 18 = .ok (.iload_n 3, 1) := by decide +kernel
theorem dX0_refuses_19 : decode cX0_refuses 19 = .ok (.putfield 15, 3) := by decide +kernel
theorem dX0_refuses_22 : decode cX0_refuses 22 = .ok (.aload_n 0, 1) := by decide +kernel
theorem dX0_refuses_23 : decode cX0_refuses 23 = .ok (.aload_n 0, 1) := by decide +kernel
theorem dX0_refuses_24 : decode cX0_refuses 24 = .ok (.getfield 9, 3) := by decide +kernel
theorem dX0_refuses_27 : decode cX0_refuses 27 = .ok (.putfield 18, 3) := by decide +kernel
theorem dX0_refuses_30 : decode cX0_refuses 30 = .ok (.aload_n 0, 1) := by decide +kernel
theorem dX0_refuses_31 : decode cX0_refuses 31 = .ok (.iload_n 2, 1) := by decide +kernel
theorem dX0_refuses_32 : decode cX0_refuses 32 = .ok (.putfield 21, 3) := by decide +kernel
theorem dX0_refuses_35 : decode cX0_refuses 35 = .ok (.iconst 1, 1) := by decide +kernel
theorem dX0_refuses_36 : decode cX0_refuses 36 = .ok (.ireturn, 1) := by decide +kernel
set_option maxRecDepth 20000 in
theorem ggX0_reasonAgainst_X4_sign : GoodIn wsX0_reasonAgainst wsX4_sign := goodIn_r _ [5, 6, 86, 87, 88, 89] (by decide +kernel) (by decide +kernel)
set_option maxRecDepth 20000 in
theorem gX0_reasonAgainst_X4_sign : GoodIn wsX0_reasonAgainst (wsV RX0 32 RX4 yX4_sign wsX4_sign) := goodIn_app (goodIn_of _ (by decide +kernel)) ggX0_reasonAgainst_X4_sign
set_option maxRecDepth 20000 in
theorem ggX0_reasonAgainst_X0_againstFiling : GoodIn wsX0_reasonAgainst wsX0_againstFiling := goodIn_ca (goodIn_r _ [11, 12, 13, 14, 15, 4, 16, 17, 18, 19, 10, 20, 21, 22, 23, 24, 25, 26, 27, 28, 29, 30, 31, 32, 33, 34, 35, 36, 37, 38, 39, 40, 41, 42, 43, 44, 45, 46, 47, 48, 49, 50, 51, 52, 53, 54, 90, 91, 92, 93, 94, 86, 87, 88, 89, 95, 96, 97, 98, 99, 100] (by decide +kernel) (by decide +kernel)) (goodIn_sub (fun _ h => List.mem_cons_of_mem _ (List.mem_append_right _ h)) (by decide +kernel))
set_option maxRecDepth 20000 in
theorem gX0_reasonAgainst_X0_againstFiling : GoodIn wsX0_reasonAgainst (wsV RX0 38 RX0 yX0_againstFiling wsX0_againstFiling) := goodIn_app (goodIn_of _ (by decide +kernel)) ggX0_reasonAgainst_X0_againstFiling
set_option maxRecDepth 20000 in
theorem ggX0_reasonAgainst_X0_againstFolder : GoodIn wsX0_reasonAgainst wsX0_againstFolder := goodIn_ca (goodIn_r _ [58, 12, 13, 14, 15, 4, 16, 17, 18, 19, 10, 20, 21, 22, 23, 24, 25, 31, 32, 33, 34, 35, 36, 37, 38, 39, 40, 41, 42, 43, 44, 45, 46, 47, 48, 49, 50, 1, 2, 3, 5, 6, 59, 60, 61, 62, 63, 64, 65, 66, 67, 68, 69, 70, 71, 72, 73, 74, 75, 76, 90, 91, 92, 93, 94, 86, 87, 88, 89, 95, 96, 97, 98, 99, 100] (by decide +kernel) (by decide +kernel)) (goodIn_sub (fun _ h => List.mem_cons_of_mem _ (List.mem_append_right _ h)) (by decide +kernel))
set_option maxRecDepth 20000 in
theorem gX0_reasonAgainst_X0_againstFolder : GoodIn wsX0_reasonAgainst (wsV RX0 41 RX0 yX0_againstFolder wsX0_againstFolder) := goodIn_app (goodIn_of _ (by decide +kernel)) ggX0_reasonAgainst_X0_againstFolder
set_option maxRecDepth 20000 in
theorem ggX0_reasonAgainst_X0_againstLevel : GoodIn wsX0_reasonAgainst wsX0_againstLevel := goodIn_r _ [80, 12, 13, 14, 15, 4, 16, 17, 18, 19, 10, 20, 81, 82, 83, 34, 84, 85, 1, 2, 3, 5, 6, 46, 47, 48, 49, 50, 90, 91, 92, 93, 94, 86, 87, 88, 89, 95, 96, 97, 98, 99, 100] (by decide +kernel) (by decide +kernel)
set_option maxRecDepth 20000 in
theorem gX0_reasonAgainst_X0_againstLevel : GoodIn wsX0_reasonAgainst (wsV RX0 44 RX0 yX0_againstLevel wsX0_againstLevel) := goodIn_app (goodIn_of _ (by decide +kernel)) ggX0_reasonAgainst_X0_againstLevel
theorem dX0_reasonAgainst_0 : decode cX0_reasonAgainst 0 = .ok (.aload_n 1, 1) := by decide +kernel
theorem dX0_reasonAgainst_1 : decode cX0_reasonAgainst 1 = .ok (.invokevirtual 32, 3) := by decide +kernel
theorem dX0_reasonAgainst_4 : decode cX0_reasonAgainst 4 = .ok (.lookupswitch 94 #[(43, 76), (45, 82), (94, 76), (100, 82), (102, 88), (114, 88), (117, 82), (119, 82)], 76) := by decide +kernel
theorem dX0_reasonAgainst_80 : decode cX0_reasonAgainst 80 = .ok (.aload_n 0, 1) := by decide +kernel
theorem dX0_reasonAgainst_81 : decode cX0_reasonAgainst 81 = .ok (.aload_n 1, 1) := by decide +kernel
theorem dX0_reasonAgainst_82 : decode cX0_reasonAgainst 82 = .ok (.invokevirtual 38, 3) := by decide +kernel
theorem dX0_reasonAgainst_85 : decode cX0_reasonAgainst 85 = .ok (.ireturn, 1) := by decide +kernel
theorem dX0_reasonAgainst_86 : decode cX0_reasonAgainst 86 = .ok (.aload_n 0, 1) := by decide +kernel
theorem dX0_reasonAgainst_87 : decode cX0_reasonAgainst 87 = .ok (.aload_n 1, 1) := by decide +kernel
theorem dX0_reasonAgainst_88 : decode cX0_reasonAgainst 88 = .ok (.invokevirtual 41, 3) := by decide +kernel
theorem dX0_reasonAgainst_91 : decode cX0_reasonAgainst 91 = .ok (.ireturn, 1) := by decide +kernel
theorem dX0_reasonAgainst_92 : decode cX0_reasonAgainst 92 = .ok (.aload_n 0, 1) := by decide +kernel
theorem dX0_reasonAgainst_93 : decode cX0_reasonAgainst 93 = .ok (.aload_n 1, 1) := by decide +kernel
theorem dX0_reasonAgainst_94 : decode cX0_reasonAgainst 94 = .ok (.invokevirtual 44, 3) := by decide +kernel
theorem dX0_reasonAgainst_97 : decode cX0_reasonAgainst 97 = .ok (.ireturn, 1) := by decide +kernel
theorem dX0_reasonAgainst_98 : decode cX0_reasonAgainst 98 = .ok (.iconst 0, 1) := by decide +kernel
theorem dX0_reasonAgainst_99 : decode cX0_reasonAgainst 99 = .ok (.ireturn, 1) := by decide +kernel
set_option maxRecDepth 20000 in
theorem ggX0_againstFiling_X4_number : GoodIn wsX0_againstFiling wsX4_number := goodIn_r _ [6, 7, 51, 52, 53, 54] (by decide +kernel) (by decide +kernel)
set_option maxRecDepth 20000 in
theorem gX0_againstFiling_X4_number : GoodIn wsX0_againstFiling (wsV RX0 47 RX4 yX4_number wsX4_number) := goodIn_app (goodIn_of _ (by decide +kernel)) ggX0_againstFiling_X4_number
set_option maxRecDepth 20000 in
theorem ggX0_againstFiling_X0_outside : GoodIn wsX0_againstFiling wsX0_outside := goodIn_r _ [11] (by decide +kernel) (by decide +kernel)
set_option maxRecDepth 20000 in
theorem gX0_againstFiling_X0_outside : GoodIn wsX0_againstFiling (va_wsS RX0 51 yX0_outside wsX0_outside) := goodIn_app (goodIn_of _ (by decide +kernel)) ggX0_againstFiling_X0_outside
set_option maxRecDepth 20000 in
theorem ggX0_againstFiling_X4_weight : GoodIn wsX0_againstFiling wsX4_weight := goodIn_r _ [15, 16, 51, 52, 53, 54] (by decide +kernel) (by decide +kernel)
set_option maxRecDepth 20000 in
theorem gX0_againstFiling_X4_weight : GoodIn wsX0_againstFiling (wsV RX0 55 RX4 yX4_weight wsX4_weight) := goodIn_app (goodIn_of _ (by decide +kernel)) ggX0_againstFiling_X4_weight
set_option maxRecDepth 20000 in
theorem ggX0_againstFiling_X4_rungs : GoodIn wsX0_againstFiling wsX4_rungs := goodIn_r _ [20, 21, 51, 52, 53, 54] (by decide +kernel) (by decide +kernel)
set_option maxRecDepth 20000 in
theorem gX0_againstFiling_X4_rungs : GoodIn wsX0_againstFiling (wsV RX0 58 RX4 yX4_rungs wsX4_rungs) := goodIn_app (goodIn_of _ (by decide +kernel)) ggX0_againstFiling_X4_rungs
set_option maxRecDepth 20000 in
theorem ggX0_againstFiling_X3_placeWith : GoodIn wsX0_againstFiling wsX3_placeWith := goodIn_ca (goodIn_r _ [26, 27, 28, 29, 30, 25, 31, 32, 33, 34, 35, 36, 55, 56, 57, 58, 59, 60] (by decide +kernel) (by decide +kernel)) (goodIn_sub (fun _ h => List.mem_cons_of_mem _ (List.mem_append_right _ h)) (by decide +kernel))
set_option maxRecDepth 20000 in
theorem gX0_againstFiling_X3_placeWith : GoodIn wsX0_againstFiling (wsV RX0 61 RX3 yX3_placeWith wsX3_placeWith) := goodIn_app (goodIn_of _ (by decide +kernel)) ggX0_againstFiling_X3_placeWith
set_option maxRecDepth 20000 in
theorem ggX0_againstFiling_X0_refusal : GoodIn wsX0_againstFiling wsX0_refusal := goodIn_r _ [40, 41, 46, 47, 48, 49, 50] (by decide +kernel) (by decide +kernel)
set_option maxRecDepth 20000 in
theorem gX0_againstFiling_X0_refusal : GoodIn wsX0_againstFiling (wsV RX0 67 RX0 yX0_refusal wsX0_refusal) := goodIn_app (goodIn_of _ (by decide +kernel)) ggX0_againstFiling_X0_refusal
set_option maxRecDepth 20000 in
theorem ggX0_againstFiling_X3_isFull : GoodIn wsX0_againstFiling wsX3_isFull := goodIn_r _ [45, 32, 55, 56, 57, 58, 59, 60] (by decide +kernel) (by decide +kernel)
set_option maxRecDepth 20000 in
theorem gX0_againstFiling_X3_isFull : GoodIn wsX0_againstFiling (wsV RX0 71 RX3 yX3_isFull wsX3_isFull) := goodIn_app (goodIn_of _ (by decide +kernel)) ggX0_againstFiling_X3_isFull
theorem dX0_againstFiling_0 : decode cX0_againstFiling 0 = .ok (.aload_n 1, 1) := by decide +kernel
theorem dX0_againstFiling_1 : decode cX0_againstFiling 1 = .ok (.invokevirtual 47, 3) := by decide +kernel
theorem dX0_againstFiling_4 : decode cX0_againstFiling 4 = .ok (.iconst 0, 1) := by decide +kernel
theorem dX0_againstFiling_5 : decode cX0_againstFiling 5 = .ok (.sipush 999, 3) := by decide +kernel
theorem dX0_againstFiling_8 : decode cX0_againstFiling 8 = .ok (.invokestatic 51, 3) := by decide +kernel
theorem dX0_againstFiling_11 : decode cX0_againstFiling 11 = .ok (.ifCond .ne 28, 3) := by decide +kernel
theorem dX0_againstFiling_14 : decode cX0_againstFiling 14 = .ok (.aload_n 1, 1) := by decide +kernel
theorem dX0_againstFiling_15 : decode cX0_againstFiling 15 = .ok (.invokevirtual 55, 3) := by decide +kernel
theorem dX0_againstFiling_18 : decode cX0_againstFiling 18 = .ok (.iconst 0, 1) := by decide +kernel
theorem dX0_againstFiling_19 : decode cX0_againstFiling 19 = .ok (.bipush 99, 2) := by decide +kernel
theorem dX0_againstFiling_21 : decode cX0_againstFiling 21 = .ok (.invokestatic 51, 3) := by decide +kernel
theorem dX0_againstFiling_24 : decode cX0_againstFiling 24 = .ok (.ifCond .ne 15, 3) := by decide +kernel
theorem dX0_againstFiling_27 : decode cX0_againstFiling 27 = .ok (.aload_n 1, 1) := by decide +kernel
theorem dX0_againstFiling_28 : decode cX0_againstFiling 28 = .ok (.invokevirtual 58, 3) := by decide +kernel
theorem dX0_againstFiling_31 : decode cX0_againstFiling 31 = .ok (.iconst 1, 1) := by decide +kernel
theorem dX0_againstFiling_32 : decode cX0_againstFiling 32 = .ok (.iconst 5, 1) := by decide +kernel
theorem dX0_againstFiling_33 : decode cX0_againstFiling 33 = .ok (.invokestatic 51, 3) := by decide +kernel
theorem dX0_againstFiling_36 : decode cX0_againstFiling 36 = .ok (.ifCond .eq 5, 3) := by decide +kernel
theorem dX0_againstFiling_39 : decode cX0_againstFiling 39 = .ok (.iconst 1, 1) := by decide +kernel
theorem dX0_againstFiling_40 : decode cX0_againstFiling 40 = .ok (.ireturn, 1) := by decide +kernel
theorem dX0_againstFiling_41 : decode cX0_againstFiling 41 = .ok (.aload_n 0, 1) := by decide +kernel
theorem dX0_againstFiling_42 : decode cX0_againstFiling 42 = .ok (.getfield 24, 3) := by decide +kernel
theorem dX0_againstFiling_45 : decode cX0_againstFiling 45 = .ok (.aload_n 1, 1) := by decide +kernel
theorem dX0_againstFiling_46 : decode cX0_againstFiling 46 = .ok (.invokevirtual 47, 3) := by decide +kernel
theorem dX0_againstFiling_49 : decode cX0_againstFiling 49 = .ok (.invokevirtual 61, 3) := by decide +kernel
theorem dX0_againstFiling_52 : decode cX0_againstFiling 52 = .ok (.istore_n 2, 1) := by decide +kernel
theorem dX0_againstFiling_53 : decode cX0_againstFiling 53 = .ok (.iload_n 2, 1) := by decide +kernel
theorem dX0_againstFiling_54 : decode cX0_againstFiling 54 = .ok (.iconst (-1), 1) := by decide +kernel
theorem dX0_againstFiling_55 : decode cX0_againstFiling 55 = .ok (.if_icmp .eq 10, 3) := by decide +kernel
theorem dX0_againstFiling_58 : decode cX0_againstFiling 58 = .ok (.aload_n 0, 1) := by decide +kernel
theorem dX0_againstFiling_59 : decode cX0_againstFiling 59 = .ok (.iconst 4, 1) := by decide +kernel
theorem dX0_againstFiling_60 : decode cX0_againstFiling 60 = .ok (.iload_n 2, 1) := by decide +kernel
theorem dX0_againstFiling_61 : decode cX0_againstFiling 61 = .ok (.invokevirtual 67, 3) := by decide +kernel
theorem dX0_againstFiling_64 : decode cX0_againstFiling 64 = .ok (.ireturn, 1) := by decide +kernel
theorem dX0_againstFiling_65 : decode cX0_againstFiling 65 = .ok (.aload_n 0, 1) := by decide +kernel
theorem dX0_againstFiling_66 : decode cX0_againstFiling 66 = .ok (.getfield 24, 3) := by decide +kernel
theorem dX0_againstFiling_69 : decode cX0_againstFiling 69 = .ok (.invokevirtual 71, 3) := by decide +kernel
theorem dX0_againstFiling_72 : decode cX0_againstFiling 72 = .ok (.ifCond .eq 13, 3) := by decide +kernel
theorem dX0_againstFiling_75 : decode cX0_againstFiling 75 = .ok (.aload_n 0, 1) := by decide +kernel
theorem dX0_againstFiling_76 : decode cX0_againstFiling 76 = .ok (.iconst 2, 1) := by decide +kernel
theorem dX0_againstFiling_77 : decode cX0_againstFiling 77 = .ok (.bipush 24, 2) := by decide +kernel
theorem dX0_againstFiling_79 : decode cX0_againstFiling 79 = .ok (.invokevirtual 67, 3) := by decide +kernel
theorem dX0_againstFiling_82 : decode cX0_againstFiling 82 = .ok (.goto 4, 3) := by decide +kernel
theorem dX0_againstFiling_85 : decode cX0_againstFiling 85 = .ok (.iconst 0, 1) := by decide +kernel
theorem dX0_againstFiling_86 : decode cX0_againstFiling 86 = .ok (.ireturn, 1) := by decide +kernel
set_option maxRecDepth 20000 in
theorem ggX0_againstFolder_X4_number : GoodIn wsX0_againstFolder wsX4_number := goodIn_r _ [6, 7, 65, 66, 67, 68] (by decide +kernel) (by decide +kernel)
set_option maxRecDepth 20000 in
theorem gX0_againstFolder_X4_number : GoodIn wsX0_againstFolder (wsV RX0 47 RX4 yX4_number wsX4_number) := goodIn_app (goodIn_of _ (by decide +kernel)) ggX0_againstFolder_X4_number
set_option maxRecDepth 20000 in
theorem ggX0_againstFolder_X0_outside : GoodIn wsX0_againstFolder wsX0_outside := goodIn_r _ [11] (by decide +kernel) (by decide +kernel)
set_option maxRecDepth 20000 in
theorem gX0_againstFolder_X0_outside : GoodIn wsX0_againstFolder (va_wsS RX0 51 yX0_outside wsX0_outside) := goodIn_app (goodIn_of _ (by decide +kernel)) ggX0_againstFolder_X0_outside
set_option maxRecDepth 20000 in
theorem ggX0_againstFolder_X4_weight : GoodIn wsX0_againstFolder wsX4_weight := goodIn_r _ [15, 16, 65, 66, 67, 68] (by decide +kernel) (by decide +kernel)
set_option maxRecDepth 20000 in
theorem gX0_againstFolder_X4_weight : GoodIn wsX0_againstFolder (wsV RX0 55 RX4 yX4_weight wsX4_weight) := goodIn_app (goodIn_of _ (by decide +kernel)) ggX0_againstFolder_X4_weight
set_option maxRecDepth 20000 in
theorem ggX0_againstFolder_X3_placeWith : GoodIn wsX0_againstFolder wsX3_placeWith := goodIn_ca (goodIn_r _ [21, 22, 23, 24, 25, 20, 26, 27, 28, 29, 30, 31, 69, 70, 71, 72, 73, 74] (by decide +kernel) (by decide +kernel)) (goodIn_sub (fun _ h => List.mem_cons_of_mem _ (List.mem_append_right _ h)) (by decide +kernel))
set_option maxRecDepth 20000 in
theorem gX0_againstFolder_X3_placeWith : GoodIn wsX0_againstFolder (wsV RX0 61 RX3 yX3_placeWith wsX3_placeWith) := goodIn_app (goodIn_of _ (by decide +kernel)) ggX0_againstFolder_X3_placeWith
set_option maxRecDepth 20000 in
theorem ggX0_againstFolder_X0_refusal : GoodIn wsX0_againstFolder wsX0_refusal := goodIn_r _ [35, 36, 60, 61, 62, 63, 64] (by decide +kernel) (by decide +kernel)
set_option maxRecDepth 20000 in
theorem gX0_againstFolder_X0_refusal : GoodIn wsX0_againstFolder (wsV RX0 67 RX0 yX0_refusal wsX0_refusal) := goodIn_app (goodIn_of _ (by decide +kernel)) ggX0_againstFolder_X0_refusal
set_option maxRecDepth 20000 in
theorem ggX0_againstFolder_X4_sign : GoodIn wsX0_againstFolder wsX4_sign := goodIn_r _ [40, 41, 65, 66, 67, 68] (by decide +kernel) (by decide +kernel)
set_option maxRecDepth 20000 in
theorem gX0_againstFolder_X4_sign : GoodIn wsX0_againstFolder (wsV RX0 32 RX4 yX4_sign wsX4_sign) := goodIn_app (goodIn_of _ (by decide +kernel)) ggX0_againstFolder_X4_sign
set_option maxRecDepth 20000 in
theorem ggX0_againstFolder_X3_weightOf : GoodIn wsX0_againstFolder wsX3_weightOf := goodIn_ca (goodIn_r _ [45, 46, 28, 29, 30, 20, 31, 27, 69, 70, 71, 72, 73, 74] (by decide +kernel) (by decide +kernel)) (goodIn_sub (fun _ h => List.mem_cons_of_mem _ (List.mem_append_right _ h)) (by decide +kernel))
set_option maxRecDepth 20000 in
theorem gX0_againstFolder_X3_weightOf : GoodIn wsX0_againstFolder (wsV RX0 75 RX3 yX3_weightOf wsX3_weightOf) := goodIn_app (goodIn_of _ (by decide +kernel)) ggX0_againstFolder_X3_weightOf
set_option maxRecDepth 20000 in
theorem ggX0_againstFolder_X0_againstWeight : GoodIn wsX0_againstFolder wsX0_againstWeight := goodIn_r _ [50, 32, 33, 34, 10, 35, 36, 60, 61, 62, 63, 64] (by decide +kernel) (by decide +kernel)
set_option maxRecDepth 20000 in
theorem gX0_againstFolder_X0_againstWeight : GoodIn wsX0_againstFolder (wsV RX0 78 RX0 yX0_againstWeight wsX0_againstWeight) := goodIn_app (goodIn_of _ (by decide +kernel)) ggX0_againstFolder_X0_againstWeight
set_option maxRecDepth 20000 in
theorem ggX0_againstFolder_X3_rungsOf : GoodIn wsX0_againstFolder wsX3_rungsOf := goodIn_ca (goodIn_r _ [54, 55, 28, 29, 30, 20, 31, 27, 69, 70, 71, 72, 73, 74] (by decide +kernel) (by decide +kernel)) (goodIn_sub (fun _ h => List.mem_cons_of_mem _ (List.mem_append_right _ h)) (by decide +kernel))
set_option maxRecDepth 20000 in
theorem gX0_againstFolder_X3_rungsOf : GoodIn wsX0_againstFolder (wsV RX0 81 RX3 yX3_rungsOf wsX3_rungsOf) := goodIn_app (goodIn_of _ (by decide +kernel)) ggX0_againstFolder_X3_rungsOf
set_option maxRecDepth 20000 in
theorem ggX0_againstFolder_X0_againstTower : GoodIn wsX0_againstFolder wsX0_againstTower := goodIn_r _ [59, 32, 33, 34, 10, 35, 36, 60, 61, 62, 63, 64] (by decide +kernel) (by decide +kernel)
set_option maxRecDepth 20000 in
theorem gX0_againstFolder_X0_againstTower : GoodIn wsX0_againstFolder (wsV RX0 84 RX0 yX0_againstTower wsX0_againstTower) := goodIn_app (goodIn_of _ (by decide +kernel)) ggX0_againstFolder_X0_againstTower
theorem dX0_againstFolder_0 : decode cX0_againstFolder 0 = .ok (.aload_n 1, 1) := by decide +kernel
theorem dX0_againstFolder_1 : decode cX0_againstFolder 1 = .ok (.invokevirtual 47, 3) := by decide +kernel
theorem dX0_againstFolder_4 : decode cX0_againstFolder 4 = .ok (.iconst 0, 1) := by decide +kernel
theorem dX0_againstFolder_5 : decode cX0_againstFolder 5 = .ok (.sipush 999, 3) := by decide +kernel
theorem dX0_againstFolder_8 : decode cX0_againstFolder 8 = .ok (.invokestatic 51, 3) := by decide +kernel
theorem dX0_againstFolder_11 : decode cX0_againstFolder 11 = .ok (.ifCond .ne 16, 3) := by decide +kernel
theorem dX0_againstFolder_14 : decode cX0_againstFolder 14 = .ok (.aload_n 1, 1) := by decide +kernel
theorem dX0_againstFolder_15 : decode cX0_againstFolder 15 = .ok (.invokevirtual 55, 3) := by decide +kernel
theorem dX0_againstFolder_18 : decode cX0_againstFolder 18 = .ok (.iconst 0, 1) := by decide +kernel
theorem dX0_againstFolder_19 : decode cX0_againstFolder 19 = .ok (.bipush 99, 2) := by decide +kernel
theorem dX0_againstFolder_21 : decode cX0_againstFolder 21 = .ok (.invokestatic 51, 3) := by decide +kernel
theorem dX0_againstFolder_24 : decode cX0_againstFolder 24 = .ok (.ifCond .eq 5, 3) := by decide +kernel
theorem dX0_againstFolder_27 : decode cX0_againstFolder 27 = .ok (.iconst 1, 1) := by decide +kernel
theorem dX0_againstFolder_28 : decode cX0_againstFolder 28 = .ok (.ireturn, 1) := by decide +kernel
theorem dX0_againstFolder_29 : decode cX0_againstFolder 29 = .ok (.aload_n 0, 1) := by decide +kernel
theorem dX0_againstFolder_30 : decode cX0_againstFolder 30 = .ok (.getfield 24, 3) := by decide +kernel
theorem dX0_againstFolder_33 : decode cX0_againstFolder 33 = .ok (.aload_n 1, 1) := by decide +kernel
theorem dX0_againstFolder_34 : decode cX0_againstFolder 34 = .ok (.invokevirtual 47, 3) := by decide +kernel
theorem dX0_againstFolder_37 : decode cX0_againstFolder 37 = .ok (.invokevirtual 61, 3) := by decide +kernel
theorem dX0_againstFolder_40 : decode cX0_againstFolder 40 = .ok (.istore_n 2, 1) := by decide +kernel
theorem dX0_againstFolder_41 : decode cX0_againstFolder 41 = .ok (.iload_n 2, 1) := by decide +kernel
theorem dX0_againstFolder_42 : decode cX0_againstFolder 42 = .ok (.iconst (-1), 1) := by decide +kernel
theorem dX0_againstFolder_43 : decode cX0_againstFolder 43 = .ok (.if_icmp .ne 13, 3) := by decide +kernel
theorem dX0_againstFolder_46 : decode cX0_againstFolder 46 = .ok (.aload_n 0, 1) := by decide +kernel
theorem dX0_againstFolder_47 : decode cX0_againstFolder 47 = .ok (.iconst 3, 1) := by decide +kernel
theorem dX0_againstFolder_48 : decode cX0_againstFolder 48 = .ok (.aload_n 1, 1) := by decide +kernel
theorem dX0_againstFolder_49 : decode cX0_againstFolder 49 = .ok (.invokevirtual 47, 3) := by decide +kernel
theorem dX0_againstFolder_52 : decode cX0_againstFolder 52 = .ok (.invokevirtual 67, 3) := by decide +kernel
theorem dX0_againstFolder_55 : decode cX0_againstFolder 55 = .ok (.ireturn, 1) := by decide +kernel
theorem dX0_againstFolder_56 : decode cX0_againstFolder 56 = .ok (.aload_n 1, 1) := by decide +kernel
theorem dX0_againstFolder_57 : decode cX0_againstFolder 57 = .ok (.invokevirtual 32, 3) := by decide +kernel
theorem dX0_againstFolder_60 : decode cX0_againstFolder 60 = .ok (.bipush 119, 2) := by decide +kernel
theorem dX0_againstFolder_62 : decode cX0_againstFolder 62 = .ok (.if_icmp .ne 20, 3) := by decide +kernel
theorem dX0_againstFolder_65 : decode cX0_againstFolder 65 = .ok (.aload_n 0, 1) := by decide +kernel
theorem dX0_againstFolder_66 : decode cX0_againstFolder 66 = .ok (.aload_n 1, 1) := by decide +kernel
theorem dX0_againstFolder_67 : decode cX0_againstFolder 67 = .ok (.invokevirtual 55, 3) := by decide +kernel
theorem dX0_againstFolder_70 : decode cX0_againstFolder 70 = .ok (.aload_n 0, 1) := by decide +kernel
theorem dX0_againstFolder_71 : decode cX0_againstFolder 71 = .ok (.getfield 24, 3) := by decide +kernel
theorem dX0_againstFolder_74 : decode cX0_againstFolder 74 = .ok (.iload_n 2, 1) := by decide +kernel
theorem dX0_againstFolder_75 : decode cX0_againstFolder 75 = .ok (.invokevirtual 75, 3) := by decide +kernel
theorem dX0_againstFolder_78 : decode cX0_againstFolder 78 = .ok (.invokevirtual 78, 3) := by decide +kernel
theorem dX0_againstFolder_81 : decode cX0_againstFolder 81 = .ok (.ireturn, 1) := by decide +kernel
theorem dX0_againstFolder_82 : decode cX0_againstFolder 82 = .ok (.aload_n 0, 1) := by decide +kernel
theorem dX0_againstFolder_83 : decode cX0_againstFolder 83 = .ok (.aload_n 1, 1) := by decide +kernel
theorem dX0_againstFolder_84 : decode cX0_againstFolder 84 = .ok (.invokevirtual 32, 3) := by decide +kernel
theorem dX0_againstFolder_87 : decode cX0_againstFolder 87 = .ok (.aload_n 0, 1) := by decide +kernel
theorem dX0_againstFolder_88 : decode cX0_againstFolder 88 = .ok (.getfield 24, 3) := by decide +kernel
theorem dX0_againstFolder_91 : decode cX0_againstFolder 91 = .ok (.iload_n 2, 1) := by decide +kernel
theorem dX0_againstFolder_92 : decode cX0_againstFolder 92 = .ok (.invokevirtual 81, 3) := by decide +kernel
theorem dX0_againstFolder_95 : decode cX0_againstFolder 95 = .ok (.invokevirtual 84, 3) := by decide +kernel
theorem dX0_againstFolder_98 : decode cX0_againstFolder 98 = .ok (.ireturn, 1) := by decide +kernel
set_option maxRecDepth 20000 in
theorem ggX0_againstWeight_X0_refusal : GoodIn wsX0_againstWeight wsX0_refusal := goodIn_r _ [5, 6, 7, 8, 9, 10, 11] (by decide +kernel) (by decide +kernel)
set_option maxRecDepth 20000 in
theorem gX0_againstWeight_X0_refusal : GoodIn wsX0_againstWeight (wsV RX0 67 RX0 yX0_refusal wsX0_refusal) := goodIn_app (goodIn_of _ (by decide +kernel)) ggX0_againstWeight_X0_refusal
theorem dX0_againstWeight_0 : decode cX0_againstWeight 0 = .ok (.iload_n 1, 1) := by decide +kernel
theorem dX0_againstWeight_1 : decode cX0_againstWeight 1 = .ok (.iload_n 2, 1) := by decide +kernel
theorem dX0_againstWeight_2 : decode cX0_againstWeight 2 = .ok (.if_icmp .ne 13, 3) := by decide +kernel
theorem dX0_againstWeight_5 : decode cX0_againstWeight 5 = .ok (.aload_n 0, 1) := by decide +kernel
theorem dX0_againstWeight_6 : decode cX0_againstWeight 6 = .ok (.bipush 7, 2) := by decide +kernel
theorem dX0_againstWeight_8 : decode cX0_againstWeight 8 = .ok (.iload_n 1, 1) := by decide +kernel
theorem dX0_againstWeight_9 : decode cX0_againstWeight 9 = .ok (.invokevirtual 67, 3) := by decide +kernel
theorem dX0_againstWeight_12 : decode cX0_againstWeight 12 = .ok (.goto 4, 3) := by decide +kernel
theorem dX0_againstWeight_15 : decode cX0_againstWeight 15 = .ok (.iconst 0, 1) := by decide +kernel
theorem dX0_againstWeight_16 : decode cX0_againstWeight 16 = .ok (.ireturn, 1) := by decide +kernel
set_option maxRecDepth 20000 in
theorem ggX0_againstTower_X0_refusal : GoodIn wsX0_againstTower wsX0_refusal := goodIn_r _ [5, 6, 7, 8, 9, 10, 11] (by decide +kernel) (by decide +kernel)
set_option maxRecDepth 20000 in
theorem gX0_againstTower_X0_refusal : GoodIn wsX0_againstTower (wsV RX0 67 RX0 yX0_refusal wsX0_refusal) := goodIn_app (goodIn_of _ (by decide +kernel)) ggX0_againstTower_X0_refusal
theorem dX0_againstTower_0 : decode cX0_againstTower 0 = .ok (.iload_n 1, 1) := by decide +kernel
theorem dX0_againstTower_1 : decode cX0_againstTower 1 = .ok (.bipush 117, 2) := by decide +kernel
theorem dX0_againstTower_3 : decode cX0_againstTower 3 = .ok (.if_icmp .ne 8, 3) := by decide +kernel
theorem dX0_againstTower_6 : decode cX0_againstTower 6 = .ok (.iload_n 2, 1) := by decide +kernel
theorem dX0_againstTower_7 : decode cX0_againstTower 7 = .ok (.iconst 5, 1) := by decide +kernel
theorem dX0_againstTower_8 : decode cX0_againstTower 8 = .ok (.if_icmp .ge 14, 3) := by decide +kernel
theorem dX0_againstTower_11 : decode cX0_againstTower 11 = .ok (.iload_n 1, 1) := by decide +kernel
theorem dX0_againstTower_12 : decode cX0_againstTower 12 = .ok (.bipush 100, 2) := by decide +kernel
theorem dX0_againstTower_14 : decode cX0_againstTower 14 = .ok (.if_icmp .ne 12, 3) := by decide +kernel
theorem dX0_againstTower_17 : decode cX0_againstTower 17 = .ok (.iload_n 2, 1) := by decide +kernel
theorem dX0_againstTower_18 : decode cX0_againstTower 18 = .ok (.iconst 1, 1) := by decide +kernel
theorem dX0_againstTower_19 : decode cX0_againstTower 19 = .ok (.if_icmp .gt 7, 3) := by decide +kernel
theorem dX0_againstTower_22 : decode cX0_againstTower 22 = .ok (.iconst 1, 1) := by decide +kernel
theorem dX0_againstTower_23 : decode cX0_againstTower 23 = .ok (.goto 4, 3) := by decide +kernel
theorem dX0_againstTower_26 : decode cX0_againstTower 26 = .ok (.iconst 0, 1) := by decide +kernel
theorem dX0_againstTower_27 : decode cX0_againstTower 27 = .ok (.istore_n 3, 1) := by decide +kernel
theorem dX0_againstTower_28 : decode cX0_againstTower 28 = .ok (.iload_n 3, 1) := by decide +kernel
theorem dX0_againstTower_29 : decode cX0_againstTower 29 = .ok (.ifCond .eq 12, 3) := by decide +kernel
theorem dX0_againstTower_32 : decode cX0_againstTower 32 = .ok (.aload_n 0, 1) := by decide +kernel
theorem dX0_againstTower_33 : decode cX0_againstTower 33 = .ok (.iconst 5, 1) := by decide +kernel
theorem dX0_againstTower_34 : decode cX0_againstTower 34 = .ok (.iload_n 2, 1) := by decide +kernel
theorem dX0_againstTower_35 : decode cX0_againstTower 35 = .ok (.invokevirtual 67, 3) := by decide +kernel
theorem dX0_againstTower_38 : decode cX0_againstTower 38 = .ok (.goto 4, 3) := by decide +kernel
theorem dX0_againstTower_41 : decode cX0_againstTower 41 = .ok (.iconst 0, 1) := by decide +kernel
theorem dX0_againstTower_42 : decode cX0_againstTower 42 = .ok (.ireturn, 1) := by decide +kernel
set_option maxRecDepth 20000 in
theorem ggX0_againstLevel_X4_number : GoodIn wsX0_againstLevel wsX4_number := goodIn_r _ [6, 7, 33, 34, 35, 36] (by decide +kernel) (by decide +kernel)
set_option maxRecDepth 20000 in
theorem gX0_againstLevel_X4_number : GoodIn wsX0_againstLevel (wsV RX0 47 RX4 yX4_number wsX4_number) := goodIn_app (goodIn_of _ (by decide +kernel)) ggX0_againstLevel_X4_number
set_option maxRecDepth 20000 in
theorem ggX0_againstLevel_X0_outside : GoodIn wsX0_againstLevel wsX0_outside := goodIn_r _ [11] (by decide +kernel) (by decide +kernel)
set_option maxRecDepth 20000 in
theorem gX0_againstLevel_X0_outside : GoodIn wsX0_againstLevel (va_wsS RX0 51 yX0_outside wsX0_outside) := goodIn_app (goodIn_of _ (by decide +kernel)) ggX0_againstLevel_X0_outside
set_option maxRecDepth 20000 in
theorem ggX0_againstLevel_X3_isHidden : GoodIn wsX0_againstLevel wsX3_isHidden := goodIn_r _ [16, 17, 37, 38, 39, 40, 41, 42] (by decide +kernel) (by decide +kernel)
set_option maxRecDepth 20000 in
theorem gX0_againstLevel_X3_isHidden : GoodIn wsX0_againstLevel (wsV RX0 88 RX3 yX3_isHidden wsX3_isHidden) := goodIn_app (goodIn_of _ (by decide +kernel)) ggX0_againstLevel_X3_isHidden
set_option maxRecDepth 20000 in
theorem ggX0_againstLevel_X4_sign : GoodIn wsX0_againstLevel wsX4_sign := goodIn_r _ [21, 22, 33, 34, 35, 36] (by decide +kernel) (by decide +kernel)
set_option maxRecDepth 20000 in
theorem gX0_againstLevel_X4_sign : GoodIn wsX0_againstLevel (wsV RX0 32 RX4 yX4_sign wsX4_sign) := goodIn_app (goodIn_of _ (by decide +kernel)) ggX0_againstLevel_X4_sign
set_option maxRecDepth 20000 in
theorem ggX0_againstLevel_X0_refusal : GoodIn wsX0_againstLevel wsX0_refusal := goodIn_r _ [26, 27, 28, 29, 30, 31, 32] (by decide +kernel) (by decide +kernel)
set_option maxRecDepth 20000 in
theorem gX0_againstLevel_X0_refusal : GoodIn wsX0_againstLevel (wsV RX0 67 RX0 yX0_refusal wsX0_refusal) := goodIn_app (goodIn_of _ (by decide +kernel)) ggX0_againstLevel_X0_refusal
theorem dX0_againstLevel_0 : decode cX0_againstLevel 0 = .ok (.aload_n 1, 1) := by decide +kernel
theorem dX0_againstLevel_1 : decode cX0_againstLevel 1 = .ok (.invokevirtual 47, 3) := by decide +kernel
theorem dX0_againstLevel_4 : decode cX0_againstLevel 4 = .ok (.istore_n 2, 1) := by decide +kernel
theorem dX0_againstLevel_5 : decode cX0_againstLevel 5 = .ok (.iload_n 2, 1) := by decide +kernel
theorem dX0_againstLevel_6 : decode cX0_againstLevel 6 = .ok (.iconst 1, 1) := by decide +kernel
theorem dX0_againstLevel_7 : decode cX0_againstLevel 7 = .ok (.iconst 4, 1) := by decide +kernel
theorem dX0_againstLevel_8 : decode cX0_againstLevel 8 = .ok (.invokestatic 51, 3) := by decide +kernel
theorem dX0_againstLevel_11 : decode cX0_againstLevel 11 = .ok (.ifCond .eq 5, 3) := by decide +kernel
theorem dX0_againstLevel_14 : decode cX0_againstLevel 14 = .ok (.iconst 1, 1) := by decide +kernel
theorem dX0_againstLevel_15 : decode cX0_againstLevel 15 = .ok (.ireturn, 1) := by decide +kernel
theorem dX0_againstLevel_16 : decode cX0_againstLevel 16 = .ok (.aload_n 0, 1) := by decide +kernel
theorem dX0_againstLevel_17 : decode cX0_againstLevel 17 = .ok (.getfield 24, 3) := by decide +kernel
theorem dX0_againstLevel_20 : decode cX0_againstLevel 20 = .ok (.iload_n 2, 1) := by decide +kernel
theorem dX0_againstLevel_21 : decode cX0_againstLevel 21 = .ok (.invokevirtual 88, 3) := by decide +kernel
theorem dX0_againstLevel_24 : decode cX0_againstLevel 24 = .ok (.aload_n 1, 1) := by decide +kernel
theorem dX0_againstLevel_25 : decode cX0_againstLevel 25 = .ok (.invokevirtual 32, 3) := by decide +kernel
theorem dX0_againstLevel_28 : decode cX0_againstLevel 28 = .ok (.bipush 102, 2) := by decide +kernel
theorem dX0_againstLevel_30 : decode cX0_againstLevel 30 = .ok (.if_icmp .ne 7, 3) := by decide +kernel
theorem dX0_againstLevel_33 : decode cX0_againstLevel 33 = .ok (.iconst 1, 1) := by decide +kernel
theorem dX0_againstLevel_34 : decode cX0_againstLevel 34 = .ok (.goto 4, 3) := by decide +kernel
theorem dX0_againstLevel_37 : decode cX0_againstLevel 37 = .ok (.iconst 0, 1) := by decide +kernel
theorem dX0_againstLevel_38 : decode cX0_againstLevel 38 = .ok (.if_icmp .ne 7, 3) := by decide +kernel
theorem dX0_againstLevel_41 : decode cX0_againstLevel 41 = .ok (.iconst 1, 1) := by decide +kernel
theorem dX0_againstLevel_42 : decode cX0_againstLevel 42 = .ok (.goto 4, 3) := by decide +kernel
theorem dX0_againstLevel_45 : decode cX0_againstLevel 45 = .ok (.iconst 0, 1) := by decide +kernel
theorem dX0_againstLevel_46 : decode cX0_againstLevel 46 = .ok (.istore_n 3, 1) := by decide +kernel
theorem dX0_againstLevel_47 : decode cX0_againstLevel 47 = .ok (.iload_n 3, 1) := by decide +kernel
theorem dX0_againstLevel_48 : decode cX0_againstLevel 48 = .ok (.ifCond .eq 13, 3) := by decide +kernel
theorem dX0_againstLevel_51 : decode cX0_againstLevel 51 = .ok (.aload_n 0, 1) := by decide +kernel
theorem dX0_againstLevel_52 : decode cX0_againstLevel 52 = .ok (.bipush 6, 2) := by decide +kernel
theorem dX0_againstLevel_54 : decode cX0_againstLevel 54 = .ok (.iload_n 2, 1) := by decide +kernel
theorem dX0_againstLevel_55 : decode cX0_againstLevel 55 = .ok (.invokevirtual 67, 3) := by decide +kernel
theorem dX0_againstLevel_58 : decode cX0_againstLevel 58 = .ok (.goto 4, 3) := by decide +kernel
theorem dX0_againstLevel_61 : decode cX0_againstLevel 61 = .ok (.iconst 0, 1) := by decide +kernel
theorem dX0_againstLevel_62 : decode cX0_againstLevel 62 = .ok (.ireturn, 1) := by decide +kernel
theorem dX0_outside_0 : decode cX0_outside 0 = .ok (.iload_n 0, 1) := by decide +kernel
theorem dX0_outside_1 : decode cX0_outside 1 = .ok (.iload_n 1, 1) := by decide +kernel
theorem dX0_outside_2 : decode cX0_outside 2 = .ok (.if_icmp .lt 8, 3) := by decide +kernel
theorem dX0_outside_5 : decode cX0_outside 5 = .ok (.iload_n 0, 1) := by decide +kernel
theorem dX0_outside_6 : decode cX0_outside 6 = .ok (.iload_n 2, 1) := by decide +kernel
theorem dX0_outside_7 : decode cX0_outside 7 = .ok (.if_icmp .le 7, 3) := by decide +kernel
theorem dX0_outside_10 : decode cX0_outside 10 = .ok (.iconst 1, 1) := by decide +kernel
theorem dX0_outside_11 : decode cX0_outside 11 = .ok (.goto 4, 3) := by decide +kernel
theorem dX0_outside_14 : decode cX0_outside 14 = .ok (.iconst 0, 1) := by decide +kernel
theorem dX0_outside_15 : decode cX0_outside 15 = .ok (.ireturn, 1) := by decide +kernel
theorem dX0_refusal_0 : decode cX0_refusal 0 = .ok (.aload_n 0, 1) := by decide +kernel
theorem dX0_refusal_1 : decode cX0_refusal 1 = .ok (.iload_n 2, 1) := by decide +kernel
theorem dX0_refusal_2 : decode cX0_refusal 2 = .ok (.putfield 9, 3) := by decide +kernel
theorem dX0_refusal_5 : decode cX0_refusal 5 = .ok (.iload_n 1, 1) := by decide +kernel
theorem dX0_refusal_6 : decode cX0_refusal 6 = .ok (.ireturn, 1) := by decide +kernel
set_option maxRecDepth 20000 in
theorem ggX0_carryOut_X4_number : GoodIn wsX0_carryOut wsX4_number := goodIn_r _ [6, 7, 136, 137, 138, 139] (by decide +kernel) (by decide +kernel)
set_option maxRecDepth 20000 in
theorem gX0_carryOut_X4_number : GoodIn wsX0_carryOut (wsV RX0 47 RX4 yX4_number wsX4_number) := goodIn_app (goodIn_of _ (by decide +kernel)) ggX0_carryOut_X4_number
set_option maxRecDepth 20000 in
theorem ggX0_carryOut_X3_placeWith : GoodIn wsX0_carryOut wsX3_placeWith := goodIn_ca (goodIn_r _ [12, 13, 14, 15, 16, 11, 17, 18, 19, 20, 21, 22, 140, 141, 142, 143, 144, 145] (by decide +kernel) (by decide +kernel)) (goodIn_sub (fun _ h => List.mem_cons_of_mem _ (List.mem_append_right _ h)) (by decide +kernel))
set_option maxRecDepth 20000 in
theorem gX0_carryOut_X3_placeWith : GoodIn wsX0_carryOut (wsV RX0 61 RX3 yX3_placeWith wsX3_placeWith) := goodIn_app (goodIn_of _ (by decide +kernel)) ggX0_carryOut_X3_placeWith
set_option maxRecDepth 20000 in
theorem ggX0_carryOut_X4_sign : GoodIn wsX0_carryOut wsX4_sign := goodIn_r _ [26, 27, 136, 137, 138, 139] (by decide +kernel) (by decide +kernel)
set_option maxRecDepth 20000 in
theorem gX0_carryOut_X4_sign : GoodIn wsX0_carryOut (wsV RX0 32 RX4 yX4_sign wsX4_sign) := goodIn_app (goodIn_of _ (by decide +kernel)) ggX0_carryOut_X4_sign
set_option maxRecDepth 20000 in
theorem ggX0_carryOut_X0_insertByCoins : GoodIn wsX0_carryOut wsX0_insertByCoins := goodIn_ca (goodIn_r _ [32, 1, 33, 34, 35, 11, 36, 37, 38, 39, 40, 41, 42, 43, 44, 45, 46, 47, 48, 49, 50, 51, 52, 53, 54, 55, 2, 3, 4, 5, 6, 7, 56, 57, 58, 59, 60, 61, 62, 63, 64, 18, 65, 66, 67, 68, 14, 15, 16, 17, 13, 69, 70, 71, 72, 19, 20, 21, 22, 73, 74, 75, 76, 77, 78, 79, 80, 81, 82, 83, 84, 85, 86, 131, 132, 133, 134, 135, 140, 141, 142, 143, 144, 145, 146, 147, 148, 136, 137, 138, 139] (by decide +kernel) (by decide +kernel)) (goodIn_sub (fun _ h => List.mem_cons_of_mem _ (List.mem_append_right _ h)) (by decide +kernel))
set_option maxRecDepth 20000 in
theorem gX0_carryOut_X0_insertByCoins : GoodIn wsX0_carryOut (wsV RX0 92 RX0 yX0_insertByCoins wsX0_insertByCoins) := goodIn_app (goodIn_of _ (by decide +kernel)) ggX0_carryOut_X0_insertByCoins
set_option maxRecDepth 20000 in
theorem ggX0_carryOut_X4_weight : GoodIn wsX0_carryOut wsX4_weight := goodIn_r _ [59, 60, 136, 137, 138, 139] (by decide +kernel) (by decide +kernel)
set_option maxRecDepth 20000 in
theorem gX0_carryOut_X4_weight : GoodIn wsX0_carryOut (wsV RX0 55 RX4 yX4_weight wsX4_weight) := goodIn_app (goodIn_of _ (by decide +kernel)) ggX0_carryOut_X4_weight
set_option maxRecDepth 20000 in
theorem ggX0_carryOut_X4_rungs : GoodIn wsX0_carryOut wsX4_rungs := goodIn_r _ [90, 91, 136, 137, 138, 139] (by decide +kernel) (by decide +kernel)
set_option maxRecDepth 20000 in
theorem gX0_carryOut_X4_rungs : GoodIn wsX0_carryOut (wsV RX0 58 RX4 yX4_rungs wsX4_rungs) := goodIn_app (goodIn_of _ (by decide +kernel)) ggX0_carryOut_X4_rungs
set_option maxRecDepth 20000 in
theorem ggX0_carryOut_X3_insert : GoodIn wsX0_carryOut wsX3_insert := goodIn_ca (goodIn_r _ [64, 18, 65, 66, 67, 11, 68, 14, 15, 16, 17, 13, 69, 70, 71, 72, 19, 20, 21, 22, 73, 74, 75, 76, 77, 78, 79, 80, 81, 82, 83, 84, 85, 86, 140, 141, 142, 143, 144, 145] (by decide +kernel) (by decide +kernel)) (goodIn_sub (fun _ h => List.mem_cons_of_mem _ (List.mem_append_right _ h)) (by decide +kernel))
set_option maxRecDepth 20000 in
theorem gX0_carryOut_X3_insert : GoodIn wsX0_carryOut (wsV RX0 95 RX3 yX3_insert wsX3_insert) := goodIn_app (goodIn_of _ (by decide +kernel)) ggX0_carryOut_X3_insert
set_option maxRecDepth 20000 in
theorem ggX0_carryOut_X3_lowerKeys : GoodIn wsX0_carryOut wsX3_lowerKeys := goodIn_ca (goodIn_r _ [17, 18, 13, 140, 141, 142, 143, 144, 145] (by decide +kernel) (by decide +kernel)) (goodIn_sub (fun _ h => List.mem_cons_of_mem _ (List.mem_append_right _ h)) (by decide +kernel))
set_option maxRecDepth 20000 in
theorem gX0_carryOut_X3_lowerKeys : GoodIn wsX0_carryOut (wsV RX0 99 RX3 yX3_lowerKeys wsX3_lowerKeys) := goodIn_app (goodIn_of _ (by decide +kernel)) ggX0_carryOut_X3_lowerKeys
set_option maxRecDepth 20000 in
theorem ggX0_carryOut_X3_remove : GoodIn wsX0_carryOut wsX3_remove := goodIn_ca (goodIn_r _ [96, 18, 19, 20, 21, 11, 22, 69, 70, 71, 72, 13, 73, 74, 75, 76, 77, 78, 79, 80, 81, 82, 83, 84, 85, 86, 140, 141, 142, 143, 144, 145] (by decide +kernel) (by decide +kernel)) (goodIn_sub (fun _ h => List.mem_cons_of_mem _ (List.mem_append_right _ h)) (by decide +kernel))
set_option maxRecDepth 20000 in
theorem gX0_carryOut_X3_remove : GoodIn wsX0_carryOut (wsV RX0 102 RX3 yX3_remove wsX3_remove) := goodIn_app (goodIn_of _ (by decide +kernel)) ggX0_carryOut_X3_remove
set_option maxRecDepth 20000 in
theorem ggX0_carryOut_X3_size : GoodIn wsX0_carryOut wsX3_size := goodIn_r _ [100, 18, 140, 141, 142, 143, 144, 145] (by decide +kernel) (by decide +kernel)
set_option maxRecDepth 20000 in
theorem gX0_carryOut_X3_size : GoodIn wsX0_carryOut (wsV RX0 106 RX3 yX3_size wsX3_size) := goodIn_app (goodIn_of _ (by decide +kernel)) ggX0_carryOut_X3_size
set_option maxRecDepth 20000 in
theorem ggX0_carryOut_X0_changeTower : GoodIn wsX0_carryOut wsX0_changeTower := goodIn_ca (goodIn_r _ [104, 1, 105, 79, 80, 11, 81, 82, 19, 20, 21, 22, 18, 106, 70, 71, 72, 13, 107, 74, 75, 76, 77, 108, 84, 85, 86, 131, 132, 133, 134, 135, 140, 141, 142, 143, 144, 145] (by decide +kernel) (by decide +kernel)) (goodIn_sub (fun _ h => List.mem_cons_of_mem _ (List.mem_append_right _ h)) (by decide +kernel))
set_option maxRecDepth 20000 in
theorem gX0_carryOut_X0_changeTower : GoodIn wsX0_carryOut (wsV RX0 109 RX0 yX0_changeTower wsX0_changeTower) := goodIn_app (goodIn_of _ (by decide +kernel)) ggX0_carryOut_X0_changeTower
set_option maxRecDepth 20000 in
theorem ggX0_carryOut_X3_hide : GoodIn wsX0_carryOut wsX3_hide := goodIn_r _ [112, 113, 140, 141, 142, 143, 144, 145] (by decide +kernel) (by decide +kernel)
set_option maxRecDepth 20000 in
theorem gX0_carryOut_X3_hide : GoodIn wsX0_carryOut (wsV RX0 112 RX3 yX3_hide wsX3_hide) := goodIn_app (goodIn_of _ (by decide +kernel)) ggX0_carryOut_X3_hide
set_option maxRecDepth 20000 in
theorem ggX0_carryOut_X3_foldersOn : GoodIn wsX0_carryOut wsX3_foldersOn := goodIn_ca (goodIn_r _ [117, 18, 118, 119, 120, 11, 121, 82, 19, 20, 21, 22, 140, 141, 142, 143, 144, 145] (by decide +kernel) (by decide +kernel)) (goodIn_sub (fun _ h => List.mem_cons_of_mem _ (List.mem_append_right _ h)) (by decide +kernel))
set_option maxRecDepth 20000 in
theorem gX0_carryOut_X3_foldersOn : GoodIn wsX0_carryOut (wsV RX0 115 RX3 yX3_foldersOn wsX3_foldersOn) := goodIn_app (goodIn_of _ (by decide +kernel)) ggX0_carryOut_X3_foldersOn
set_option maxRecDepth 20000 in
theorem ggX0_carryOut_X3_show : GoodIn wsX0_carryOut wsX3_show := goodIn_r _ [125, 113, 140, 141, 142, 143, 144, 145] (by decide +kernel) (by decide +kernel)
set_option maxRecDepth 20000 in
theorem gX0_carryOut_X3_show : GoodIn wsX0_carryOut (wsV RX0 118 RX3 yX3_show wsX3_show) := goodIn_app (goodIn_of _ (by decide +kernel)) ggX0_carryOut_X3_show
set_option maxRecDepth 20000 in
theorem ggX0_carryOut_X0_changeWeight : GoodIn wsX0_carryOut wsX0_changeWeight := goodIn_ca (goodIn_r _ [129, 1, 107, 74, 75, 11, 76, 77, 19, 20, 21, 22, 18, 106, 70, 71, 72, 13, 105, 79, 80, 81, 82, 108, 84, 85, 86, 131, 132, 133, 134, 135, 140, 141, 142, 143, 144, 145] (by decide +kernel) (by decide +kernel)) (goodIn_sub (fun _ h => List.mem_cons_of_mem _ (List.mem_append_right _ h)) (by decide +kernel))
set_option maxRecDepth 20000 in
theorem gX0_carryOut_X0_changeWeight : GoodIn wsX0_carryOut (wsV RX0 121 RX0 yX0_changeWeight wsX0_changeWeight) := goodIn_app (goodIn_of _ (by decide +kernel)) ggX0_carryOut_X0_changeWeight
set_option maxRecDepth 20000 in
theorem ggX0_carryOut_X3_coin : GoodIn wsX0_carryOut wsX3_coin := goodIn_r _ [36, 37, 140, 141, 142, 143, 144, 145] (by decide +kernel) (by decide +kernel)
set_option maxRecDepth 20000 in
theorem gX0_carryOut_X3_coin : GoodIn wsX0_carryOut (wsV RX0 124 RX3 yX3_coin wsX3_coin) := goodIn_app (goodIn_of _ (by decide +kernel)) ggX0_carryOut_X3_coin
set_option maxRecDepth 20000 in
theorem ggX0_carryOut_X1_throwIt : GoodIn wsX0_carryOut wsX1_throwIt := goodIn_r _ [46, 47, 48, 49, 50, 51, 41, 52, 53, 54, 55, 146, 147, 148] (by decide +kernel) (by decide +kernel)
set_option maxRecDepth 20000 in
theorem gX0_carryOut_X1_throwIt : GoodIn wsX0_carryOut (wsV RX0 128 RX1 yX1_throwIt wsX1_throwIt) := goodIn_app (goodIn_of _ (by decide +kernel)) ggX0_carryOut_X1_throwIt
theorem dX0_carryOut_0 : decode cX0_carryOut 0 = .ok (.aload_n 0, 1) := by decide +kernel
theorem dX0_carryOut_1 : decode cX0_carryOut 1 = .ok (.getfield 24, 3) := by decide +kernel
theorem dX0_carryOut_4 : decode cX0_carryOut 4 = .ok (.aload_n 1, 1) := by decide +kernel
theorem dX0_carryOut_5 : decode cX0_carryOut 5 = .ok (.invokevirtual 47, 3) := by decide +kernel
theorem dX0_carryOut_8 : decode cX0_carryOut 8 = .ok (.invokevirtual 61, 3) := by decide +kernel
theorem dX0_carryOut_11 : decode cX0_carryOut 11 = .ok (.istore_n 2, 1) := by decide +kernel
theorem dX0_carryOut_12 : decode cX0_carryOut 12 = .ok (.aload_n 1, 1) := by decide +kernel
theorem dX0_carryOut_13 : decode cX0_carryOut 13 = .ok (.invokevirtual 32, 3) := by decide +kernel
theorem dX0_carryOut_16 : decode cX0_carryOut 16 = .ok (.lookupswitch 199 #[(43, 76), (45, 113), (94, 82), (100, 136), (102, 143), (114, 166), (117, 129), (119, 189)], 76) := by decide +kernel
theorem dX0_carryOut_92 : decode cX0_carryOut 92 = .ok (.aload_n 0, 1) := by decide +kernel
theorem dX0_carryOut_93 : decode cX0_carryOut 93 = .ok (.aload_n 1, 1) := by decide +kernel
theorem dX0_carryOut_94 : decode cX0_carryOut 94 = .ok (.invokevirtual 92, 3) := by decide +kernel
theorem dX0_carryOut_97 : decode cX0_carryOut 97 = .ok (.ireturn, 1) := by decide +kernel
theorem dX0_carryOut_98 : decode cX0_carryOut 98 = .ok (.aload_n 0, 1) := by decide +kernel
theorem dX0_carryOut_99 : decode cX0_carryOut 99 = .ok (.getfield 24, 3) := by decide +kernel
theorem dX0_carryOut_102 : decode cX0_carryOut 102 = .ok (.aload_n 1, 1) := by decide +kernel
theorem dX0_carryOut_103 : decode cX0_carryOut 103 = .ok (.invokevirtual 47, 3) := by decide +kernel
theorem dX0_carryOut_106 : decode cX0_carryOut 106 = .ok (.aload_n 1, 1) := by decide +kernel
theorem dX0_carryOut_107 : decode cX0_carryOut 107 = .ok (.invokevirtual 55, 3) := by decide +kernel
theorem dX0_carryOut_110 : decode cX0_carryOut 110 = .ok (.aload_n 1, 1) := by decide +kernel
theorem dX0_carryOut_111 : decode cX0_carryOut 111 = .ok (.invokevirtual 58, 3) := by decide +kernel
theorem dX0_carryOut_114 : decode cX0_carryOut 114 = .ok (.invokevirtual 95, 3) := by decide +kernel
theorem dX0_carryOut_117 : decode cX0_carryOut 117 = .ok (.aload_n 0, 1) := by decide +kernel
theorem dX0_carryOut_118 : decode cX0_carryOut 118 = .ok (.getfield 24, 3) := by decide +kernel
theorem dX0_carryOut_121 : decode cX0_carryOut 121 = .ok (.aload_n 1, 1) := by decide +kernel
theorem dX0_carryOut_122 : decode cX0_carryOut 122 = .ok (.invokevirtual 47, 3) := by decide +kernel
theorem dX0_carryOut_125 : decode cX0_carryOut 125 = .ok (.invokevirtual 99, 3) := by decide +kernel
theorem dX0_carryOut_128 : decode cX0_carryOut 128 = .ok (.ireturn, 1) := by decide +kernel
theorem dX0_carryOut_129 : decode cX0_carryOut 129 = .ok (.aload_n 0, 1) := by decide +kernel
theorem dX0_carryOut_130 : decode cX0_carryOut 130 = .ok (.getfield 24, 3) := by decide +kernel
theorem dX0_carryOut_133 : decode cX0_carryOut 133 = .ok (.iload_n 2, 1) := by decide +kernel
theorem dX0_carryOut_134 : decode cX0_carryOut 134 = .ok (.invokevirtual 102, 3) := by decide +kernel
theorem dX0_carryOut_137 : decode cX0_carryOut 137 = .ok (.aload_n 0, 1) := by decide +kernel
theorem dX0_carryOut_138 : decode cX0_carryOut 138 = .ok (.getfield 24, 3) := by decide +kernel
theorem dX0_carryOut_141 : decode cX0_carryOut 141 = .ok (.invokevirtual 106, 3) := by decide +kernel
theorem dX0_carryOut_144 : decode cX0_carryOut 144 = .ok (.ireturn, 1) := by decide +kernel
theorem dX0_carryOut_145 : decode cX0_carryOut 145 = .ok (.aload_n 0, 1) := by decide +kernel
theorem dX0_carryOut_146 : decode cX0_carryOut 146 = .ok (.iload_n 2, 1) := by decide +kernel
theorem dX0_carryOut_147 : decode cX0_carryOut 147 = .ok (.iconst 1, 1) := by decide +kernel
theorem dX0_carryOut_148 : decode cX0_carryOut 148 = .ok (.invokevirtual 109, 3) := by decide +kernel
theorem dX0_carryOut_151 : decode cX0_carryOut 151 = .ok (.ireturn, 1) := by decide +kernel
theorem dX0_carryOut_152 : decode cX0_carryOut 152 = .ok (.aload_n 0, 1) := by decide +kernel
theorem dX0_carryOut_153 : decode cX0_carryOut 153 = .ok (.iload_n 2, 1) := by decide +kernel
theorem dX0_carryOut_154 : decode cX0_carryOut 154 = .ok (.iconst (-1), 1) := by decide +kernel
theorem dX0_carryOut_155 : decode cX0_carryOut 155 = .ok (.invokevirtual 109, 3) := by decide +kernel
theorem dX0_carryOut_158 : decode cX0_carryOut 158 = .ok (.ireturn, 1) := by decide +kernel
theorem dX0_carryOut_159 : decode cX0_carryOut 159 = .ok (.aload_n 0, 1) := by decide +kernel
theorem dX0_carryOut_160 : decode cX0_carryOut 160 = .ok (.getfield 24, 3) := by decide +kernel
theorem dX0_carryOut_163 : decode cX0_carryOut 163 = .ok (.aload_n 1, 1) := by decide +kernel
theorem dX0_carryOut_164 : decode cX0_carryOut 164 = .ok (.invokevirtual 47, 3) := by decide +kernel
theorem dX0_carryOut_167 : decode cX0_carryOut 167 = .ok (.invokevirtual 112, 3) := by decide +kernel
theorem dX0_carryOut_170 : decode cX0_carryOut 170 = .ok (.aload_n 0, 1) := by decide +kernel
theorem dX0_carryOut_171 : decode cX0_carryOut 171 = .ok (.getfield 24, 3) := by decide +kernel
theorem dX0_carryOut_174 : decode cX0_carryOut 174 = .ok (.aload_n 1, 1) := by decide +kernel
theorem dX0_carryOut_175 : decode cX0_carryOut 175 = .ok (.invokevirtual 47, 3) := by decide +kernel
theorem dX0_carryOut_178 : decode cX0_carryOut 178 = .ok (.invokevirtual 115, 3) := by decide +kernel
theorem dX0_carryOut_181 : decode cX0_carryOut 181 = .ok (.ireturn, 1) := by decide +kernel
theorem dX0_carryOut_182 : decode cX0_carryOut 182 = .ok (.aload_n 0, 1) := by decide +kernel
theorem dX0_carryOut_183 : decode cX0_carryOut 183 = .ok (.getfield 24, 3) := by decide +kernel
theorem dX0_carryOut_186 : decode cX0_carryOut 186 = .ok (.aload_n 1, 1) := by decide +kernel
theorem dX0_carryOut_187 : decode cX0_carryOut 187 = .ok (.invokevirtual 47, 3) := by decide +kernel
theorem dX0_carryOut_190 : decode cX0_carryOut 190 = .ok (.invokevirtual 118, 3) := by decide +kernel
theorem dX0_carryOut_193 : decode cX0_carryOut 193 = .ok (.aload_n 0, 1) := by decide +kernel
theorem dX0_carryOut_194 : decode cX0_carryOut 194 = .ok (.getfield 24, 3) := by decide +kernel
theorem dX0_carryOut_197 : decode cX0_carryOut 197 = .ok (.aload_n 1, 1) := by decide +kernel
theorem dX0_carryOut_198 : decode cX0_carryOut 198 = .ok (.invokevirtual 47, 3) := by decide +kernel
theorem dX0_carryOut_201 : decode cX0_carryOut 201 = .ok (.invokevirtual 115, 3) := by decide +kernel
theorem dX0_carryOut_204 : decode cX0_carryOut 204 = .ok (.ireturn, 1) := by decide +kernel
theorem dX0_carryOut_205 : decode cX0_carryOut 205 = .ok (.aload_n 0, 1) := by decide +kernel
theorem dX0_carryOut_206 : decode cX0_carryOut 206 = .ok (.iload_n 2, 1) := by decide +kernel
theorem dX0_carryOut_207 : decode cX0_carryOut 207 = .ok (.aload_n 1, 1) := by decide +kernel
theorem dX0_carryOut_208 : decode cX0_carryOut 208 = .ok (.invokevirtual 55, 3) := by decide +kernel
theorem dX0_carryOut_211 : decode cX0_carryOut 211 = .ok (.invokevirtual 121, 3) := by decide +kernel
theorem dX0_carryOut_214 : decode cX0_carryOut 214 = .ok (.ireturn, 1) := by decide +kernel
theorem dX0_carryOut_215 : decode cX0_carryOut 215 = .ok (.aload_n 0, 1) := by decide +kernel
theorem dX0_carryOut_216 : decode cX0_carryOut 216 = .ok (.getfield 24, 3) := by decide +kernel
theorem dX0_carryOut_219 : decode cX0_carryOut 219 = .ok (.invokevirtual 124, 3) := by decide +kernel
theorem dX0_carryOut_222 : decode cX0_carryOut 222 = .ok (.invokevirtual 128, 3) := by decide +kernel
theorem dX0_carryOut_225 : decode cX0_carryOut 225 = .ok (.ifCond .eq 7, 3) := by decide +kernel
theorem dX0_carryOut_228 : decode cX0_carryOut 228 = .ok (.iconst 1, 1) := by decide +kernel
theorem dX0_carryOut_229 : decode cX0_carryOut 229 = .ok (.goto 4, 3) := by decide +kernel
theorem dX0_carryOut_232 : decode cX0_carryOut 232 = .ok (.iconst 0, 1) := by decide +kernel
theorem dX0_carryOut_233 : decode cX0_carryOut 233 = .ok (.ireturn, 1) := by decide +kernel
set_option maxRecDepth 20000 in
theorem ggX0_insertByCoins_X3_coin : GoodIn wsX0_insertByCoins wsX3_coin := goodIn_r _ [6, 7, 78, 79, 80, 81, 82, 83] (by decide +kernel) (by decide +kernel)
set_option maxRecDepth 20000 in
theorem gX0_insertByCoins_X3_coin : GoodIn wsX0_insertByCoins (wsV RX0 124 RX3 yX3_coin wsX3_coin) := goodIn_app (goodIn_of _ (by decide +kernel)) ggX0_insertByCoins_X3_coin
set_option maxRecDepth 20000 in
theorem ggX0_insertByCoins_X1_throwTower : GoodIn wsX0_insertByCoins wsX1_throwTower := goodIn_r _ [12, 13, 14, 15, 11, 16, 17, 18, 19, 20, 21, 22, 23, 24, 25, 84, 85, 86] (by decide +kernel) (by decide +kernel)
set_option maxRecDepth 20000 in
theorem gX0_insertByCoins_X1_throwTower : GoodIn wsX0_insertByCoins (wsV RX0 133 RX1 yX1_throwTower wsX1_throwTower) := goodIn_app (goodIn_of _ (by decide +kernel)) ggX0_insertByCoins_X1_throwTower
set_option maxRecDepth 20000 in
theorem ggX0_insertByCoins_X4_number : GoodIn wsX0_insertByCoins wsX4_number := goodIn_r _ [30, 31, 87, 88, 89, 90] (by decide +kernel) (by decide +kernel)
set_option maxRecDepth 20000 in
theorem gX0_insertByCoins_X4_number : GoodIn wsX0_insertByCoins (wsV RX0 47 RX4 yX4_number wsX4_number) := goodIn_app (goodIn_of _ (by decide +kernel)) ggX0_insertByCoins_X4_number
set_option maxRecDepth 20000 in
theorem ggX0_insertByCoins_X4_weight : GoodIn wsX0_insertByCoins wsX4_weight := goodIn_r _ [35, 36, 87, 88, 89, 90] (by decide +kernel) (by decide +kernel)
set_option maxRecDepth 20000 in
theorem gX0_insertByCoins_X4_weight : GoodIn wsX0_insertByCoins (wsV RX0 55 RX4 yX4_weight wsX4_weight) := goodIn_app (goodIn_of _ (by decide +kernel)) ggX0_insertByCoins_X4_weight
set_option maxRecDepth 20000 in
theorem ggX0_insertByCoins_X3_insert : GoodIn wsX0_insertByCoins wsX3_insert := goodIn_ca (goodIn_r _ [40, 41, 42, 43, 44, 5, 45, 46, 47, 48, 49, 50, 51, 52, 53, 54, 55, 56, 57, 58, 59, 60, 61, 62, 63, 64, 65, 66, 67, 68, 69, 70, 71, 72, 78, 79, 80, 81, 82, 83] (by decide +kernel) (by decide +kernel)) (goodIn_sub (fun _ h => List.mem_cons_of_mem _ (List.mem_append_right _ h)) (by decide +kernel))
set_option maxRecDepth 20000 in
theorem gX0_insertByCoins_X3_insert : GoodIn wsX0_insertByCoins (wsV RX0 95 RX3 yX3_insert wsX3_insert) := goodIn_app (goodIn_of _ (by decide +kernel)) ggX0_insertByCoins_X3_insert
theorem dX0_insertByCoins_0 : decode cX0_insertByCoins 0 = .ok (.aload_n 0, 1) := by decide +kernel
theorem dX0_insertByCoins_1 : decode cX0_insertByCoins 1 = .ok (.getfield 24, 3) := by decide +kernel
theorem dX0_insertByCoins_4 : decode cX0_insertByCoins 4 = .ok (.invokevirtual 124, 3) := by decide +kernel
theorem dX0_insertByCoins_7 : decode cX0_insertByCoins 7 = .ok (.invokevirtual 133, 3) := by decide +kernel
theorem dX0_insertByCoins_10 : decode cX0_insertByCoins 10 = .ok (.istore_n 2, 1) := by decide +kernel
theorem dX0_insertByCoins_11 : decode cX0_insertByCoins 11 = .ok (.aload_n 0, 1) := by decide +kernel
theorem dX0_insertByCoins_12 : decode cX0_insertByCoins 12 = .ok (.getfield 24, 3) := by decide +kernel
theorem dX0_insertByCoins_15 : decode cX0_insertByCoins 15 = .ok (.aload_n 1, 1) := by decide +kernel
theorem dX0_insertByCoins_16 : decode cX0_insertByCoins 16 = .ok (.invokevirtual 47, 3) := by decide +kernel
theorem dX0_insertByCoins_19 : decode cX0_insertByCoins 19 = .ok (.aload_n 1, 1) := by decide +kernel
theorem dX0_insertByCoins_20 : decode cX0_insertByCoins 20 = .ok (.invokevirtual 55, 3) := by decide +kernel
theorem dX0_insertByCoins_23 : decode cX0_insertByCoins 23 = .ok (.iload_n 2, 1) := by decide +kernel
theorem dX0_insertByCoins_24 : decode cX0_insertByCoins 24 = .ok (.invokevirtual 95, 3) := by decide +kernel
theorem dX0_insertByCoins_27 : decode cX0_insertByCoins 27 = .ok (.iload_n 2, 1) := by decide +kernel
theorem dX0_insertByCoins_28 : decode cX0_insertByCoins 28 = .ok (.ireturn, 1) := by decide +kernel
set_option maxRecDepth 20000 in
theorem ggX0_changeTower_X3_rungsOf : GoodIn wsX0_changeTower wsX3_rungsOf := goodIn_ca (goodIn_r _ [6, 7, 8, 9, 10, 5, 11, 12, 32, 33, 34, 35, 36, 37] (by decide +kernel) (by decide +kernel)) (goodIn_sub (fun _ h => List.mem_cons_of_mem _ (List.mem_append_right _ h)) (by decide +kernel))
set_option maxRecDepth 20000 in
theorem gX0_changeTower_X3_rungsOf : GoodIn wsX0_changeTower (wsV RX0 81 RX3 yX3_rungsOf wsX3_rungsOf) := goodIn_app (goodIn_of _ (by decide +kernel)) ggX0_changeTower_X3_rungsOf
set_option maxRecDepth 20000 in
theorem ggX0_changeTower_X3_keyOf : GoodIn wsX0_changeTower wsX3_keyOf := goodIn_ca (goodIn_r _ [16, 17, 8, 9, 10, 5, 11, 12, 32, 33, 34, 35, 36, 37] (by decide +kernel) (by decide +kernel)) (goodIn_sub (fun _ h => List.mem_cons_of_mem _ (List.mem_append_right _ h)) (by decide +kernel))
set_option maxRecDepth 20000 in
theorem gX0_changeTower_X3_keyOf : GoodIn wsX0_changeTower (wsV RX0 136 RX3 yX3_keyOf wsX3_keyOf) := goodIn_app (goodIn_of _ (by decide +kernel)) ggX0_changeTower_X3_keyOf
set_option maxRecDepth 20000 in
theorem ggX0_changeTower_X3_weightOf : GoodIn wsX0_changeTower wsX3_weightOf := goodIn_ca (goodIn_r _ [21, 22, 8, 9, 10, 5, 11, 12, 32, 33, 34, 35, 36, 37] (by decide +kernel) (by decide +kernel)) (goodIn_sub (fun _ h => List.mem_cons_of_mem _ (List.mem_append_right _ h)) (by decide +kernel))
set_option maxRecDepth 20000 in
theorem gX0_changeTower_X3_weightOf : GoodIn wsX0_changeTower (wsV RX0 75 RX3 yX3_weightOf wsX3_weightOf) := goodIn_app (goodIn_of _ (by decide +kernel)) ggX0_changeTower_X3_weightOf
set_option maxRecDepth 20000 in
theorem ggX0_changeTower_X3_put : GoodIn wsX0_changeTower wsX3_put := goodIn_ca (goodIn_r _ [26, 17, 22, 7, 8, 9, 10, 5, 11, 12, 32, 33, 34, 35, 36, 37] (by decide +kernel) (by decide +kernel)) (goodIn_sub (fun _ h => List.mem_cons_of_mem _ (List.mem_append_right _ h)) (by decide +kernel))
set_option maxRecDepth 20000 in
theorem gX0_changeTower_X3_put : GoodIn wsX0_changeTower (wsV RX0 139 RX3 yX3_put wsX3_put) := goodIn_app (goodIn_of _ (by decide +kernel)) ggX0_changeTower_X3_put
theorem dX0_changeTower_0 : decode cX0_changeTower 0 = .ok (.aload_n 0, 1) := by decide +kernel
theorem dX0_changeTower_1 : decode cX0_changeTower 1 = .ok (.getfield 24, 3) := by decide +kernel
theorem dX0_changeTower_4 : decode cX0_changeTower 4 = .ok (.iload_n 1, 1) := by decide +kernel
theorem dX0_changeTower_5 : decode cX0_changeTower 5 = .ok (.invokevirtual 81, 3) := by decide +kernel
theorem dX0_changeTower_8 : decode cX0_changeTower 8 = .ok (.iload_n 2, 1) := by decide +kernel
theorem dX0_changeTower_9 : decode cX0_changeTower 9 = .ok (.iadd, 1) := by decide +kernel
theorem dX0_changeTower_10 : decode cX0_changeTower 10 = .ok (.istore_n 3, 1) := by decide +kernel
theorem dX0_changeTower_11 : decode cX0_changeTower 11 = .ok (.aload_n 0, 1) := by decide +kernel
theorem dX0_changeTower_12 : decode cX0_changeTower 12 = .ok (.getfield 24, 3) := by decide +kernel
theorem dX0_changeTower_15 : decode cX0_changeTower 15 = .ok (.iload_n 1, 1) := by decide +kernel
theorem dX0_changeTower_16 : decode cX0_changeTower 16 = .ok (.aload_n 0, 1) := by decide +kernel
theorem dX0_changeTower_17 : decode cX0_changeTower 17 = .ok (.getfield 24, 3) := by decide +kernel
theorem dX0_changeTower_20 : decode cX0_changeTower 20 = .ok (.iload_n 1, 1) := by decide +kernel
theorem dX0_changeTower_21 : decode cX0_changeTower 21 = .ok (.invokevirtual 136, 3) := by decide +kernel
theorem dX0_changeTower_24 : decode cX0_changeTower 24 = .ok (.aload_n 0, 1) := by decide +kernel
theorem dX0_changeTower_25 : decode cX0_changeTower 25 = .ok (.getfield 24, 3) := by decide +kernel
theorem dX0_changeTower_28 : decode cX0_changeTower 28 = .ok (.iload_n 1, 1) := by decide +kernel
theorem dX0_changeTower_29 : decode cX0_changeTower 29 = .ok (.invokevirtual 75, 3) := by decide +kernel
theorem dX0_changeTower_32 : decode cX0_changeTower 32 = .ok (.iload_n 3, 1) := by decide +kernel
theorem dX0_changeTower_33 : decode cX0_changeTower 33 = .ok (.invokevirtual 139, 3) := by decide +kernel
theorem dX0_changeTower_36 : decode cX0_changeTower 36 = .ok (.iload_n 3, 1) := by decide +kernel
theorem dX0_changeTower_37 : decode cX0_changeTower 37 = .ok (.ireturn, 1) := by decide +kernel
set_option maxRecDepth 20000 in
theorem ggX0_changeWeight_X3_weightOf : GoodIn wsX0_changeWeight wsX3_weightOf := goodIn_ca (goodIn_r _ [6, 7, 8, 9, 10, 5, 11, 12, 32, 33, 34, 35, 36, 37] (by decide +kernel) (by decide +kernel)) (goodIn_sub (fun _ h => List.mem_cons_of_mem _ (List.mem_append_right _ h)) (by decide +kernel))
set_option maxRecDepth 20000 in
theorem gX0_changeWeight_X3_weightOf : GoodIn wsX0_changeWeight (wsV RX0 75 RX3 yX3_weightOf wsX3_weightOf) := goodIn_app (goodIn_of _ (by decide +kernel)) ggX0_changeWeight_X3_weightOf
set_option maxRecDepth 20000 in
theorem ggX0_changeWeight_X3_keyOf : GoodIn wsX0_changeWeight wsX3_keyOf := goodIn_ca (goodIn_r _ [16, 17, 8, 9, 10, 5, 11, 12, 32, 33, 34, 35, 36, 37] (by decide +kernel) (by decide +kernel)) (goodIn_sub (fun _ h => List.mem_cons_of_mem _ (List.mem_append_right _ h)) (by decide +kernel))
set_option maxRecDepth 20000 in
theorem gX0_changeWeight_X3_keyOf : GoodIn wsX0_changeWeight (wsV RX0 136 RX3 yX3_keyOf wsX3_keyOf) := goodIn_app (goodIn_of _ (by decide +kernel)) ggX0_changeWeight_X3_keyOf
set_option maxRecDepth 20000 in
theorem ggX0_changeWeight_X3_rungsOf : GoodIn wsX0_changeWeight wsX3_rungsOf := goodIn_ca (goodIn_r _ [21, 22, 8, 9, 10, 5, 11, 12, 32, 33, 34, 35, 36, 37] (by decide +kernel) (by decide +kernel)) (goodIn_sub (fun _ h => List.mem_cons_of_mem _ (List.mem_append_right _ h)) (by decide +kernel))
set_option maxRecDepth 20000 in
theorem gX0_changeWeight_X3_rungsOf : GoodIn wsX0_changeWeight (wsV RX0 81 RX3 yX3_rungsOf wsX3_rungsOf) := goodIn_app (goodIn_of _ (by decide +kernel)) ggX0_changeWeight_X3_rungsOf
set_option maxRecDepth 20000 in
theorem ggX0_changeWeight_X3_put : GoodIn wsX0_changeWeight wsX3_put := goodIn_ca (goodIn_r _ [26, 17, 7, 22, 8, 9, 10, 5, 11, 12, 32, 33, 34, 35, 36, 37] (by decide +kernel) (by decide +kernel)) (goodIn_sub (fun _ h => List.mem_cons_of_mem _ (List.mem_append_right _ h)) (by decide +kernel))
set_option maxRecDepth 20000 in
theorem gX0_changeWeight_X3_put : GoodIn wsX0_changeWeight (wsV RX0 139 RX3 yX3_put wsX3_put) := goodIn_app (goodIn_of _ (by decide +kernel)) ggX0_changeWeight_X3_put
theorem dX0_changeWeight_0 : decode cX0_changeWeight 0 = .ok (.aload_n 0, 1) := by decide +kernel
theorem dX0_changeWeight_1 : decode cX0_changeWeight 1 = .ok (.getfield 24, 3) := by decide +kernel
theorem dX0_changeWeight_4 : decode cX0_changeWeight 4 = .ok (.iload_n 1, 1) := by decide +kernel
theorem dX0_changeWeight_5 : decode cX0_changeWeight 5 = .ok (.invokevirtual 75, 3) := by decide +kernel
theorem dX0_changeWeight_8 : decode cX0_changeWeight 8 = .ok (.istore_n 3, 1) := by decide +kernel
theorem dX0_changeWeight_9 : decode cX0_changeWeight 9 = .ok (.aload_n 0, 1) := by decide +kernel
theorem dX0_changeWeight_10 : decode cX0_changeWeight 10 = .ok (.getfield 24, 3) := by decide +kernel
theorem dX0_changeWeight_13 : decode cX0_changeWeight 13 = .ok (.iload_n 1, 1) := by decide +kernel
theorem dX0_changeWeight_14 : decode cX0_changeWeight 14 = .ok (.aload_n 0, 1) := by decide +kernel
theorem dX0_changeWeight_15 : decode cX0_changeWeight 15 = .ok (.getfield 24, 3) := by decide +kernel
theorem dX0_changeWeight_18 : decode cX0_changeWeight 18 = .ok (.iload_n 1, 1) := by decide +kernel
theorem dX0_changeWeight_19 : decode cX0_changeWeight 19 = .ok (.invokevirtual 136, 3) := by decide +kernel
theorem dX0_changeWeight_22 : decode cX0_changeWeight 22 = .ok (.iload_n 2, 1) := by decide +kernel
theorem dX0_changeWeight_23 : decode cX0_changeWeight 23 = .ok (.aload_n 0, 1) := by decide +kernel
theorem dX0_changeWeight_24 : decode cX0_changeWeight 24 = .ok (.getfield 24, 3) := by decide +kernel
theorem dX0_changeWeight_27 : decode cX0_changeWeight 27 = .ok (.iload_n 1, 1) := by decide +kernel
theorem dX0_changeWeight_28 : decode cX0_changeWeight 28 = .ok (.invokevirtual 81, 3) := by decide +kernel
theorem dX0_changeWeight_31 : decode cX0_changeWeight 31 = .ok (.invokevirtual 139, 3) := by decide +kernel
theorem dX0_changeWeight_34 : decode cX0_changeWeight 34 = .ok (.iload_n 3, 1) := by decide +kernel
theorem dX0_changeWeight_35 : decode cX0_changeWeight 35 = .ok (.ireturn, 1) := by decide +kernel
theorem dX1_init_0 : decode cX1_init 0 = .ok (.aload_n 0, 1) := by decide +kernel
theorem dX1_init_1 : decode cX1_init 1 = .ok (.invokespecial 3, 3) := by decide +kernel
theorem dX1_init_4 : decode cX1_init 4 = .ok (.aload_n 0, 1) := by decide +kernel
theorem dX1_init_5 : decode cX1_init 5 = .ok (.iconst 1, 1) := by decide +kernel
theorem dX1_init_6 : decode cX1_init 6 = .ok (.putfield 9, 3) := by decide +kernel
theorem dX1_init_9 : decode cX1_init 9 = .ok (.aload_n 0, 1) := by decide +kernel
theorem dX1_init_10 : decode cX1_init 10 = .ok (.iconst 0, 1) := by decide +kernel
theorem dX1_init_11 : decode cX1_init 11 = .ok (.putfield 15, 3) := by decide +kernel
theorem dX1_init_14 : decode cX1_init 14 = .ok (.aload_n 0, 1) := by decide +kernel
theorem dX1_init_15 : decode cX1_init 15 = .ok (.iconst 0, 1) := by decide +kernel
theorem dX1_init_16 : decode cX1_init 16 = .ok (.putfield 18, 3) := by decide +kernel
theorem dX1_init_19 : decode cX1_init 19 = .ok (.return_, 1) := by decide +kernel
theorem dX1_number_0 : decode cX1_number 0 = .ok (.aload_n 0, 1) := by decide +kernel
theorem dX1_number_1 : decode cX1_number 1 = .ok (.getfield 9, 3) := by decide +kernel
theorem dX1_number_4 : decode cX1_number 4 = .ok (.ireturn, 1) := by decide +kernel
theorem dX1_tossed_0 : decode cX1_tossed 0 = .ok (.aload_n 0, 1) := by decide +kernel
theorem dX1_tossed_1 : decode cX1_tossed 1 = .ok (.getfield 15, 3) := by decide +kernel
theorem dX1_tossed_4 : decode cX1_tossed 4 = .ok (.ireturn, 1) := by decide +kernel
theorem dX1_heads_0 : decode cX1_heads 0 = .ok (.aload_n 0, 1) := by decide +kernel
theorem dX1_heads_1 : decode cX1_heads 1 = .ok (.getfield 18, 3) := by decide +kernel
theorem dX1_heads_4 : decode cX1_heads 4 = .ok (.ireturn, 1) := by decide +kernel
theorem dX1_copyFrom_0 : decode cX1_copyFrom 0 = .ok (.aload_n 0, 1) := by decide +kernel
theorem dX1_copyFrom_1 : decode cX1_copyFrom 1 = .ok (.aload_n 1, 1) := by decide +kernel
theorem dX1_copyFrom_2 : decode cX1_copyFrom 2 = .ok (.getfield 9, 3) := by decide +kernel
theorem dX1_copyFrom_5 : decode cX1_copyFrom 5 = .ok (.putfield 9, 3) := by decide +kernel
theorem dX1_copyFrom_8 : decode cX1_copyFrom 8 = .ok (.aload_n 0, 1) := by decide +kernel
theorem dX1_copyFrom_9 : decode cX1_copyFrom 9 = .ok (.aload_n 1, 1) := by decide +kernel
theorem dX1_copyFrom_10 : decode cX1_copyFrom 10 = .ok (.getfield 15, 3) := by decide +kernel
theorem dX1_copyFrom_13 : decode cX1_copyFrom 13 = .ok (.putfield 15, 3) := by decide +kernel
theorem dX1_copyFrom_16 : decode cX1_copyFrom 16 = .ok (.aload_n 0, 1) := by decide +kernel
theorem dX1_copyFrom_17 : decode cX1_copyFrom 17 = .ok (.aload_n 1, 1) := by decide +kernel
theorem dX1_copyFrom_18 : decode cX1_copyFrom 18 = .ok (.getfield 18, 3) := by decide +kernel
theorem dX1_copyFrom_21 : decode cX1_copyFrom 21 = .ok (.putfield 18, 3) := by decide +kernel
theorem dX1_copyFrom_24 : decode cX1_copyFrom 24 = .ok (.return_, 1) := by decide +kernel
set_option maxRecDepth 20000 in
theorem ggX1_throwIt_X1_following : GoodIn wsX1_throwIt wsX1_following := goodIn_r _ [7] (by decide +kernel) (by decide +kernel)
set_option maxRecDepth 20000 in
theorem gX1_throwIt_X1_following : GoodIn wsX1_throwIt (va_wsS RX1 21 yX1_following wsX1_following) := goodIn_app (goodIn_of _ (by decide +kernel)) ggX1_throwIt_X1_following
set_option maxRecDepth 20000 in
theorem ggX1_throwIt_X1_showsHeads : GoodIn wsX1_throwIt wsX1_showsHeads := goodIn_r _ [10] (by decide +kernel) (by decide +kernel)
set_option maxRecDepth 20000 in
theorem gX1_throwIt_X1_showsHeads : GoodIn wsX1_throwIt (va_wsS RX1 25 yX1_showsHeads wsX1_showsHeads) := goodIn_app (goodIn_of _ (by decide +kernel)) ggX1_throwIt_X1_showsHeads
theorem dX1_throwIt_0 : decode cX1_throwIt 0 = .ok (.aload_n 0, 1) := by decide +kernel
theorem dX1_throwIt_1 : decode cX1_throwIt 1 = .ok (.aload_n 0, 1) := by decide +kernel
theorem dX1_throwIt_2 : decode cX1_throwIt 2 = .ok (.getfield 9, 3) := by decide +kernel
theorem dX1_throwIt_5 : decode cX1_throwIt 5 = .ok (.invokestatic 21, 3) := by decide +kernel
theorem dX1_throwIt_8 : decode cX1_throwIt 8 = .ok (.putfield 9, 3) := by decide +kernel
theorem dX1_throwIt_11 : decode cX1_throwIt 11 = .ok (.aload_n 0, 1) := by decide +kernel
theorem dX1_throwIt_12 : decode cX1_throwIt 12 = .ok (.dup, 1) := by decide +kernel
theorem dX1_throwIt_13 : decode cX1_throwIt 13 = .ok (.getfield 15, 3) := by decide +kernel
theorem dX1_throwIt_16 : decode cX1_throwIt 16 = .ok (.iconst 1, 1) := by decide +kernel
theorem dX1_throwIt_17 : decode cX1_throwIt 17 = .ok (.iadd, 1) := by decide +kernel
theorem dX1_throwIt_18 : decode cX1_throwIt 18 = .ok (.putfield 15, 3) := by decide +kernel
theorem dX1_throwIt_21 : decode cX1_throwIt 21 = .ok (.aload_n 0, 1) := by decide +kernel
theorem dX1_throwIt_22 : decode cX1_throwIt 22 = .ok (.getfield 9, 3) := by decide +kernel
theorem dX1_throwIt_25 : decode cX1_throwIt 25 = .ok (.invokestatic 25, 3) := by decide +kernel
theorem dX1_throwIt_28 : decode cX1_throwIt 28 = .ok (.istore_n 1, 1) := by decide +kernel
theorem dX1_throwIt_29 : decode cX1_throwIt 29 = .ok (.iload_n 1, 1) := by decide +kernel
theorem dX1_throwIt_30 : decode cX1_throwIt 30 = .ok (.ifCond .eq 13, 3) := by decide +kernel
theorem dX1_throwIt_33 : decode cX1_throwIt 33 = .ok (.aload_n 0, 1) := by decide +kernel
theorem dX1_throwIt_34 : decode cX1_throwIt 34 = .ok (.dup, 1) := by decide +kernel
theorem dX1_throwIt_35 : decode cX1_throwIt 35 = .ok (.getfield 18, 3) := by decide +kernel
theorem dX1_throwIt_38 : decode cX1_throwIt 38 = .ok (.iconst 1, 1) := by decide +kernel
theorem dX1_throwIt_39 : decode cX1_throwIt 39 = .ok (.iadd, 1) := by decide +kernel
theorem dX1_throwIt_40 : decode cX1_throwIt 40 = .ok (.putfield 18, 3) := by decide +kernel
theorem dX1_throwIt_43 : decode cX1_throwIt 43 = .ok (.iload_n 1, 1) := by decide +kernel
theorem dX1_throwIt_44 : decode cX1_throwIt 44 = .ok (.ireturn, 1) := by decide +kernel
set_option maxRecDepth 20000 in
theorem ggX1_throwTower_X1_throwIt : GoodIn wsX1_throwTower wsX1_throwIt := goodIn_r _ [5, 6, 7, 8, 9, 10, 4, 11, 12, 13, 14, 15, 16, 17] (by decide +kernel) (by decide +kernel)
set_option maxRecDepth 20000 in
theorem gX1_throwTower_X1_throwIt : GoodIn wsX1_throwTower (wsV RX1 29 RX1 yX1_throwIt wsX1_throwIt) := goodIn_app (goodIn_of _ (by decide +kernel)) ggX1_throwTower_X1_throwIt
theorem dX1_throwTower_0 : decode cX1_throwTower 0 = .ok (.iconst 1, 1) := by decide +kernel
theorem dX1_throwTower_1 : decode cX1_throwTower 1 = .ok (.istore_n 1, 1) := by decide +kernel
theorem dX1_throwTower_2 : decode cX1_throwTower 2 = .ok (.iload_n 1, 1) := by decide +kernel
theorem dX1_throwTower_3 : decode cX1_throwTower 3 = .ok (.iconst 5, 1) := by decide +kernel
theorem dX1_throwTower_4 : decode cX1_throwTower 4 = .ok (.if_icmp .ge 16, 3) := by decide +kernel
theorem dX1_throwTower_7 : decode cX1_throwTower 7 = .ok (.aload_n 0, 1) := by decide +kernel
theorem dX1_throwTower_8 : decode cX1_throwTower 8 = .ok (.invokevirtual 29, 3) := by decide +kernel
theorem dX1_throwTower_11 : decode cX1_throwTower 11 = .ok (.ifCond .eq 9, 3) := by decide +kernel
theorem dX1_throwTower_14 : decode cX1_throwTower 14 = .ok (.iinc 1 1, 3) := by decide +kernel
theorem dX1_throwTower_17 : decode cX1_throwTower 17 = .ok (.goto (-15), 3) := by decide +kernel
theorem dX1_throwTower_20 : decode cX1_throwTower 20 = .ok (.iload_n 1, 1) := by decide +kernel
theorem dX1_throwTower_21 : decode cX1_throwTower 21 = .ok (.ireturn, 1) := by decide +kernel
set_option maxRecDepth 20000 in
theorem ggX1_towerAhead_X1_following : GoodIn wsX1_towerAhead wsX1_following := goodIn_r _ [5] (by decide +kernel) (by decide +kernel)
set_option maxRecDepth 20000 in
theorem gX1_towerAhead_X1_following : GoodIn wsX1_towerAhead (va_wsS RX1 21 yX1_following wsX1_following) := goodIn_app (goodIn_of _ (by decide +kernel)) ggX1_towerAhead_X1_following
set_option maxRecDepth 20000 in
theorem ggX1_towerAhead_X1_showsHeads : GoodIn wsX1_towerAhead wsX1_showsHeads := goodIn_r _ [8] (by decide +kernel) (by decide +kernel)
set_option maxRecDepth 20000 in
theorem gX1_towerAhead_X1_showsHeads : GoodIn wsX1_towerAhead (va_wsS RX1 25 yX1_showsHeads wsX1_showsHeads) := goodIn_app (goodIn_of _ (by decide +kernel)) ggX1_towerAhead_X1_showsHeads
theorem dX1_towerAhead_0 : decode cX1_towerAhead 0 = .ok (.aload_n 0, 1) := by decide +kernel
theorem dX1_towerAhead_1 : decode cX1_towerAhead 1 = .ok (.getfield 9, 3) := by decide +kernel
theorem dX1_towerAhead_4 : decode cX1_towerAhead 4 = .ok (.invokestatic 21, 3) := by decide +kernel
theorem dX1_towerAhead_7 : decode cX1_towerAhead 7 = .ok (.istore_n 1, 1) := by decide +kernel
theorem dX1_towerAhead_8 : decode cX1_towerAhead 8 = .ok (.iconst 1, 1) := by decide +kernel
theorem dX1_towerAhead_9 : decode cX1_towerAhead 9 = .ok (.istore_n 2, 1) := by decide +kernel
theorem dX1_towerAhead_10 : decode cX1_towerAhead 10 = .ok (.iload_n 2, 1) := by decide +kernel
theorem dX1_towerAhead_11 : decode cX1_towerAhead 11 = .ok (.iconst 5, 1) := by decide +kernel
theorem dX1_towerAhead_12 : decode cX1_towerAhead 12 = .ok (.if_icmp .ge 21, 3) := by decide +kernel
theorem dX1_towerAhead_15 : decode cX1_towerAhead 15 = .ok (.iload_n 1, 1) := by decide +kernel
theorem dX1_towerAhead_16 : decode cX1_towerAhead 16 = .ok (.invokestatic 25, 3) := by decide +kernel
theorem dX1_towerAhead_19 : decode cX1_towerAhead 19 = .ok (.ifCond .eq 14, 3) := by decide +kernel
theorem dX1_towerAhead_22 : decode cX1_towerAhead 22 = .ok (.iload_n 1, 1) := by decide +kernel
theorem dX1_towerAhead_23 : decode cX1_towerAhead 23 = .ok (.invokestatic 21, 3) := by decide +kernel
theorem dX1_towerAhead_26 : decode cX1_towerAhead 26 = .ok (.istore_n 1, 1) := by decide +kernel
theorem dX1_towerAhead_27 : decode cX1_towerAhead 27 = .ok (.iinc 2 1, 3) := by decide +kernel
theorem dX1_towerAhead_30 : decode cX1_towerAhead 30 = .ok (.goto (-20), 3) := by decide +kernel
theorem dX1_towerAhead_33 : decode cX1_towerAhead 33 = .ok (.iload_n 2, 1) := by decide +kernel
theorem dX1_towerAhead_34 : decode cX1_towerAhead 34 = .ok (.ireturn, 1) := by decide +kernel
theorem dX1_following_0 : decode cX1_following 0 = .ok (.bipush 73, 2) := by decide +kernel
theorem dX1_following_2 : decode cX1_following 2 = .ok (.iload_n 0, 1) := by decide +kernel
theorem dX1_following_3 : decode cX1_following 3 = .ok (.imul, 1) := by decide +kernel
theorem dX1_following_4 : decode cX1_following 4 = .ok (.bipush 19, 2) := by decide +kernel
theorem dX1_following_6 : decode cX1_following 6 = .ok (.iadd, 1) := by decide +kernel
theorem dX1_following_7 : decode cX1_following 7 = .ok (.sipush 10000, 3) := by decide +kernel
theorem dX1_following_10 : decode cX1_following 10 = .ok (.irem, 1) := by decide +kernel
theorem dX1_following_11 : decode cX1_following 11 = .ok (.ireturn, 1) := by decide +kernel
theorem dX1_showsHeads_0 : decode cX1_showsHeads 0 = .ok (.iload_n 0, 1) := by decide +kernel
theorem dX1_showsHeads_1 : decode cX1_showsHeads 1 = .ok (.bipush 100, 2) := by decide +kernel
theorem dX1_showsHeads_3 : decode cX1_showsHeads 3 = .ok (.idiv, 1) := by decide +kernel
theorem dX1_showsHeads_4 : decode cX1_showsHeads 4 = .ok (.iconst 2, 1) := by decide +kernel
theorem dX1_showsHeads_5 : decode cX1_showsHeads 5 = .ok (.irem, 1) := by decide +kernel
theorem dX1_showsHeads_6 : decode cX1_showsHeads 6 = .ok (.iconst 1, 1) := by decide +kernel
theorem dX1_showsHeads_7 : decode cX1_showsHeads 7 = .ok (.if_icmp .ne 7, 3) := by decide +kernel
theorem dX1_showsHeads_10 : decode cX1_showsHeads 10 = .ok (.iconst 1, 1) := by decide +kernel
theorem dX1_showsHeads_11 : decode cX1_showsHeads 11 = .ok (.goto 4, 3) := by decide +kernel
theorem dX1_showsHeads_14 : decode cX1_showsHeads 14 = .ok (.iconst 0, 1) := by decide +kernel
theorem dX1_showsHeads_15 : decode cX1_showsHeads 15 = .ok (.ireturn, 1) := by decide +kernel
set_option maxRecDepth 20000 in
theorem ggX2_init_X3_init : GoodIn wsX2_init wsX3_init := goodIn_r _ [12, 13, 2, 3, 14, 15, 16, 17, 18, 19, 20, 21, 22, 23, 24, 25, 26, 27, 28, 29, 30, 34, 35, 36, 37, 38, 39, 40, 41, 42] (by decide +kernel) (by decide +kernel)
set_option maxRecDepth 20000 in
theorem gX2_init_X3_init : GoodIn wsX2_init (wsX3_init) := ggX2_init_X3_init
theorem dX2_init_0 : decode cX2_init 0 = .ok (.aload_n 0, 1) := by decide +kernel
theorem dX2_init_1 : decode cX2_init 1 = .ok (.invokespecial 3, 3) := by decide +kernel
theorem dX2_init_4 : decode cX2_init 4 = .ok (.aload_n 0, 1) := by decide +kernel
theorem dX2_init_5 : decode cX2_init 5 = .ok (.bipush 8, 2) := by decide +kernel
theorem dX2_init_7 : decode cX2_init 7 = .ok (.anewarray 9, 3) := by decide +kernel
theorem dX2_init_10 : decode cX2_init 10 = .ok (.putfield 11, 3) := by decide +kernel
theorem dX2_init_13 : decode cX2_init 13 = .ok (.aload_n 0, 1) := by decide +kernel
theorem dX2_init_14 : decode cX2_init 14 = .ok (.iconst 0, 1) := by decide +kernel
theorem dX2_init_15 : decode cX2_init 15 = .ok (.putfield 17, 3) := by decide +kernel
theorem dX2_init_18 : decode cX2_init 18 = .ok (.aload_n 0, 1) := by decide +kernel
theorem dX2_init_19 : decode cX2_init 19 = .ok (.iconst 0, 1) := by decide +kernel
theorem dX2_init_20 : decode cX2_init 20 = .ok (.putfield 21, 3) := by decide +kernel
theorem dX2_init_23 : decode cX2_init 23 = .ok (.iconst 0, 1) := by decide +kernel
theorem dX2_init_24 : decode cX2_init 24 = .ok (.istore_n 1, 1) := by decide +kernel
theorem dX2_init_25 : decode cX2_init 25 = .ok (.iload_n 1, 1) := by decide +kernel
theorem dX2_init_26 : decode cX2_init 26 = .ok (.bipush 8, 2) := by decide +kernel
theorem dX2_init_28 : decode cX2_init 28 = .ok (.if_icmp .ge 22, 3) := by decide +kernel
theorem dX2_init_31 : decode cX2_init 31 = .ok (.aload_n 0, 1) := by decide +kernel
theorem dX2_init_32 : decode cX2_init 32 = .ok (.getfield 11, 3) := by decide +kernel
theorem dX2_init_35 : decode cX2_init 35 = .ok (.iload_n 1, 1) := by decide +kernel
theorem dX2_init_36 : decode cX2_init 36 = .ok (.new 9, 3) := by decide +kernel
theorem dX2_init_39 : decode cX2_init 39 = .ok (.dup, 1) := by decide +kernel
theorem dX2_init_40 : decode cX2_init 40 = .ok (.invokespecial 24, 3) := by decide +kernel
theorem dX2_init_43 : decode cX2_init 43 = .ok (.aastore, 1) := by decide +kernel
theorem dX2_init_44 : decode cX2_init 44 = .ok (.iinc 1 1, 3) := by decide +kernel
theorem dX2_init_47 : decode cX2_init 47 = .ok (.goto (-22), 3) := by decide +kernel
theorem dX2_init_50 : decode cX2_init 50 = .ok (.return_, 1) := by decide +kernel
theorem dX2_amount_0 : decode cX2_amount 0 = .ok (.aload_n 0, 1) := by decide +kernel
theorem dX2_amount_1 : decode cX2_amount 1 = .ok (.getfield 21, 3) := by decide +kernel
theorem dX2_amount_4 : decode cX2_amount 4 = .ok (.ireturn, 1) := by decide +kernel
theorem dX2_clear_0 : decode cX2_clear 0 = .ok (.aload_n 0, 1) := by decide +kernel
theorem dX2_clear_1 : decode cX2_clear 1 = .ok (.iconst 0, 1) := by decide +kernel
theorem dX2_clear_2 : decode cX2_clear 2 = .ok (.putfield 21, 3) := by decide +kernel
theorem dX2_clear_5 : decode cX2_clear 5 = .ok (.return_, 1) := by decide +kernel
set_option maxRecDepth 20000 in
theorem ggX2_keep_X2_newestKept : GoodIn wsX2_keep wsX2_newestKept := goodIn_r _ [11, 1, 12, 36, 37, 38] (by decide +kernel) (by decide +kernel)
set_option maxRecDepth 20000 in
theorem gX2_keep_X2_newestKept : GoodIn wsX2_keep (wsV RX2 25 RX2 yX2_newestKept wsX2_newestKept) := goodIn_app (goodIn_of _ (by decide +kernel)) ggX2_keep_X2_newestKept
set_option maxRecDepth 20000 in
theorem ggX2_keep_X3_copyFrom : GoodIn wsX2_keep wsX3_copyFrom := goodIn_r _ [17, 18, 19, 20, 21, 22, 23, 24, 25, 26, 27, 28, 29, 30, 31, 32, 33, 34, 35, 39, 40, 41, 42, 43, 44, 45, 46, 47] (by decide +kernel) (by decide +kernel)
set_option maxRecDepth 20000 in
theorem gX2_keep_X3_copyFrom : GoodIn wsX2_keep (wsV RX2 29 RX3 yX3_copyFrom wsX3_copyFrom) := goodIn_app (goodIn_of _ (by decide +kernel)) ggX2_keep_X3_copyFrom
theorem dX2_keep_0 : decode cX2_keep 0 = .ok (.aload_n 0, 1) := by decide +kernel
theorem dX2_keep_1 : decode cX2_keep 1 = .ok (.aload_n 0, 1) := by decide +kernel
theorem dX2_keep_2 : decode cX2_keep 2 = .ok (.getfield 17, 3) := by decide +kernel
theorem dX2_keep_5 : decode cX2_keep 5 = .ok (.iconst 1, 1) := by decide +kernel
theorem dX2_keep_6 : decode cX2_keep 6 = .ok (.iadd, 1) := by decide +kernel
theorem dX2_keep_7 : decode cX2_keep 7 = .ok (.bipush 8, 2) := by decide +kernel
theorem dX2_keep_9 : decode cX2_keep 9 = .ok (.irem, 1) := by decide +kernel
theorem dX2_keep_10 : decode cX2_keep 10 = .ok (.putfield 17, 3) := by decide +kernel
theorem dX2_keep_13 : decode cX2_keep 13 = .ok (.aload_n 0, 1) := by decide +kernel
theorem dX2_keep_14 : decode cX2_keep 14 = .ok (.invokevirtual 25, 3) := by decide +kernel
theorem dX2_keep_17 : decode cX2_keep 17 = .ok (.astore_n 2, 1) := by decide +kernel
theorem dX2_keep_18 : decode cX2_keep 18 = .ok (.aload_n 2, 1) := by decide +kernel
theorem dX2_keep_19 : decode cX2_keep 19 = .ok (.ifnull 23, 3) := by decide +kernel
theorem dX2_keep_22 : decode cX2_keep 22 = .ok (.aload_n 2, 1) := by decide +kernel
theorem dX2_keep_23 : decode cX2_keep 23 = .ok (.aload_n 1, 1) := by decide +kernel
theorem dX2_keep_24 : decode cX2_keep 24 = .ok (.invokevirtual 29, 3) := by decide +kernel
theorem dX2_keep_27 : decode cX2_keep 27 = .ok (.aload_n 0, 1) := by decide +kernel
theorem dX2_keep_28 : decode cX2_keep 28 = .ok (.aload_n 0, 1) := by decide +kernel
theorem dX2_keep_29 : decode cX2_keep 29 = .ok (.getfield 21, 3) := by decide +kernel
theorem dX2_keep_32 : decode cX2_keep 32 = .ok (.iconst 1, 1) := by decide +kernel
theorem dX2_keep_33 : decode cX2_keep 33 = .ok (.iadd, 1) := by decide +kernel
theorem dX2_keep_34 : decode cX2_keep 34 = .ok (.bipush 8, 2) := by decide +kernel
theorem dX2_keep_36 : decode cX2_keep 36 = .ok (.invokestatic 33, 3) := by decide +kernel
theorem dX2_keep_39 : decode cX2_keep 39 = .ok (.putfield 21, 3) := by decide +kernel
theorem dX2_keep_42 : decode cX2_keep 42 = .ok (.return_, 1) := by decide +kernel
set_option maxRecDepth 20000 in
theorem ggX2_takeBack_X2_newestKept : GoodIn wsX2_takeBack wsX2_newestKept := goodIn_r _ [7, 2, 8, 32, 33, 34] (by decide +kernel) (by decide +kernel)
set_option maxRecDepth 20000 in
theorem gX2_takeBack_X2_newestKept : GoodIn wsX2_takeBack (wsV RX2 25 RX2 yX2_newestKept wsX2_newestKept) := goodIn_app (goodIn_of _ (by decide +kernel)) ggX2_takeBack_X2_newestKept
set_option maxRecDepth 20000 in
theorem ggX2_takeBack_X3_copyFrom : GoodIn wsX2_takeBack wsX3_copyFrom := goodIn_r _ [13, 14, 15, 16, 17, 18, 19, 20, 21, 22, 23, 24, 25, 26, 27, 28, 29, 30, 31, 35, 36, 37, 38, 39, 40, 41, 42, 43] (by decide +kernel) (by decide +kernel)
set_option maxRecDepth 20000 in
theorem gX2_takeBack_X3_copyFrom : GoodIn wsX2_takeBack (wsV RX2 29 RX3 yX3_copyFrom wsX3_copyFrom) := goodIn_app (goodIn_of _ (by decide +kernel)) ggX2_takeBack_X3_copyFrom
theorem dX2_takeBack_0 : decode cX2_takeBack 0 = .ok (.aload_n 0, 1) := by decide +kernel
theorem dX2_takeBack_1 : decode cX2_takeBack 1 = .ok (.invokevirtual 25, 3) := by decide +kernel
theorem dX2_takeBack_4 : decode cX2_takeBack 4 = .ok (.astore_n 2, 1) := by decide +kernel
theorem dX2_takeBack_5 : decode cX2_takeBack 5 = .ok (.aload_n 0, 1) := by decide +kernel
theorem dX2_takeBack_6 : decode cX2_takeBack 6 = .ok (.getfield 21, 3) := by decide +kernel
theorem dX2_takeBack_9 : decode cX2_takeBack 9 = .ok (.ifCond .eq 7, 3) := by decide +kernel
theorem dX2_takeBack_12 : decode cX2_takeBack 12 = .ok (.aload_n 2, 1) := by decide +kernel
theorem dX2_takeBack_13 : decode cX2_takeBack 13 = .ok (.ifnonnull 5, 3) := by decide +kernel
theorem dX2_takeBack_16 : decode cX2_takeBack 16 = .ok (.iconst 0, 1) := by decide +kernel
theorem dX2_takeBack_17 : decode cX2_takeBack 17 = .ok (.ireturn, 1) := by decide +kernel
theorem dX2_takeBack_18 : decode cX2_takeBack 18 = .ok (.aload_n 1, 1) := by decide +kernel
theorem dX2_takeBack_19 : decode cX2_takeBack 19 = .ok (.aload_n 2, 1) := by decide +kernel
theorem dX2_takeBack_20 : decode cX2_takeBack 20 = .ok (.invokevirtual 29, 3) := by decide +kernel
theorem dX2_takeBack_23 : decode cX2_takeBack 23 = .ok (.aload_n 0, 1) := by decide +kernel
theorem dX2_takeBack_24 : decode cX2_takeBack 24 = .ok (.aload_n 0, 1) := by decide +kernel
theorem dX2_takeBack_25 : decode cX2_takeBack 25 = .ok (.getfield 17, 3) := by decide +kernel
theorem dX2_takeBack_28 : decode cX2_takeBack 28 = .ok (.bipush 8, 2) := by decide +kernel
theorem dX2_takeBack_30 : decode cX2_takeBack 30 = .ok (.iadd, 1) := by decide +kernel
theorem dX2_takeBack_31 : decode cX2_takeBack 31 = .ok (.iconst 1, 1) := by decide +kernel
theorem dX2_takeBack_32 : decode cX2_takeBack 32 = .ok (.isub, 1) := by decide +kernel
theorem dX2_takeBack_33 : decode cX2_takeBack 33 = .ok (.bipush 8, 2) := by decide +kernel
theorem dX2_takeBack_35 : decode cX2_takeBack 35 = .ok (.irem, 1) := by decide +kernel
theorem dX2_takeBack_36 : decode cX2_takeBack 36 = .ok (.putfield 17, 3) := by decide +kernel
theorem dX2_takeBack_39 : decode cX2_takeBack 39 = .ok (.aload_n 0, 1) := by decide +kernel
theorem dX2_takeBack_40 : decode cX2_takeBack 40 = .ok (.dup, 1) := by decide +kernel
theorem dX2_takeBack_41 : decode cX2_takeBack 41 = .ok (.getfield 21, 3) := by decide +kernel
theorem dX2_takeBack_44 : decode cX2_takeBack 44 = .ok (.iconst 1, 1) := by decide +kernel
theorem dX2_takeBack_45 : decode cX2_takeBack 45 = .ok (.isub, 1) := by decide +kernel
theorem dX2_takeBack_46 : decode cX2_takeBack 46 = .ok (.putfield 21, 3) := by decide +kernel
theorem dX2_takeBack_49 : decode cX2_takeBack 49 = .ok (.iconst 1, 1) := by decide +kernel
theorem dX2_takeBack_50 : decode cX2_takeBack 50 = .ok (.ireturn, 1) := by decide +kernel
theorem dX2_newestKept_0 : decode cX2_newestKept 0 = .ok (.aload_n 0, 1) := by decide +kernel
theorem dX2_newestKept_1 : decode cX2_newestKept 1 = .ok (.getfield 17, 3) := by decide +kernel
theorem dX2_newestKept_4 : decode cX2_newestKept 4 = .ok (.ifCond .lt 24, 3) := by decide +kernel
theorem dX2_newestKept_7 : decode cX2_newestKept 7 = .ok (.aload_n 0, 1) := by decide +kernel
theorem dX2_newestKept_8 : decode cX2_newestKept 8 = .ok (.getfield 17, 3) := by decide +kernel
theorem dX2_newestKept_11 : decode cX2_newestKept 11 = .ok (.bipush 8, 2) := by decide +kernel
theorem dX2_newestKept_13 : decode cX2_newestKept 13 = .ok (.if_icmp .ge 15, 3) := by decide +kernel
theorem dX2_newestKept_16 : decode cX2_newestKept 16 = .ok (.aload_n 0, 1) := by decide +kernel
theorem dX2_newestKept_17 : decode cX2_newestKept 17 = .ok (.getfield 11, 3) := by decide +kernel
theorem dX2_newestKept_20 : decode cX2_newestKept 20 = .ok (.aload_n 0, 1) := by decide +kernel
theorem dX2_newestKept_21 : decode cX2_newestKept 21 = .ok (.getfield 17, 3) := by decide +kernel
theorem dX2_newestKept_24 : decode cX2_newestKept 24 = .ok (.aaload, 1) := by decide +kernel
theorem dX2_newestKept_25 : decode cX2_newestKept 25 = .ok (.goto 4, 3) := by decide +kernel
theorem dX2_newestKept_28 : decode cX2_newestKept 28 = .ok (.aconst_null, 1) := by decide +kernel
theorem dX2_newestKept_29 : decode cX2_newestKept 29 = .ok (.areturn, 1) := by decide +kernel
set_option maxRecDepth 20000 in
theorem ggX3_init_X1_init : GoodIn wsX3_init wsX1_init := goodIn_r _ [16, 17, 2, 3, 18, 19, 20, 27, 28, 29] (by decide +kernel) (by decide +kernel)
set_option maxRecDepth 20000 in
theorem gX3_init_X1_init : GoodIn wsX3_init (wsX1_init) := ggX3_init_X1_init
theorem dX3_init_0 : decode cX3_init 0 = .ok (.aload_n 0, 1) := by decide +kernel
theorem dX3_init_1 : decode cX3_init 1 = .ok (.invokespecial 3, 3) := by decide +kernel
theorem dX3_init_4 : decode cX3_init 4 = .ok (.aload_n 0, 1) := by decide +kernel
theorem dX3_init_5 : decode cX3_init 5 = .ok (.bipush 24, 2) := by decide +kernel
theorem dX3_init_7 : decode cX3_init 7 = .ok (.newarray .int, 2) := by decide +kernel
theorem dX3_init_9 : decode cX3_init 9 = .ok (.putfield 9, 3) := by decide +kernel
theorem dX3_init_12 : decode cX3_init 12 = .ok (.aload_n 0, 1) := by decide +kernel
theorem dX3_init_13 : decode cX3_init 13 = .ok (.bipush 24, 2) := by decide +kernel
theorem dX3_init_15 : decode cX3_init 15 = .ok (.newarray .int, 2) := by decide +kernel
theorem dX3_init_17 : decode cX3_init 17 = .ok (.putfield 15, 3) := by decide +kernel
theorem dX3_init_20 : decode cX3_init 20 = .ok (.aload_n 0, 1) := by decide +kernel
theorem dX3_init_21 : decode cX3_init 21 = .ok (.bipush 24, 2) := by decide +kernel
theorem dX3_init_23 : decode cX3_init 23 = .ok (.newarray .int, 2) := by decide +kernel
theorem dX3_init_25 : decode cX3_init 25 = .ok (.putfield 18, 3) := by decide +kernel
theorem dX3_init_28 : decode cX3_init 28 = .ok (.aload_n 0, 1) := by decide +kernel
theorem dX3_init_29 : decode cX3_init 29 = .ok (.new 21, 3) := by decide +kernel
theorem dX3_init_32 : decode cX3_init 32 = .ok (.dup, 1) := by decide +kernel
theorem dX3_init_33 : decode cX3_init 33 = .ok (.invokespecial 23, 3) := by decide +kernel
theorem dX3_init_36 : decode cX3_init 36 = .ok (.putfield 24, 3) := by decide +kernel
theorem dX3_init_39 : decode cX3_init 39 = .ok (.aload_n 0, 1) := by decide +kernel
theorem dX3_init_40 : decode cX3_init 40 = .ok (.iconst 0, 1) := by decide +kernel
theorem dX3_init_41 : decode cX3_init 41 = .ok (.putfield 28, 3) := by decide +kernel
theorem dX3_init_44 : decode cX3_init 44 = .ok (.aload_n 0, 1) := by decide +kernel
theorem dX3_init_45 : decode cX3_init 45 = .ok (.iconst 0, 1) := by decide +kernel
theorem dX3_init_46 : decode cX3_init 46 = .ok (.putfield 32, 3) := by decide +kernel
theorem dX3_init_49 : decode cX3_init 49 = .ok (.return_, 1) := by decide +kernel
theorem dX3_size_0 : decode cX3_size 0 = .ok (.aload_n 0, 1) := by decide +kernel
theorem dX3_size_1 : decode cX3_size 1 = .ok (.getfield 28, 3) := by decide +kernel
theorem dX3_size_4 : decode cX3_size 4 = .ok (.ireturn, 1) := by decide +kernel
theorem dX3_coin_0 : decode cX3_coin 0 = .ok (.aload_n 0, 1) := by decide +kernel
theorem dX3_coin_1 : decode cX3_coin 1 = .ok (.getfield 24, 3) := by decide +kernel
theorem dX3_coin_4 : decode cX3_coin 4 = .ok (.areturn, 1) := by decide +kernel
set_option maxRecDepth 20000 in
theorem ggX3_copyFrom_X1_copyFrom : GoodIn wsX3_copyFrom wsX1_copyFrom := goodIn_r _ [15, 16, 17, 18, 25, 26, 27] (by decide +kernel) (by decide +kernel)
set_option maxRecDepth 20000 in
theorem gX3_copyFrom_X1_copyFrom : GoodIn wsX3_copyFrom (wsV RX3 41 RX1 yX1_copyFrom wsX1_copyFrom) := goodIn_app (goodIn_of _ (by decide +kernel)) ggX3_copyFrom_X1_copyFrom
theorem dX3_copyFrom_0 : decode cX3_copyFrom 0 = .ok (.aload_n 1, 1) := by decide +kernel
theorem dX3_copyFrom_1 : decode cX3_copyFrom 1 = .ok (.getfield 9, 3) := by decide +kernel
theorem dX3_copyFrom_4 : decode cX3_copyFrom 4 = .ok (.iconst 0, 1) := by decide +kernel
theorem dX3_copyFrom_5 : decode cX3_copyFrom 5 = .ok (.aload_n 0, 1) := by decide +kernel
theorem dX3_copyFrom_6 : decode cX3_copyFrom 6 = .ok (.getfield 9, 3) := by decide +kernel
theorem dX3_copyFrom_9 : decode cX3_copyFrom 9 = .ok (.iconst 0, 1) := by decide +kernel
theorem dX3_copyFrom_10 : decode cX3_copyFrom 10 = .ok (.bipush 24, 2) := by decide +kernel
theorem dX3_copyFrom_12 : decode cX3_copyFrom 12 = .ok (.invokestatic 35, 3) := by decide +kernel
theorem dX3_copyFrom_15 : decode cX3_copyFrom 15 = .ok (.aload_n 1, 1) := by decide +kernel
theorem dX3_copyFrom_16 : decode cX3_copyFrom 16 = .ok (.getfield 15, 3) := by decide +kernel
theorem dX3_copyFrom_19 : decode cX3_copyFrom 19 = .ok (.iconst 0, 1) := by decide +kernel
theorem dX3_copyFrom_20 : decode cX3_copyFrom 20 = .ok (.aload_n 0, 1) := by decide +kernel
theorem dX3_copyFrom_21 : decode cX3_copyFrom 21 = .ok (.getfield 15, 3) := by decide +kernel
theorem dX3_copyFrom_24 : decode cX3_copyFrom 24 = .ok (.iconst 0, 1) := by decide +kernel
theorem dX3_copyFrom_25 : decode cX3_copyFrom 25 = .ok (.bipush 24, 2) := by decide +kernel
theorem dX3_copyFrom_27 : decode cX3_copyFrom 27 = .ok (.invokestatic 35, 3) := by decide +kernel
theorem dX3_copyFrom_30 : decode cX3_copyFrom 30 = .ok (.aload_n 1, 1) := by decide +kernel
theorem dX3_copyFrom_31 : decode cX3_copyFrom 31 = .ok (.getfield 18, 3) := by decide +kernel
theorem dX3_copyFrom_34 : decode cX3_copyFrom 34 = .ok (.iconst 0, 1) := by decide +kernel
theorem dX3_copyFrom_35 : decode cX3_copyFrom 35 = .ok (.aload_n 0, 1) := by decide +kernel
theorem dX3_copyFrom_36 : decode cX3_copyFrom 36 = .ok (.getfield 18, 3) := by decide +kernel
theorem dX3_copyFrom_39 : decode cX3_copyFrom 39 = .ok (.iconst 0, 1) := by decide +kernel
theorem dX3_copyFrom_40 : decode cX3_copyFrom 40 = .ok (.bipush 24, 2) := by decide +kernel
theorem dX3_copyFrom_42 : decode cX3_copyFrom 42 = .ok (.invokestatic 35, 3) := by decide +kernel
theorem dX3_copyFrom_45 : decode cX3_copyFrom 45 = .ok (.aload_n 0, 1) := by decide +kernel
theorem dX3_copyFrom_46 : decode cX3_copyFrom 46 = .ok (.getfield 24, 3) := by decide +kernel
theorem dX3_copyFrom_49 : decode cX3_copyFrom 49 = .ok (.aload_n 1, 1) := by decide +kernel
theorem dX3_copyFrom_50 : decode cX3_copyFrom 50 = .ok (.getfield 24, 3) := by decide +kernel
theorem dX3_copyFrom_53 : decode cX3_copyFrom 53 = .ok (.invokevirtual 41, 3) := by decide +kernel
theorem dX3_copyFrom_56 : decode cX3_copyFrom 56 = .ok (.aload_n 0, 1) := by decide +kernel
theorem dX3_copyFrom_57 : decode cX3_copyFrom 57 = .ok (.aload_n 1, 1) := by decide +kernel
theorem dX3_copyFrom_58 : decode cX3_copyFrom 58 = .ok (.getfield 28, 3) := by decide +kernel
theorem dX3_copyFrom_61 : decode cX3_copyFrom 61 = .ok (.putfield 28, 3) := by decide +kernel
theorem dX3_copyFrom_64 : decode cX3_copyFrom 64 = .ok (.aload_n 0, 1) := by decide +kernel
theorem dX3_copyFrom_65 : decode cX3_copyFrom 65 = .ok (.aload_n 1, 1) := by decide +kernel
theorem dX3_copyFrom_66 : decode cX3_copyFrom 66 = .ok (.getfield 32, 3) := by decide +kernel
theorem dX3_copyFrom_69 : decode cX3_copyFrom 69 = .ok (.putfield 32, 3) := by decide +kernel
theorem dX3_copyFrom_72 : decode cX3_copyFrom 72 = .ok (.return_, 1) := by decide +kernel
theorem dX3_holds_0 : decode cX3_holds 0 = .ok (.iload_n 1, 1) := by decide +kernel
theorem dX3_holds_1 : decode cX3_holds 1 = .ok (.ifCond .lt 21, 3) := by decide +kernel
theorem dX3_holds_4 : decode cX3_holds 4 = .ok (.iload_n 1, 1) := by decide +kernel
theorem dX3_holds_5 : decode cX3_holds 5 = .ok (.aload_n 0, 1) := by decide +kernel
theorem dX3_holds_6 : decode cX3_holds 6 = .ok (.getfield 28, 3) := by decide +kernel
theorem dX3_holds_9 : decode cX3_holds 9 = .ok (.if_icmp .ge 13, 3) := by decide +kernel
theorem dX3_holds_12 : decode cX3_holds 12 = .ok (.iload_n 1, 1) := by decide +kernel
theorem dX3_holds_13 : decode cX3_holds 13 = .ok (.bipush 24, 2) := by decide +kernel
theorem dX3_holds_15 : decode cX3_holds 15 = .ok (.if_icmp .ge 7, 3) := by decide +kernel
theorem dX3_holds_18 : decode cX3_holds 18 = .ok (.iconst 1, 1) := by decide +kernel
theorem dX3_holds_19 : decode cX3_holds 19 = .ok (.goto 4, 3) := by decide +kernel
theorem dX3_holds_22 : decode cX3_holds 22 = .ok (.iconst 0, 1) := by decide +kernel
theorem dX3_holds_23 : decode cX3_holds 23 = .ok (.ireturn, 1) := by decide +kernel
set_option maxRecDepth 20000 in
theorem ggX3_keyOf_X3_holds : GoodIn wsX3_keyOf wsX3_holds := goodIn_r _ [6, 7, 8, 9, 10, 11, 12, 13] (by decide +kernel) (by decide +kernel)
set_option maxRecDepth 20000 in
theorem gX3_keyOf_X3_holds : GoodIn wsX3_keyOf (wsV RX3 45 RX3 yX3_holds wsX3_holds) := goodIn_app (goodIn_of _ (by decide +kernel)) ggX3_keyOf_X3_holds
theorem dX3_keyOf_0 : decode cX3_keyOf 0 = .ok (.aload_n 0, 1) := by decide +kernel
theorem dX3_keyOf_1 : decode cX3_keyOf 1 = .ok (.iload_n 1, 1) := by decide +kernel
theorem dX3_keyOf_2 : decode cX3_keyOf 2 = .ok (.invokevirtual 45, 3) := by decide +kernel
theorem dX3_keyOf_5 : decode cX3_keyOf 5 = .ok (.ifCond .eq 12, 3) := by decide +kernel
theorem dX3_keyOf_8 : decode cX3_keyOf 8 = .ok (.aload_n 0, 1) := by decide +kernel
theorem dX3_keyOf_9 : decode cX3_keyOf 9 = .ok (.getfield 9, 3) := by decide +kernel
theorem dX3_keyOf_12 : decode cX3_keyOf 12 = .ok (.iload_n 1, 1) := by decide +kernel
theorem dX3_keyOf_13 : decode cX3_keyOf 13 = .ok (.iaload, 1) := by decide +kernel
theorem dX3_keyOf_14 : decode cX3_keyOf 14 = .ok (.goto 4, 3) := by decide +kernel
theorem dX3_keyOf_17 : decode cX3_keyOf 17 = .ok (.iconst (-1), 1) := by decide +kernel
theorem dX3_keyOf_18 : decode cX3_keyOf 18 = .ok (.ireturn, 1) := by decide +kernel
set_option maxRecDepth 20000 in
theorem ggX3_weightOf_X3_holds : GoodIn wsX3_weightOf wsX3_holds := goodIn_r _ [6, 7, 8, 9, 10, 11, 12, 13] (by decide +kernel) (by decide +kernel)
set_option maxRecDepth 20000 in
theorem gX3_weightOf_X3_holds : GoodIn wsX3_weightOf (wsV RX3 45 RX3 yX3_holds wsX3_holds) := goodIn_app (goodIn_of _ (by decide +kernel)) ggX3_weightOf_X3_holds
theorem dX3_weightOf_0 : decode cX3_weightOf 0 = .ok (.aload_n 0, 1) := by decide +kernel
theorem dX3_weightOf_1 : decode cX3_weightOf 1 = .ok (.iload_n 1, 1) := by decide +kernel
theorem dX3_weightOf_2 : decode cX3_weightOf 2 = .ok (.invokevirtual 45, 3) := by decide +kernel
theorem dX3_weightOf_5 : decode cX3_weightOf 5 = .ok (.ifCond .eq 12, 3) := by decide +kernel
theorem dX3_weightOf_8 : decode cX3_weightOf 8 = .ok (.aload_n 0, 1) := by decide +kernel
theorem dX3_weightOf_9 : decode cX3_weightOf 9 = .ok (.getfield 15, 3) := by decide +kernel
theorem dX3_weightOf_12 : decode cX3_weightOf 12 = .ok (.iload_n 1, 1) := by decide +kernel
theorem dX3_weightOf_13 : decode cX3_weightOf 13 = .ok (.iaload, 1) := by decide +kernel
theorem dX3_weightOf_14 : decode cX3_weightOf 14 = .ok (.goto 4, 3) := by decide +kernel
theorem dX3_weightOf_17 : decode cX3_weightOf 17 = .ok (.iconst 0, 1) := by decide +kernel
theorem dX3_weightOf_18 : decode cX3_weightOf 18 = .ok (.ireturn, 1) := by decide +kernel
set_option maxRecDepth 20000 in
theorem ggX3_rungsOf_X3_holds : GoodIn wsX3_rungsOf wsX3_holds := goodIn_r _ [6, 7, 8, 9, 10, 11, 12, 13] (by decide +kernel) (by decide +kernel)
set_option maxRecDepth 20000 in
theorem gX3_rungsOf_X3_holds : GoodIn wsX3_rungsOf (wsV RX3 45 RX3 yX3_holds wsX3_holds) := goodIn_app (goodIn_of _ (by decide +kernel)) ggX3_rungsOf_X3_holds
theorem dX3_rungsOf_0 : decode cX3_rungsOf 0 = .ok (.aload_n 0, 1) := by decide +kernel
theorem dX3_rungsOf_1 : decode cX3_rungsOf 1 = .ok (.iload_n 1, 1) := by decide +kernel
theorem dX3_rungsOf_2 : decode cX3_rungsOf 2 = .ok (.invokevirtual 45, 3) := by decide +kernel
theorem dX3_rungsOf_5 : decode cX3_rungsOf 5 = .ok (.ifCond .eq 12, 3) := by decide +kernel
theorem dX3_rungsOf_8 : decode cX3_rungsOf 8 = .ok (.aload_n 0, 1) := by decide +kernel
theorem dX3_rungsOf_9 : decode cX3_rungsOf 9 = .ok (.getfield 18, 3) := by decide +kernel
theorem dX3_rungsOf_12 : decode cX3_rungsOf 12 = .ok (.iload_n 1, 1) := by decide +kernel
theorem dX3_rungsOf_13 : decode cX3_rungsOf 13 = .ok (.iaload, 1) := by decide +kernel
theorem dX3_rungsOf_14 : decode cX3_rungsOf 14 = .ok (.goto 4, 3) := by decide +kernel
theorem dX3_rungsOf_17 : decode cX3_rungsOf 17 = .ok (.iconst 0, 1) := by decide +kernel
theorem dX3_rungsOf_18 : decode cX3_rungsOf 18 = .ok (.ireturn, 1) := by decide +kernel
set_option maxRecDepth 20000 in
theorem ggX3_hasRung_X3_holds : GoodIn wsX3_hasRung wsX3_holds := goodIn_r _ [6, 7, 8, 9, 10, 11, 12, 13] (by decide +kernel) (by decide +kernel)
set_option maxRecDepth 20000 in
theorem gX3_hasRung_X3_holds : GoodIn wsX3_hasRung (wsV RX3 45 RX3 yX3_holds wsX3_holds) := goodIn_app (goodIn_of _ (by decide +kernel)) ggX3_hasRung_X3_holds
theorem dX3_hasRung_0 : decode cX3_hasRung 0 = .ok (.aload_n 0, 1) := by decide +kernel
theorem dX3_hasRung_1 : decode cX3_hasRung 1 = .ok (.iload_n 1, 1) := by decide +kernel
theorem dX3_hasRung_2 : decode cX3_hasRung 2 = .ok (.invokevirtual 45, 3) := by decide +kernel
theorem dX3_hasRung_5 : decode cX3_hasRung 5 = .ok (.ifCond .eq 17, 3) := by decide +kernel
theorem dX3_hasRung_8 : decode cX3_hasRung 8 = .ok (.aload_n 0, 1) := by decide +kernel
theorem dX3_hasRung_9 : decode cX3_hasRung 9 = .ok (.getfield 18, 3) := by decide +kernel
theorem dX3_hasRung_12 : decode cX3_hasRung 12 = .ok (.iload_n 1, 1) := by decide +kernel
theorem dX3_hasRung_13 : decode cX3_hasRung 13 = .ok (.iaload, 1) := by decide +kernel
theorem dX3_hasRung_14 : decode cX3_hasRung 14 = .ok (.iload_n 2, 1) := by decide +kernel
theorem dX3_hasRung_15 : decode cX3_hasRung 15 = .ok (.if_icmp .le 7, 3) := by decide +kernel
theorem dX3_hasRung_18 : decode cX3_hasRung 18 = .ok (.iconst 1, 1) := by decide +kernel
theorem dX3_hasRung_19 : decode cX3_hasRung 19 = .ok (.goto 4, 3) := by decide +kernel
theorem dX3_hasRung_22 : decode cX3_hasRung 22 = .ok (.iconst 0, 1) := by decide +kernel
theorem dX3_hasRung_23 : decode cX3_hasRung 23 = .ok (.ireturn, 1) := by decide +kernel
set_option maxRecDepth 20000 in
theorem ggX3_hasLowerKey_X3_holds : GoodIn wsX3_hasLowerKey wsX3_holds := goodIn_r _ [6, 7, 8, 9, 10, 11, 12, 13] (by decide +kernel) (by decide +kernel)
set_option maxRecDepth 20000 in
theorem gX3_hasLowerKey_X3_holds : GoodIn wsX3_hasLowerKey (wsV RX3 45 RX3 yX3_holds wsX3_holds) := goodIn_app (goodIn_of _ (by decide +kernel)) ggX3_hasLowerKey_X3_holds
theorem dX3_hasLowerKey_0 : decode cX3_hasLowerKey 0 = .ok (.aload_n 0, 1) := by decide +kernel
theorem dX3_hasLowerKey_1 : decode cX3_hasLowerKey 1 = .ok (.iload_n 1, 1) := by decide +kernel
theorem dX3_hasLowerKey_2 : decode cX3_hasLowerKey 2 = .ok (.invokevirtual 45, 3) := by decide +kernel
theorem dX3_hasLowerKey_5 : decode cX3_hasLowerKey 5 = .ok (.ifCond .eq 17, 3) := by decide +kernel
theorem dX3_hasLowerKey_8 : decode cX3_hasLowerKey 8 = .ok (.aload_n 0, 1) := by decide +kernel
theorem dX3_hasLowerKey_9 : decode cX3_hasLowerKey 9 = .ok (.getfield 9, 3) := by decide +kernel
theorem dX3_hasLowerKey_12 : decode cX3_hasLowerKey 12 = .ok (.iload_n 1, 1) := by decide +kernel
theorem dX3_hasLowerKey_13 : decode cX3_hasLowerKey 13 = .ok (.iaload, 1) := by decide +kernel
theorem dX3_hasLowerKey_14 : decode cX3_hasLowerKey 14 = .ok (.iload_n 2, 1) := by decide +kernel
theorem dX3_hasLowerKey_15 : decode cX3_hasLowerKey 15 = .ok (.if_icmp .ge 7, 3) := by decide +kernel
theorem dX3_hasLowerKey_18 : decode cX3_hasLowerKey 18 = .ok (.iconst 1, 1) := by decide +kernel
theorem dX3_hasLowerKey_19 : decode cX3_hasLowerKey 19 = .ok (.goto 4, 3) := by decide +kernel
theorem dX3_hasLowerKey_22 : decode cX3_hasLowerKey 22 = .ok (.iconst 0, 1) := by decide +kernel
theorem dX3_hasLowerKey_23 : decode cX3_hasLowerKey 23 = .ok (.ireturn, 1) := by decide +kernel
theorem dX3_lowerKeys_0 : decode cX3_lowerKeys 0 = .ok (.iconst 0, 1) := by decide +kernel
theorem dX3_lowerKeys_1 : decode cX3_lowerKeys 1 = .ok (.istore_n 2, 1) := by decide +kernel
theorem dX3_lowerKeys_2 : decode cX3_lowerKeys 2 = .ok (.iload_n 2, 1) := by decide +kernel
theorem dX3_lowerKeys_3 : decode cX3_lowerKeys 3 = .ok (.aload_n 0, 1) := by decide +kernel
theorem dX3_lowerKeys_4 : decode cX3_lowerKeys 4 = .ok (.getfield 28, 3) := by decide +kernel
theorem dX3_lowerKeys_7 : decode cX3_lowerKeys 7 = .ok (.if_icmp .ge 25, 3) := by decide +kernel
theorem dX3_lowerKeys_10 : decode cX3_lowerKeys 10 = .ok (.iload_n 2, 1) := by decide +kernel
theorem dX3_lowerKeys_11 : decode cX3_lowerKeys 11 = .ok (.bipush 24, 2) := by decide +kernel
theorem dX3_lowerKeys_13 : decode cX3_lowerKeys 13 = .ok (.if_icmp .ge 19, 3) := by decide +kernel
theorem dX3_lowerKeys_16 : decode cX3_lowerKeys 16 = .ok (.aload_n 0, 1) := by decide +kernel
theorem dX3_lowerKeys_17 : decode cX3_lowerKeys 17 = .ok (.getfield 9, 3) := by decide +kernel
theorem dX3_lowerKeys_20 : decode cX3_lowerKeys 20 = .ok (.iload_n 2, 1) := by decide +kernel
theorem dX3_lowerKeys_21 : decode cX3_lowerKeys 21 = .ok (.iaload, 1) := by decide +kernel
theorem dX3_lowerKeys_22 : decode cX3_lowerKeys 22 = .ok (.iload_n 1, 1) := by decide +kernel
theorem dX3_lowerKeys_23 : decode cX3_lowerKeys 23 = .ok (.if_icmp .ge 9, 3) := by decide +kernel
theorem dX3_lowerKeys_26 : decode cX3_lowerKeys 26 = .ok (.iinc 2 1, 3) := by decide +kernel
theorem dX3_lowerKeys_29 : decode cX3_lowerKeys 29 = .ok (.goto (-27), 3) := by decide +kernel
theorem dX3_lowerKeys_32 : decode cX3_lowerKeys 32 = .ok (.iload_n 2, 1) := by decide +kernel
theorem dX3_lowerKeys_33 : decode cX3_lowerKeys 33 = .ok (.ireturn, 1) := by decide +kernel
set_option maxRecDepth 20000 in
theorem ggX3_placeWith_X3_lowerKeys : GoodIn wsX3_placeWith wsX3_lowerKeys := goodIn_ca (goodIn_r _ [6, 7, 1, 12, 13, 14, 15, 16, 17] (by decide +kernel) (by decide +kernel)) (goodIn_sub (fun _ h => List.mem_cons_of_mem _ (List.mem_append_right _ h)) (by decide +kernel))
set_option maxRecDepth 20000 in
theorem gX3_placeWith_X3_lowerKeys : GoodIn wsX3_placeWith (wsV RX3 49 RX3 yX3_lowerKeys wsX3_lowerKeys) := goodIn_app (goodIn_of _ (by decide +kernel)) ggX3_placeWith_X3_lowerKeys
set_option maxRecDepth 20000 in
theorem ggX3_placeWith_X3_holds : GoodIn wsX3_placeWith wsX3_holds := goodIn_r _ [11, 7, 12, 13, 14, 15, 16, 17] (by decide +kernel) (by decide +kernel)
set_option maxRecDepth 20000 in
theorem gX3_placeWith_X3_holds : GoodIn wsX3_placeWith (wsV RX3 45 RX3 yX3_holds wsX3_holds) := goodIn_app (goodIn_of _ (by decide +kernel)) ggX3_placeWith_X3_holds
theorem dX3_placeWith_0 : decode cX3_placeWith 0 = .ok (.aload_n 0, 1) := by decide +kernel
theorem dX3_placeWith_1 : decode cX3_placeWith 1 = .ok (.iload_n 1, 1) := by decide +kernel
theorem dX3_placeWith_2 : decode cX3_placeWith 2 = .ok (.invokevirtual 49, 3) := by decide +kernel
theorem dX3_placeWith_5 : decode cX3_placeWith 5 = .ok (.istore_n 2, 1) := by decide +kernel
theorem dX3_placeWith_6 : decode cX3_placeWith 6 = .ok (.aload_n 0, 1) := by decide +kernel
theorem dX3_placeWith_7 : decode cX3_placeWith 7 = .ok (.iload_n 2, 1) := by decide +kernel
theorem dX3_placeWith_8 : decode cX3_placeWith 8 = .ok (.invokevirtual 45, 3) := by decide +kernel
theorem dX3_placeWith_11 : decode cX3_placeWith 11 = .ok (.ifCond .eq 17, 3) := by decide +kernel
theorem dX3_placeWith_14 : decode cX3_placeWith 14 = .ok (.aload_n 0, 1) := by decide +kernel
theorem dX3_placeWith_15 : decode cX3_placeWith 15 = .ok (.getfield 9, 3) := by decide +kernel
theorem dX3_placeWith_18 : decode cX3_placeWith 18 = .ok (.iload_n 2, 1) := by decide +kernel
theorem dX3_placeWith_19 : decode cX3_placeWith 19 = .ok (.iaload, 1) := by decide +kernel
theorem dX3_placeWith_20 : decode cX3_placeWith 20 = .ok (.iload_n 1, 1) := by decide +kernel
theorem dX3_placeWith_21 : decode cX3_placeWith 21 = .ok (.if_icmp .ne 7, 3) := by decide +kernel
theorem dX3_placeWith_24 : decode cX3_placeWith 24 = .ok (.iload_n 2, 1) := by decide +kernel
theorem dX3_placeWith_25 : decode cX3_placeWith 25 = .ok (.goto 4, 3) := by decide +kernel
theorem dX3_placeWith_28 : decode cX3_placeWith 28 = .ok (.iconst (-1), 1) := by decide +kernel
theorem dX3_placeWith_29 : decode cX3_placeWith 29 = .ok (.ireturn, 1) := by decide +kernel
theorem dX3_isFull_0 : decode cX3_isFull 0 = .ok (.aload_n 0, 1) := by decide +kernel
theorem dX3_isFull_1 : decode cX3_isFull 1 = .ok (.getfield 28, 3) := by decide +kernel
theorem dX3_isFull_4 : decode cX3_isFull 4 = .ok (.bipush 24, 2) := by decide +kernel
theorem dX3_isFull_6 : decode cX3_isFull 6 = .ok (.if_icmp .lt 7, 3) := by decide +kernel
theorem dX3_isFull_9 : decode cX3_isFull 9 = .ok (.iconst 1, 1) := by decide +kernel
theorem dX3_isFull_10 : decode cX3_isFull 10 = .ok (.goto 4, 3) := by decide +kernel
theorem dX3_isFull_13 : decode cX3_isFull 13 = .ok (.iconst 0, 1) := by decide +kernel
theorem dX3_isFull_14 : decode cX3_isFull 14 = .ok (.ireturn, 1) := by decide +kernel
set_option maxRecDepth 20000 in
theorem ggX3_insert_X3_isFull : GoodIn wsX3_insert wsX3_isFull := goodIn_r _ [6, 1, 34, 35, 36, 37, 38, 39] (by decide +kernel) (by decide +kernel)
set_option maxRecDepth 20000 in
theorem gX3_insert_X3_isFull : GoodIn wsX3_insert (wsV RX3 53 RX3 yX3_isFull wsX3_isFull) := goodIn_app (goodIn_of _ (by decide +kernel)) ggX3_insert_X3_isFull
set_option maxRecDepth 20000 in
theorem ggX3_insert_X3_lowerKeys : GoodIn wsX3_insert wsX3_lowerKeys := goodIn_ca (goodIn_r _ [10, 1, 11, 34, 35, 36, 37, 38, 39] (by decide +kernel) (by decide +kernel)) (goodIn_sub (fun _ h => List.mem_cons_of_mem _ (List.mem_append_right _ h)) (by decide +kernel))
set_option maxRecDepth 20000 in
theorem gX3_insert_X3_lowerKeys : GoodIn wsX3_insert (wsV RX3 49 RX3 yX3_lowerKeys wsX3_lowerKeys) := goodIn_app (goodIn_of _ (by decide +kernel)) ggX3_insert_X3_lowerKeys
set_option maxRecDepth 20000 in
theorem ggX3_insert_X3_keyOf : GoodIn wsX3_insert wsX3_keyOf := goodIn_ca (goodIn_r _ [15, 11, 16, 17, 18, 5, 19, 1, 34, 35, 36, 37, 38, 39] (by decide +kernel) (by decide +kernel)) (goodIn_sub (fun _ h => List.mem_cons_of_mem _ (List.mem_append_right _ h)) (by decide +kernel))
set_option maxRecDepth 20000 in
theorem gX3_insert_X3_keyOf : GoodIn wsX3_insert (wsV RX3 57 RX3 yX3_keyOf wsX3_keyOf) := goodIn_app (goodIn_of _ (by decide +kernel)) ggX3_insert_X3_keyOf
set_option maxRecDepth 20000 in
theorem ggX3_insert_X3_weightOf : GoodIn wsX3_insert wsX3_weightOf := goodIn_ca (goodIn_r _ [23, 24, 16, 17, 18, 5, 19, 1, 34, 35, 36, 37, 38, 39] (by decide +kernel) (by decide +kernel)) (goodIn_sub (fun _ h => List.mem_cons_of_mem _ (List.mem_append_right _ h)) (by decide +kernel))
set_option maxRecDepth 20000 in
theorem gX3_insert_X3_weightOf : GoodIn wsX3_insert (wsV RX3 60 RX3 yX3_weightOf wsX3_weightOf) := goodIn_app (goodIn_of _ (by decide +kernel)) ggX3_insert_X3_weightOf
set_option maxRecDepth 20000 in
theorem ggX3_insert_X3_rungsOf : GoodIn wsX3_insert wsX3_rungsOf := goodIn_ca (goodIn_r _ [28, 29, 16, 17, 18, 5, 19, 1, 34, 35, 36, 37, 38, 39] (by decide +kernel) (by decide +kernel)) (goodIn_sub (fun _ h => List.mem_cons_of_mem _ (List.mem_append_right _ h)) (by decide +kernel))
set_option maxRecDepth 20000 in
theorem gX3_insert_X3_rungsOf : GoodIn wsX3_insert (wsV RX3 63 RX3 yX3_rungsOf wsX3_rungsOf) := goodIn_app (goodIn_of _ (by decide +kernel)) ggX3_insert_X3_rungsOf
set_option maxRecDepth 20000 in
theorem ggX3_insert_X3_put : GoodIn wsX3_insert wsX3_put := goodIn_ca (goodIn_r _ [33, 11, 24, 29, 16, 17, 18, 5, 19, 1, 34, 35, 36, 37, 38, 39] (by decide +kernel) (by decide +kernel)) (goodIn_sub (fun _ h => List.mem_cons_of_mem _ (List.mem_append_right _ h)) (by decide +kernel))
set_option maxRecDepth 20000 in
theorem gX3_insert_X3_put : GoodIn wsX3_insert (wsV RX3 66 RX3 yX3_put wsX3_put) := goodIn_app (goodIn_of _ (by decide +kernel)) ggX3_insert_X3_put
theorem dX3_insert_0 : decode cX3_insert 0 = .ok (.aload_n 0, 1) := by decide +kernel
theorem dX3_insert_1 : decode cX3_insert 1 = .ok (.invokevirtual 53, 3) := by decide +kernel
theorem dX3_insert_4 : decode cX3_insert 4 = .ok (.ifCond .eq 4, 3) := by decide +kernel
theorem dX3_insert_7 : decode cX3_insert 7 = .ok (.return_, 1) := by decide +kernel
theorem dX3_insert_8 : decode cX3_insert 8 = .ok (.aload_n 0, 1) := by decide +kernel
theorem dX3_insert_9 : decode cX3_insert 9 = .ok (.iload_n 1, 1) := by decide +kernel
theorem dX3_insert_10 : decode cX3_insert 10 = .ok (.invokevirtual 49, 3) := by decide +kernel
theorem dX3_insert_13 : decode cX3_insert 13 = .ok (.istore 4, 2) := by decide +kernel
theorem dX3_insert_15 : decode cX3_insert 15 = .ok (.aload_n 0, 1) := by decide +kernel
theorem dX3_insert_16 : decode cX3_insert 16 = .ok (.dup, 1) := by decide +kernel
theorem dX3_insert_17 : decode cX3_insert 17 = .ok (.getfield 28, 3) := by decide +kernel
theorem dX3_insert_20 : decode cX3_insert 20 = .ok (.iconst 1, 1) := by decide +kernel
theorem dX3_insert_21 : decode cX3_insert 21 = .ok (.iadd, 1) := by decide +kernel
theorem dX3_insert_22 : decode cX3_insert 22 = .ok (.putfield 28, 3) := by decide +kernel
theorem dX3_insert_25 : decode cX3_insert 25 = .ok (.aload_n 0, 1) := by decide +kernel
theorem dX3_insert_26 : decode cX3_insert 26 = .ok (.getfield 28, 3) := by decide +kernel
theorem dX3_insert_29 : decode cX3_insert 29 = .ok (.iconst 1, 1) := by decide +kernel
theorem dX3_insert_30 : decode cX3_insert 30 = .ok (.isub, 1) := by decide +kernel
theorem dX3_insert_31 : decode cX3_insert 31 = .ok (.istore 5, 2) := by decide +kernel
theorem dX3_insert_33 : decode cX3_insert 33 = .ok (.iload 5, 2) := by decide +kernel
theorem dX3_insert_35 : decode cX3_insert 35 = .ok (.iload 4, 2) := by decide +kernel
theorem dX3_insert_37 : decode cX3_insert 37 = .ok (.if_icmp .le 39, 3) := by decide +kernel
theorem dX3_insert_40 : decode cX3_insert 40 = .ok (.aload_n 0, 1) := by decide +kernel
theorem dX3_insert_41 : decode cX3_insert 41 = .ok (.iload 5, 2) := by decide +kernel
theorem dX3_insert_43 : decode cX3_insert 43 = .ok (.aload_n 0, 1) := by decide +kernel
theorem dX3_insert_44 : decode cX3_insert 44 = .ok (.iload 5, 2) := by decide +kernel
theorem dX3_insert_46 : decode cX3_insert 46 = .ok (.iconst 1, 1) := by decide +kernel
theorem dX3_insert_47 : decode cX3_insert 47 = .ok (.isub, 1) := by decide +kernel
theorem dX3_insert_48 : decode cX3_insert 48 = .ok (.invokevirtual 57, 3) := by decide +kernel
theorem dX3_insert_51 : decode cX3_insert 51 = .ok (.aload_n 0, 1) := by decide +kernel
theorem dX3_insert_52 : decode cX3_insert 52 = .ok (.iload 5, 2) := by decide +kernel
theorem dX3_insert_54 : decode cX3_insert 54 = .ok (.iconst 1, 1) := by decide +kernel
theorem dX3_insert_55 : decode cX3_insert 55 = .ok (.isub, 1) := by decide +kernel
theorem dX3_insert_56 : decode cX3_insert 56 = .ok (.invokevirtual 60, 3) := by decide +kernel
theorem dX3_insert_59 : decode cX3_insert 59 = .ok (.aload_n 0, 1) := by decide +kernel
theorem dX3_insert_60 : decode cX3_insert 60 = .ok (.iload 5, 2) := by decide +kernel
theorem dX3_insert_62 : decode cX3_insert 62 = .ok (.iconst 1, 1) := by decide +kernel
theorem dX3_insert_63 : decode cX3_insert 63 = .ok (.isub, 1) := by decide +kernel
theorem dX3_insert_64 : decode cX3_insert 64 = .ok (.invokevirtual 63, 3) := by decide +kernel
theorem dX3_insert_67 : decode cX3_insert 67 = .ok (.invokevirtual 66, 3) := by decide +kernel
theorem dX3_insert_70 : decode cX3_insert 70 = .ok (.iinc 5 (-1), 3) := by decide +kernel
theorem dX3_insert_73 : decode cX3_insert 73 = .ok (.goto (-40), 3) := by decide +kernel
theorem dX3_insert_76 : decode cX3_insert 76 = .ok (.aload_n 0, 1) := by decide +kernel
theorem dX3_insert_77 : decode cX3_insert 77 = .ok (.iload 4, 2) := by decide +kernel
theorem dX3_insert_79 : decode cX3_insert 79 = .ok (.iload_n 1, 1) := by decide +kernel
theorem dX3_insert_80 : decode cX3_insert 80 = .ok (.iload_n 2, 1) := by decide +kernel
theorem dX3_insert_81 : decode cX3_insert 81 = .ok (.iload_n 3, 1) := by decide +kernel
theorem dX3_insert_82 : decode cX3_insert 82 = .ok (.invokevirtual 66, 3) := by decide +kernel
theorem dX3_insert_85 : decode cX3_insert 85 = .ok (.return_, 1) := by decide +kernel
set_option maxRecDepth 20000 in
theorem ggX3_remove_X3_holds : GoodIn wsX3_remove wsX3_holds := goodIn_r _ [6, 1, 26, 27, 28, 29, 30, 31] (by decide +kernel) (by decide +kernel)
set_option maxRecDepth 20000 in
theorem gX3_remove_X3_holds : GoodIn wsX3_remove (wsV RX3 45 RX3 yX3_holds wsX3_holds) := goodIn_app (goodIn_of _ (by decide +kernel)) ggX3_remove_X3_holds
set_option maxRecDepth 20000 in
theorem ggX3_remove_X3_keyOf : GoodIn wsX3_remove wsX3_keyOf := goodIn_ca (goodIn_r _ [10, 11, 2, 3, 4, 5, 6, 1, 26, 27, 28, 29, 30, 31] (by decide +kernel) (by decide +kernel)) (goodIn_sub (fun _ h => List.mem_cons_of_mem _ (List.mem_append_right _ h)) (by decide +kernel))
set_option maxRecDepth 20000 in
theorem gX3_remove_X3_keyOf : GoodIn wsX3_remove (wsV RX3 57 RX3 yX3_keyOf wsX3_keyOf) := goodIn_app (goodIn_of _ (by decide +kernel)) ggX3_remove_X3_keyOf
set_option maxRecDepth 20000 in
theorem ggX3_remove_X3_weightOf : GoodIn wsX3_remove wsX3_weightOf := goodIn_ca (goodIn_r _ [15, 16, 2, 3, 4, 5, 6, 1, 26, 27, 28, 29, 30, 31] (by decide +kernel) (by decide +kernel)) (goodIn_sub (fun _ h => List.mem_cons_of_mem _ (List.mem_append_right _ h)) (by decide +kernel))
set_option maxRecDepth 20000 in
theorem gX3_remove_X3_weightOf : GoodIn wsX3_remove (wsV RX3 60 RX3 yX3_weightOf wsX3_weightOf) := goodIn_app (goodIn_of _ (by decide +kernel)) ggX3_remove_X3_weightOf
set_option maxRecDepth 20000 in
theorem ggX3_remove_X3_rungsOf : GoodIn wsX3_remove wsX3_rungsOf := goodIn_ca (goodIn_r _ [20, 21, 2, 3, 4, 5, 6, 1, 26, 27, 28, 29, 30, 31] (by decide +kernel) (by decide +kernel)) (goodIn_sub (fun _ h => List.mem_cons_of_mem _ (List.mem_append_right _ h)) (by decide +kernel))
set_option maxRecDepth 20000 in
theorem gX3_remove_X3_rungsOf : GoodIn wsX3_remove (wsV RX3 63 RX3 yX3_rungsOf wsX3_rungsOf) := goodIn_app (goodIn_of _ (by decide +kernel)) ggX3_remove_X3_rungsOf
set_option maxRecDepth 20000 in
theorem ggX3_remove_X3_put : GoodIn wsX3_remove wsX3_put := goodIn_ca (goodIn_r _ [25, 11, 16, 21, 2, 3, 4, 5, 6, 1, 26, 27, 28, 29, 30, 31] (by decide +kernel) (by decide +kernel)) (goodIn_sub (fun _ h => List.mem_cons_of_mem _ (List.mem_append_right _ h)) (by decide +kernel))
set_option maxRecDepth 20000 in
theorem gX3_remove_X3_put : GoodIn wsX3_remove (wsV RX3 66 RX3 yX3_put wsX3_put) := goodIn_app (goodIn_of _ (by decide +kernel)) ggX3_remove_X3_put
theorem dX3_remove_0 : decode cX3_remove 0 = .ok (.aload_n 0, 1) := by decide +kernel
theorem dX3_remove_1 : decode cX3_remove 1 = .ok (.iload_n 1, 1) := by decide +kernel
theorem dX3_remove_2 : decode cX3_remove 2 = .ok (.invokevirtual 45, 3) := by decide +kernel
theorem dX3_remove_5 : decode cX3_remove 5 = .ok (.ifCond .ne 4, 3) := by decide +kernel
theorem dX3_remove_8 : decode cX3_remove 8 = .ok (.return_, 1) := by decide +kernel
theorem dX3_remove_9 : decode cX3_remove 9 = .ok (.iload_n 1, 1) := by decide +kernel
theorem dX3_remove_10 : decode cX3_remove 10 = .ok (.istore_n 2, 1) := by decide +kernel
theorem dX3_remove_11 : decode cX3_remove 11 = .ok (.iload_n 2, 1) := by decide +kernel
theorem dX3_remove_12 : decode cX3_remove 12 = .ok (.aload_n 0, 1) := by decide +kernel
theorem dX3_remove_13 : decode cX3_remove 13 = .ok (.getfield 28, 3) := by decide +kernel
theorem dX3_remove_16 : decode cX3_remove 16 = .ok (.iconst 1, 1) := by decide +kernel
theorem dX3_remove_17 : decode cX3_remove 17 = .ok (.isub, 1) := by decide +kernel
theorem dX3_remove_18 : decode cX3_remove 18 = .ok (.if_icmp .ge 35, 3) := by decide +kernel
theorem dX3_remove_21 : decode cX3_remove 21 = .ok (.aload_n 0, 1) := by decide +kernel
theorem dX3_remove_22 : decode cX3_remove 22 = .ok (.iload_n 2, 1) := by decide +kernel
theorem dX3_remove_23 : decode cX3_remove 23 = .ok (.aload_n 0, 1) := by decide +kernel
theorem dX3_remove_24 : decode cX3_remove 24 = .ok (.iload_n 2, 1) := by decide +kernel
theorem dX3_remove_25 : decode cX3_remove 25 = .ok (.iconst 1, 1) := by decide +kernel
theorem dX3_remove_26 : decode cX3_remove 26 = .ok (.iadd, 1) := by decide +kernel
theorem dX3_remove_27 : decode cX3_remove 27 = .ok (.invokevirtual 57, 3) := by decide +kernel
theorem dX3_remove_30 : decode cX3_remove 30 = .ok (.aload_n 0, 1) := by decide +kernel
theorem dX3_remove_31 : decode cX3_remove 31 = .ok (.iload_n 2, 1) := by decide +kernel
theorem dX3_remove_32 : decode cX3_remove 32 = .ok (.iconst 1, 1) := by decide +kernel
theorem dX3_remove_33 : decode cX3_remove 33 = .ok (.iadd, 1) := by decide +kernel
theorem dX3_remove_34 : decode cX3_remove 34 = .ok (.invokevirtual 60, 3) := by decide +kernel
theorem dX3_remove_37 : decode cX3_remove 37 = .ok (.aload_n 0, 1) := by decide +kernel
theorem dX3_remove_38 : decode cX3_remove 38 = .ok (.iload_n 2, 1) := by decide +kernel
theorem dX3_remove_39 : decode cX3_remove 39 = .ok (.iconst 1, 1) := by decide +kernel
theorem dX3_remove_40 : decode cX3_remove 40 = .ok (.iadd, 1) := by decide +kernel
theorem dX3_remove_41 : decode cX3_remove 41 = .ok (.invokevirtual 63, 3) := by decide +kernel
theorem dX3_remove_44 : decode cX3_remove 44 = .ok (.invokevirtual 66, 3) := by decide +kernel
theorem dX3_remove_47 : decode cX3_remove 47 = .ok (.iinc 2 1, 3) := by decide +kernel
theorem dX3_remove_50 : decode cX3_remove 50 = .ok (.goto (-39), 3) := by decide +kernel
theorem dX3_remove_53 : decode cX3_remove 53 = .ok (.aload_n 0, 1) := by decide +kernel
theorem dX3_remove_54 : decode cX3_remove 54 = .ok (.dup, 1) := by decide +kernel
theorem dX3_remove_55 : decode cX3_remove 55 = .ok (.getfield 28, 3) := by decide +kernel
theorem dX3_remove_58 : decode cX3_remove 58 = .ok (.iconst 1, 1) := by decide +kernel
theorem dX3_remove_59 : decode cX3_remove 59 = .ok (.isub, 1) := by decide +kernel
theorem dX3_remove_60 : decode cX3_remove 60 = .ok (.putfield 28, 3) := by decide +kernel
theorem dX3_remove_63 : decode cX3_remove 63 = .ok (.return_, 1) := by decide +kernel
set_option maxRecDepth 20000 in
theorem ggX3_put_X3_holds : GoodIn wsX3_put wsX3_holds := goodIn_r _ [8, 9, 10, 11, 12, 13, 14, 15] (by decide +kernel) (by decide +kernel)
set_option maxRecDepth 20000 in
theorem gX3_put_X3_holds : GoodIn wsX3_put (wsV RX3 45 RX3 yX3_holds wsX3_holds) := goodIn_app (goodIn_of _ (by decide +kernel)) ggX3_put_X3_holds
theorem dX3_put_0 : decode cX3_put 0 = .ok (.aload_n 0, 1) := by decide +kernel
theorem dX3_put_1 : decode cX3_put 1 = .ok (.iload_n 1, 1) := by decide +kernel
theorem dX3_put_2 : decode cX3_put 2 = .ok (.invokevirtual 45, 3) := by decide +kernel
theorem dX3_put_5 : decode cX3_put 5 = .ok (.ifCond .eq 25, 3) := by decide +kernel
theorem dX3_put_8 : decode cX3_put 8 = .ok (.aload_n 0, 1) := by decide +kernel
theorem dX3_put_9 : decode cX3_put 9 = .ok (.getfield 9, 3) := by decide +kernel
theorem dX3_put_12 : decode cX3_put 12 = .ok (.iload_n 1, 1) := by decide +kernel
theorem dX3_put_13 : decode cX3_put 13 = .ok (.iload_n 2, 1) := by decide +kernel
theorem dX3_put_14 : decode cX3_put 14 = .ok (.iastore, 1) := by decide +kernel
theorem dX3_put_15 : decode cX3_put 15 = .ok (.aload_n 0, 1) := by decide +kernel
theorem dX3_put_16 : decode cX3_put 16 = .ok (.getfield 15, 3) := by decide +kernel
theorem dX3_put_19 : decode cX3_put 19 = .ok (.iload_n 1, 1) := by decide +kernel
theorem dX3_put_20 : decode cX3_put 20 = .ok (.iload_n 3, 1) := by decide +kernel
theorem dX3_put_21 : decode cX3_put 21 = .ok (.iastore, 1) := by decide +kernel
theorem dX3_put_22 : decode cX3_put 22 = .ok (.aload_n 0, 1) := by decide +kernel
theorem dX3_put_23 : decode cX3_put 23 = .ok (.getfield 18, 3) := by decide +kernel
theorem dX3_put_26 : decode cX3_put 26 = .ok (.iload_n 1, 1) := by decide +kernel
theorem dX3_put_27 : decode cX3_put 27 = .ok (.iload 4, 2) := by decide +kernel
theorem dX3_put_29 : decode cX3_put 29 = .ok (.iastore, 1) := by decide +kernel
theorem dX3_put_30 : decode cX3_put 30 = .ok (.return_, 1) := by decide +kernel
set_option maxRecDepth 20000 in
theorem ggX3_nextOn_X3_hasRung : GoodIn wsX3_nextOn wsX3_hasRung := goodIn_ca (goodIn_r _ [6, 7, 8, 9, 10, 5, 11, 1, 12, 13, 14, 15, 16, 17] (by decide +kernel) (by decide +kernel)) (goodIn_sub (fun _ h => List.mem_cons_of_mem _ (List.mem_append_right _ h)) (by decide +kernel))
set_option maxRecDepth 20000 in
theorem gX3_nextOn_X3_hasRung : GoodIn wsX3_nextOn (wsV RX3 70 RX3 yX3_hasRung wsX3_hasRung) := goodIn_app (goodIn_of _ (by decide +kernel)) ggX3_nextOn_X3_hasRung
theorem dX3_nextOn_0 : decode cX3_nextOn 0 = .ok (.iload_n 2, 1) := by decide +kernel
theorem dX3_nextOn_1 : decode cX3_nextOn 1 = .ok (.iconst 1, 1) := by decide +kernel
theorem dX3_nextOn_2 : decode cX3_nextOn 2 = .ok (.iadd, 1) := by decide +kernel
theorem dX3_nextOn_3 : decode cX3_nextOn 3 = .ok (.istore_n 3, 1) := by decide +kernel
theorem dX3_nextOn_4 : decode cX3_nextOn 4 = .ok (.iload_n 3, 1) := by decide +kernel
theorem dX3_nextOn_5 : decode cX3_nextOn 5 = .ok (.aload_n 0, 1) := by decide +kernel
theorem dX3_nextOn_6 : decode cX3_nextOn 6 = .ok (.getfield 28, 3) := by decide +kernel
theorem dX3_nextOn_9 : decode cX3_nextOn 9 = .ok (.if_icmp .ge 18, 3) := by decide +kernel
theorem dX3_nextOn_12 : decode cX3_nextOn 12 = .ok (.aload_n 0, 1) := by decide +kernel
theorem dX3_nextOn_13 : decode cX3_nextOn 13 = .ok (.iload_n 3, 1) := by decide +kernel
theorem dX3_nextOn_14 : decode cX3_nextOn 14 = .ok (.iload_n 1, 1) := by decide +kernel
theorem dX3_nextOn_15 : decode cX3_nextOn 15 = .ok (.invokevirtual 70, 3) := by decide +kernel
theorem dX3_nextOn_18 : decode cX3_nextOn 18 = .ok (.ifCond .ne 9, 3) := by decide +kernel
theorem dX3_nextOn_21 : decode cX3_nextOn 21 = .ok (.iinc 3 1, 3) := by decide +kernel
theorem dX3_nextOn_24 : decode cX3_nextOn 24 = .ok (.goto (-20), 3) := by decide +kernel
theorem dX3_nextOn_27 : decode cX3_nextOn 27 = .ok (.iload_n 3, 1) := by decide +kernel
theorem dX3_nextOn_28 : decode cX3_nextOn 28 = .ok (.ireturn, 1) := by decide +kernel
set_option maxRecDepth 20000 in
theorem ggX3_previousOn_X3_hasRung : GoodIn wsX3_previousOn wsX3_hasRung := goodIn_ca (goodIn_r _ [5, 6, 7, 8, 9, 4, 10, 11, 12, 13, 14, 15, 16, 17] (by decide +kernel) (by decide +kernel)) (goodIn_sub (fun _ h => List.mem_cons_of_mem _ (List.mem_append_right _ h)) (by decide +kernel))
set_option maxRecDepth 20000 in
theorem gX3_previousOn_X3_hasRung : GoodIn wsX3_previousOn (wsV RX3 70 RX3 yX3_hasRung wsX3_hasRung) := goodIn_app (goodIn_of _ (by decide +kernel)) ggX3_previousOn_X3_hasRung
theorem dX3_previousOn_0 : decode cX3_previousOn 0 = .ok (.iload_n 2, 1) := by decide +kernel
theorem dX3_previousOn_1 : decode cX3_previousOn 1 = .ok (.iconst 1, 1) := by decide +kernel
theorem dX3_previousOn_2 : decode cX3_previousOn 2 = .ok (.isub, 1) := by decide +kernel
theorem dX3_previousOn_3 : decode cX3_previousOn 3 = .ok (.istore_n 3, 1) := by decide +kernel
theorem dX3_previousOn_4 : decode cX3_previousOn 4 = .ok (.iload_n 3, 1) := by decide +kernel
theorem dX3_previousOn_5 : decode cX3_previousOn 5 = .ok (.iconst (-1), 1) := by decide +kernel
theorem dX3_previousOn_6 : decode cX3_previousOn 6 = .ok (.if_icmp .le 18, 3) := by decide +kernel
theorem dX3_previousOn_9 : decode cX3_previousOn 9 = .ok (.aload_n 0, 1) := by decide +kernel
theorem dX3_previousOn_10 : decode cX3_previousOn 10 = .ok (.iload_n 3, 1) := by decide +kernel
theorem dX3_previousOn_11 : decode cX3_previousOn 11 = .ok (.iload_n 1, 1) := by decide +kernel
theorem dX3_previousOn_12 : decode cX3_previousOn 12 = .ok (.invokevirtual 70, 3) := by decide +kernel
theorem dX3_previousOn_15 : decode cX3_previousOn 15 = .ok (.ifCond .ne 9, 3) := by decide +kernel
theorem dX3_previousOn_18 : decode cX3_previousOn 18 = .ok (.iinc 3 (-1), 3) := by decide +kernel
theorem dX3_previousOn_21 : decode cX3_previousOn 21 = .ok (.goto (-17), 3) := by decide +kernel
theorem dX3_previousOn_24 : decode cX3_previousOn 24 = .ok (.iload_n 3, 1) := by decide +kernel
theorem dX3_previousOn_25 : decode cX3_previousOn 25 = .ok (.ireturn, 1) := by decide +kernel
set_option maxRecDepth 20000 in
theorem ggX3_spanFrom_X3_nextOn : GoodIn wsX3_spanFrom wsX3_nextOn := goodIn_ca (goodIn_r _ [5, 6, 7, 8, 9, 4, 10, 11, 12, 13, 14, 15, 16, 17, 18, 19, 20, 21] (by decide +kernel) (by decide +kernel)) (goodIn_sub (fun _ h => List.mem_cons_of_mem _ (List.mem_append_right _ h)) (by decide +kernel))
set_option maxRecDepth 20000 in
theorem gX3_spanFrom_X3_nextOn : GoodIn wsX3_spanFrom (wsV RX3 74 RX3 yX3_nextOn wsX3_nextOn) := goodIn_app (goodIn_of _ (by decide +kernel)) ggX3_spanFrom_X3_nextOn
theorem dX3_spanFrom_0 : decode cX3_spanFrom 0 = .ok (.aload_n 0, 1) := by decide +kernel
theorem dX3_spanFrom_1 : decode cX3_spanFrom 1 = .ok (.iload_n 2, 1) := by decide +kernel
theorem dX3_spanFrom_2 : decode cX3_spanFrom 2 = .ok (.iload_n 1, 1) := by decide +kernel
theorem dX3_spanFrom_3 : decode cX3_spanFrom 3 = .ok (.invokevirtual 74, 3) := by decide +kernel
theorem dX3_spanFrom_6 : decode cX3_spanFrom 6 = .ok (.iload_n 1, 1) := by decide +kernel
theorem dX3_spanFrom_7 : decode cX3_spanFrom 7 = .ok (.isub, 1) := by decide +kernel
theorem dX3_spanFrom_8 : decode cX3_spanFrom 8 = .ok (.ireturn, 1) := by decide +kernel
set_option maxRecDepth 20000 in
theorem ggX3_foldersOn_X3_hasRung : GoodIn wsX3_foldersOn wsX3_hasRung := goodIn_ca (goodIn_r _ [6, 7, 8, 9, 10, 5, 11, 1, 12, 13, 14, 15, 16, 17] (by decide +kernel) (by decide +kernel)) (goodIn_sub (fun _ h => List.mem_cons_of_mem _ (List.mem_append_right _ h)) (by decide +kernel))
set_option maxRecDepth 20000 in
theorem gX3_foldersOn_X3_hasRung : GoodIn wsX3_foldersOn (wsV RX3 70 RX3 yX3_hasRung wsX3_hasRung) := goodIn_app (goodIn_of _ (by decide +kernel)) ggX3_foldersOn_X3_hasRung
theorem dX3_foldersOn_0 : decode cX3_foldersOn 0 = .ok (.iconst 0, 1) := by decide +kernel
theorem dX3_foldersOn_1 : decode cX3_foldersOn 1 = .ok (.istore_n 2, 1) := by decide +kernel
theorem dX3_foldersOn_2 : decode cX3_foldersOn 2 = .ok (.iconst 0, 1) := by decide +kernel
theorem dX3_foldersOn_3 : decode cX3_foldersOn 3 = .ok (.istore_n 3, 1) := by decide +kernel
theorem dX3_foldersOn_4 : decode cX3_foldersOn 4 = .ok (.iload_n 3, 1) := by decide +kernel
theorem dX3_foldersOn_5 : decode cX3_foldersOn 5 = .ok (.aload_n 0, 1) := by decide +kernel
theorem dX3_foldersOn_6 : decode cX3_foldersOn 6 = .ok (.getfield 28, 3) := by decide +kernel
theorem dX3_foldersOn_9 : decode cX3_foldersOn 9 = .ok (.if_icmp .ge 21, 3) := by decide +kernel
theorem dX3_foldersOn_12 : decode cX3_foldersOn 12 = .ok (.aload_n 0, 1) := by decide +kernel
theorem dX3_foldersOn_13 : decode cX3_foldersOn 13 = .ok (.iload_n 3, 1) := by decide +kernel
theorem dX3_foldersOn_14 : decode cX3_foldersOn 14 = .ok (.iload_n 1, 1) := by decide +kernel
theorem dX3_foldersOn_15 : decode cX3_foldersOn 15 = .ok (.invokevirtual 70, 3) := by decide +kernel
theorem dX3_foldersOn_18 : decode cX3_foldersOn 18 = .ok (.ifCond .eq 6, 3) := by decide +kernel
theorem dX3_foldersOn_21 : decode cX3_foldersOn 21 = .ok (.iinc 2 1, 3) := by decide +kernel
theorem dX3_foldersOn_24 : decode cX3_foldersOn 24 = .ok (.iinc 3 1, 3) := by decide +kernel
theorem dX3_foldersOn_27 : decode cX3_foldersOn 27 = .ok (.goto (-23), 3) := by decide +kernel
theorem dX3_foldersOn_30 : decode cX3_foldersOn 30 = .ok (.iload_n 2, 1) := by decide +kernel
theorem dX3_foldersOn_31 : decode cX3_foldersOn 31 = .ok (.ireturn, 1) := by decide +kernel
set_option maxRecDepth 20000 in
theorem ggX3_highestLevel_X3_rungsOf : GoodIn wsX3_highestLevel wsX3_rungsOf := goodIn_ca (goodIn_r _ [10, 11, 12, 13, 14, 9, 15, 1, 16, 17, 18, 19, 20, 21] (by decide +kernel) (by decide +kernel)) (goodIn_sub (fun _ h => List.mem_cons_of_mem _ (List.mem_append_right _ h)) (by decide +kernel))
set_option maxRecDepth 20000 in
theorem gX3_highestLevel_X3_rungsOf : GoodIn wsX3_highestLevel (wsV RX3 63 RX3 yX3_rungsOf wsX3_rungsOf) := goodIn_app (goodIn_of _ (by decide +kernel)) ggX3_highestLevel_X3_rungsOf
theorem dX3_highestLevel_0 : decode cX3_highestLevel 0 = .ok (.iconst 0, 1) := by decide +kernel
theorem dX3_highestLevel_1 : decode cX3_highestLevel 1 = .ok (.istore_n 1, 1) := by decide +kernel
theorem dX3_highestLevel_2 : decode cX3_highestLevel 2 = .ok (.iconst 0, 1) := by decide +kernel
theorem dX3_highestLevel_3 : decode cX3_highestLevel 3 = .ok (.istore_n 2, 1) := by decide +kernel
theorem dX3_highestLevel_4 : decode cX3_highestLevel 4 = .ok (.iload_n 2, 1) := by decide +kernel
theorem dX3_highestLevel_5 : decode cX3_highestLevel 5 = .ok (.aload_n 0, 1) := by decide +kernel
theorem dX3_highestLevel_6 : decode cX3_highestLevel 6 = .ok (.getfield 28, 3) := by decide +kernel
theorem dX3_highestLevel_9 : decode cX3_highestLevel 9 = .ok (.if_icmp .ge 19, 3) := by decide +kernel
theorem dX3_highestLevel_12 : decode cX3_highestLevel 12 = .ok (.iload_n 1, 1) := by decide +kernel
theorem dX3_highestLevel_13 : decode cX3_highestLevel 13 = .ok (.aload_n 0, 1) := by decide +kernel
theorem dX3_highestLevel_14 : decode cX3_highestLevel 14 = .ok (.iload_n 2, 1) := by decide +kernel
theorem dX3_highestLevel_15 : decode cX3_highestLevel 15 = .ok (.invokevirtual 63, 3) := by decide +kernel
theorem dX3_highestLevel_18 : decode cX3_highestLevel 18 = .ok (.invokestatic 78, 3) := by decide +kernel
theorem dX3_highestLevel_21 : decode cX3_highestLevel 21 = .ok (.istore_n 1, 1) := by decide +kernel
theorem dX3_highestLevel_22 : decode cX3_highestLevel 22 = .ok (.iinc 2 1, 3) := by decide +kernel
theorem dX3_highestLevel_25 : decode cX3_highestLevel 25 = .ok (.goto (-21), 3) := by decide +kernel
theorem dX3_highestLevel_28 : decode cX3_highestLevel 28 = .ok (.iload_n 1, 1) := by decide +kernel
theorem dX3_highestLevel_29 : decode cX3_highestLevel 29 = .ok (.iconst 1, 1) := by decide +kernel
theorem dX3_highestLevel_30 : decode cX3_highestLevel 30 = .ok (.isub, 1) := by decide +kernel
theorem dX3_highestLevel_31 : decode cX3_highestLevel 31 = .ok (.ireturn, 1) := by decide +kernel
set_option maxRecDepth 20000 in
theorem ggX3_allRungs_X3_rungsOf : GoodIn wsX3_allRungs wsX3_rungsOf := goodIn_ca (goodIn_r _ [6, 7, 8, 9, 10, 5, 11, 1, 12, 13, 14, 15, 16, 17] (by decide +kernel) (by decide +kernel)) (goodIn_sub (fun _ h => List.mem_cons_of_mem _ (List.mem_append_right _ h)) (by decide +kernel))
set_option maxRecDepth 20000 in
theorem gX3_allRungs_X3_rungsOf : GoodIn wsX3_allRungs (wsV RX3 63 RX3 yX3_rungsOf wsX3_rungsOf) := goodIn_app (goodIn_of _ (by decide +kernel)) ggX3_allRungs_X3_rungsOf
theorem dX3_allRungs_0 : decode cX3_allRungs 0 = .ok (.iconst 0, 1) := by decide +kernel
theorem dX3_allRungs_1 : decode cX3_allRungs 1 = .ok (.istore_n 1, 1) := by decide +kernel
theorem dX3_allRungs_2 : decode cX3_allRungs 2 = .ok (.iconst 0, 1) := by decide +kernel
theorem dX3_allRungs_3 : decode cX3_allRungs 3 = .ok (.istore_n 2, 1) := by decide +kernel
theorem dX3_allRungs_4 : decode cX3_allRungs 4 = .ok (.iload_n 2, 1) := by decide +kernel
theorem dX3_allRungs_5 : decode cX3_allRungs 5 = .ok (.aload_n 0, 1) := by decide +kernel
theorem dX3_allRungs_6 : decode cX3_allRungs 6 = .ok (.getfield 28, 3) := by decide +kernel
theorem dX3_allRungs_9 : decode cX3_allRungs 9 = .ok (.if_icmp .ge 17, 3) := by decide +kernel
theorem dX3_allRungs_12 : decode cX3_allRungs 12 = .ok (.iload_n 1, 1) := by decide +kernel
theorem dX3_allRungs_13 : decode cX3_allRungs 13 = .ok (.aload_n 0, 1) := by decide +kernel
theorem dX3_allRungs_14 : decode cX3_allRungs 14 = .ok (.iload_n 2, 1) := by decide +kernel
theorem dX3_allRungs_15 : decode cX3_allRungs 15 = .ok (.invokevirtual 63, 3) := by decide +kernel
theorem dX3_allRungs_18 : decode cX3_allRungs 18 = .ok (.iadd, 1) := by decide +kernel
theorem dX3_allRungs_19 : decode cX3_allRungs 19 = .ok (.istore_n 1, 1) := by decide +kernel
theorem dX3_allRungs_20 : decode cX3_allRungs 20 = .ok (.iinc 2 1, 3) := by decide +kernel
theorem dX3_allRungs_23 : decode cX3_allRungs 23 = .ok (.goto (-19), 3) := by decide +kernel
theorem dX3_allRungs_26 : decode cX3_allRungs 26 = .ok (.iload_n 1, 1) := by decide +kernel
theorem dX3_allRungs_27 : decode cX3_allRungs 27 = .ok (.ireturn, 1) := by decide +kernel
set_option maxRecDepth 20000 in
theorem ggX3_allWeights_X3_weightOf : GoodIn wsX3_allWeights wsX3_weightOf := goodIn_ca (goodIn_r _ [6, 7, 8, 9, 10, 5, 11, 1, 12, 13, 14, 15, 16, 17] (by decide +kernel) (by decide +kernel)) (goodIn_sub (fun _ h => List.mem_cons_of_mem _ (List.mem_append_right _ h)) (by decide +kernel))
set_option maxRecDepth 20000 in
theorem gX3_allWeights_X3_weightOf : GoodIn wsX3_allWeights (wsV RX3 60 RX3 yX3_weightOf wsX3_weightOf) := goodIn_app (goodIn_of _ (by decide +kernel)) ggX3_allWeights_X3_weightOf
theorem dX3_allWeights_0 : decode cX3_allWeights 0 = .ok (.iconst 0, 1) := by decide +kernel
theorem dX3_allWeights_1 : decode cX3_allWeights 1 = .ok (.istore_n 1, 1) := by decide +kernel
theorem dX3_allWeights_2 : decode cX3_allWeights 2 = .ok (.iconst 0, 1) := by decide +kernel
theorem dX3_allWeights_3 : decode cX3_allWeights 3 = .ok (.istore_n 2, 1) := by decide +kernel
theorem dX3_allWeights_4 : decode cX3_allWeights 4 = .ok (.iload_n 2, 1) := by decide +kernel
theorem dX3_allWeights_5 : decode cX3_allWeights 5 = .ok (.aload_n 0, 1) := by decide +kernel
theorem dX3_allWeights_6 : decode cX3_allWeights 6 = .ok (.getfield 28, 3) := by decide +kernel
theorem dX3_allWeights_9 : decode cX3_allWeights 9 = .ok (.if_icmp .ge 17, 3) := by decide +kernel
theorem dX3_allWeights_12 : decode cX3_allWeights 12 = .ok (.iload_n 1, 1) := by decide +kernel
theorem dX3_allWeights_13 : decode cX3_allWeights 13 = .ok (.aload_n 0, 1) := by decide +kernel
theorem dX3_allWeights_14 : decode cX3_allWeights 14 = .ok (.iload_n 2, 1) := by decide +kernel
theorem dX3_allWeights_15 : decode cX3_allWeights 15 = .ok (.invokevirtual 60, 3) := by decide +kernel
theorem dX3_allWeights_18 : decode cX3_allWeights 18 = .ok (.iadd, 1) := by decide +kernel
theorem dX3_allWeights_19 : decode cX3_allWeights 19 = .ok (.istore_n 1, 1) := by decide +kernel
theorem dX3_allWeights_20 : decode cX3_allWeights 20 = .ok (.iinc 2 1, 3) := by decide +kernel
theorem dX3_allWeights_23 : decode cX3_allWeights 23 = .ok (.goto (-19), 3) := by decide +kernel
theorem dX3_allWeights_26 : decode cX3_allWeights 26 = .ok (.iload_n 1, 1) := by decide +kernel
theorem dX3_allWeights_27 : decode cX3_allWeights 27 = .ok (.ireturn, 1) := by decide +kernel
theorem dX3_isHidden_0 : decode cX3_isHidden 0 = .ok (.aload_n 0, 1) := by decide +kernel
theorem dX3_isHidden_1 : decode cX3_isHidden 1 = .ok (.getfield 32, 3) := by decide +kernel
theorem dX3_isHidden_4 : decode cX3_isHidden 4 = .ok (.iload_n 1, 1) := by decide +kernel
theorem dX3_isHidden_5 : decode cX3_isHidden 5 = .ok (.ishr, 1) := by decide +kernel
theorem dX3_isHidden_6 : decode cX3_isHidden 6 = .ok (.iconst 1, 1) := by decide +kernel
theorem dX3_isHidden_7 : decode cX3_isHidden 7 = .ok (.iand, 1) := by decide +kernel
theorem dX3_isHidden_8 : decode cX3_isHidden 8 = .ok (.iconst 1, 1) := by decide +kernel
theorem dX3_isHidden_9 : decode cX3_isHidden 9 = .ok (.if_icmp .ne 7, 3) := by decide +kernel
theorem dX3_isHidden_12 : decode cX3_isHidden 12 = .ok (.iconst 1, 1) := by decide +kernel
theorem dX3_isHidden_13 : decode cX3_isHidden 13 = .ok (.goto 4, 3) := by decide +kernel
theorem dX3_isHidden_16 : decode cX3_isHidden 16 = .ok (.iconst 0, 1) := by decide +kernel
theorem dX3_isHidden_17 : decode cX3_isHidden 17 = .ok (.ireturn, 1) := by decide +kernel
theorem dX3_hide_0 : decode cX3_hide 0 = .ok (.aload_n 0, 1) := by decide +kernel
theorem dX3_hide_1 : decode cX3_hide 1 = .ok (.dup, 1) := by decide +kernel
theorem dX3_hide_2 : decode cX3_hide 2 = .ok (.getfield 32, 3) := by decide +kernel
theorem dX3_hide_5 : decode cX3_hide 5 = .ok (.iconst 1, 1) := by decide +kernel
theorem dX3_hide_6 : decode cX3_hide 6 = .ok (.iload_n 1, 1) := by decide +kernel
theorem dX3_hide_7 : decode cX3_hide 7 = .ok (.ishl, 1) := by decide +kernel
theorem dX3_hide_8 : decode cX3_hide 8 = .ok (.ior, 1) := by decide +kernel
theorem dX3_hide_9 : decode cX3_hide 9 = .ok (.putfield 32, 3) := by decide +kernel
theorem dX3_hide_12 : decode cX3_hide 12 = .ok (.return_, 1) := by decide +kernel
theorem dX3_show_0 : decode cX3_show 0 = .ok (.aload_n 0, 1) := by decide +kernel
theorem dX3_show_1 : decode cX3_show 1 = .ok (.dup, 1) := by decide +kernel
theorem dX3_show_2 : decode cX3_show 2 = .ok (.getfield 32, 3) := by decide +kernel
theorem dX3_show_5 : decode cX3_show 5 = .ok (.iconst 1, 1) := by decide +kernel
theorem dX3_show_6 : decode cX3_show 6 = .ok (.iload_n 1, 1) := by decide +kernel
theorem dX3_show_7 : decode cX3_show 7 = .ok (.ishl, 1) := by decide +kernel
theorem dX3_show_8 : decode cX3_show 8 = .ok (.iconst (-1), 1) := by decide +kernel
theorem dX3_show_9 : decode cX3_show 9 = .ok (.ixor, 1) := by decide +kernel
theorem dX3_show_10 : decode cX3_show 10 = .ok (.iand, 1) := by decide +kernel
theorem dX3_show_11 : decode cX3_show 11 = .ok (.putfield 32, 3) := by decide +kernel
theorem dX3_show_14 : decode cX3_show 14 = .ok (.return_, 1) := by decide +kernel
set_option maxRecDepth 20000 in
theorem ggX3_hiddenLevels_J6_bitCount_0f7a4 : GoodIn wsX3_hiddenLevels wsJ6_bitCount_0f7a4 := goodIn_r _ [5, 6, 7, 8] (by decide +kernel) (by decide +kernel)
set_option maxRecDepth 20000 in
theorem gX3_hiddenLevels_J6_bitCount_0f7a4 : GoodIn wsX3_hiddenLevels (va_wsS RX3 83 yJ6_bitCount_0f7a4 wsJ6_bitCount_0f7a4) := goodIn_app (goodIn_of _ (by decide +kernel)) ggX3_hiddenLevels_J6_bitCount_0f7a4
theorem dX3_hiddenLevels_0 : decode cX3_hiddenLevels 0 = .ok (.aload_n 0, 1) := by decide +kernel
theorem dX3_hiddenLevels_1 : decode cX3_hiddenLevels 1 = .ok (.getfield 32, 3) := by decide +kernel
theorem dX3_hiddenLevels_4 : decode cX3_hiddenLevels 4 = .ok (.invokestatic 83, 3) := by decide +kernel
theorem dX3_hiddenLevels_7 : decode cX3_hiddenLevels 7 = .ok (.ireturn, 1) := by decide +kernel
set_option maxRecDepth 20000 in
theorem ggX3_beginning_X3_highestLevel : GoodIn wsX3_beginning wsX3_highestLevel := goodIn_ca (goodIn_r _ [5, 6, 7, 8, 9, 10, 11, 12, 13, 4, 14, 15, 16, 17, 18, 19, 29, 30, 31, 32, 33, 34] (by decide +kernel) (by decide +kernel)) (goodIn_sub (fun _ h => List.mem_cons_of_mem _ (List.mem_append_right _ h)) (by decide +kernel))
set_option maxRecDepth 20000 in
theorem gX3_beginning_X3_highestLevel : GoodIn wsX3_beginning (wsV RX3 88 RX3 yX3_highestLevel wsX3_highestLevel) := goodIn_app (goodIn_of _ (by decide +kernel)) ggX3_beginning_X3_highestLevel
set_option maxRecDepth 20000 in
theorem ggX3_beginning_X3_usedUpTo : GoodIn wsX3_beginning wsX3_usedUpTo := goodIn_r _ [23, 7, 8, 9, 10, 24, 25, 26, 4, 27, 28, 29, 30, 31, 32, 33, 34] (by decide +kernel) (by decide +kernel)
set_option maxRecDepth 20000 in
theorem gX3_beginning_X3_usedUpTo : GoodIn wsX3_beginning (wsV RX3 92 RX3 yX3_usedUpTo wsX3_usedUpTo) := goodIn_app (goodIn_of _ (by decide +kernel)) ggX3_beginning_X3_usedUpTo
theorem dX3_beginning_0 : decode cX3_beginning 0 = .ok (.aload_n 0, 1) := by decide +kernel
theorem dX3_beginning_1 : decode cX3_beginning 1 = .ok (.aload_n 0, 1) := by decide +kernel
theorem dX3_beginning_2 : decode cX3_beginning 2 = .ok (.invokevirtual 88, 3) := by decide +kernel
theorem dX3_beginning_5 : decode cX3_beginning 5 = .ok (.invokevirtual 92, 3) := by decide +kernel
theorem dX3_beginning_8 : decode cX3_beginning 8 = .ok (.ireturn, 1) := by decide +kernel
set_option maxRecDepth 20000 in
theorem ggX3_usedUpTo_X3_isHidden : GoodIn wsX3_usedUpTo wsX3_isHidden := goodIn_r _ [9, 10, 11, 12, 13, 14, 15, 16] (by decide +kernel) (by decide +kernel)
set_option maxRecDepth 20000 in
theorem gX3_usedUpTo_X3_isHidden : GoodIn wsX3_usedUpTo (wsV RX3 95 RX3 yX3_isHidden wsX3_isHidden) := goodIn_app (goodIn_of _ (by decide +kernel)) ggX3_usedUpTo_X3_isHidden
theorem dX3_usedUpTo_0 : decode cX3_usedUpTo 0 = .ok (.iload_n 1, 1) := by decide +kernel
theorem dX3_usedUpTo_1 : decode cX3_usedUpTo 1 = .ok (.istore_n 2, 1) := by decide +kernel
theorem dX3_usedUpTo_2 : decode cX3_usedUpTo 2 = .ok (.iload_n 2, 1) := by decide +kernel
theorem dX3_usedUpTo_3 : decode cX3_usedUpTo 3 = .ok (.ifCond .le 17, 3) := by decide +kernel
theorem dX3_usedUpTo_6 : decode cX3_usedUpTo 6 = .ok (.aload_n 0, 1) := by decide +kernel
theorem dX3_usedUpTo_7 : decode cX3_usedUpTo 7 = .ok (.iload_n 2, 1) := by decide +kernel
theorem dX3_usedUpTo_8 : decode cX3_usedUpTo 8 = .ok (.invokevirtual 95, 3) := by decide +kernel
theorem dX3_usedUpTo_11 : decode cX3_usedUpTo 11 = .ok (.ifCond .eq 9, 3) := by decide +kernel
theorem dX3_usedUpTo_14 : decode cX3_usedUpTo 14 = .ok (.iinc 2 (-1), 3) := by decide +kernel
theorem dX3_usedUpTo_17 : decode cX3_usedUpTo 17 = .ok (.goto (-15), 3) := by decide +kernel
theorem dX3_usedUpTo_20 : decode cX3_usedUpTo 20 = .ok (.iload_n 2, 1) := by decide +kernel
theorem dX3_usedUpTo_21 : decode cX3_usedUpTo 21 = .ok (.iconst 0, 1) := by decide +kernel
theorem dX3_usedUpTo_22 : decode cX3_usedUpTo 22 = .ok (.invokestatic 78, 3) := by decide +kernel
theorem dX3_usedUpTo_25 : decode cX3_usedUpTo 25 = .ok (.ireturn, 1) := by decide +kernel
set_option maxRecDepth 20000 in
theorem ggX3_usedAbove_X3_isHidden : GoodIn wsX3_usedAbove wsX3_isHidden := goodIn_r _ [5, 6, 7, 8, 9, 10, 11, 12] (by decide +kernel) (by decide +kernel)
set_option maxRecDepth 20000 in
theorem gX3_usedAbove_X3_isHidden : GoodIn wsX3_usedAbove (wsV RX3 95 RX3 yX3_isHidden wsX3_isHidden) := goodIn_app (goodIn_of _ (by decide +kernel)) ggX3_usedAbove_X3_isHidden
theorem dX3_usedAbove_0 : decode cX3_usedAbove 0 = .ok (.iload_n 1, 1) := by decide +kernel
theorem dX3_usedAbove_1 : decode cX3_usedAbove 1 = .ok (.iconst 1, 1) := by decide +kernel
theorem dX3_usedAbove_2 : decode cX3_usedAbove 2 = .ok (.iadd, 1) := by decide +kernel
theorem dX3_usedAbove_3 : decode cX3_usedAbove 3 = .ok (.istore_n 2, 1) := by decide +kernel
theorem dX3_usedAbove_4 : decode cX3_usedAbove 4 = .ok (.iload_n 2, 1) := by decide +kernel
theorem dX3_usedAbove_5 : decode cX3_usedAbove 5 = .ok (.iconst 5, 1) := by decide +kernel
theorem dX3_usedAbove_6 : decode cX3_usedAbove 6 = .ok (.if_icmp .ge 17, 3) := by decide +kernel
theorem dX3_usedAbove_9 : decode cX3_usedAbove 9 = .ok (.aload_n 0, 1) := by decide +kernel
theorem dX3_usedAbove_10 : decode cX3_usedAbove 10 = .ok (.iload_n 2, 1) := by decide +kernel
theorem dX3_usedAbove_11 : decode cX3_usedAbove 11 = .ok (.invokevirtual 95, 3) := by decide +kernel
theorem dX3_usedAbove_14 : decode cX3_usedAbove 14 = .ok (.ifCond .eq 9, 3) := by decide +kernel
theorem dX3_usedAbove_17 : decode cX3_usedAbove 17 = .ok (.iinc 2 1, 3) := by decide +kernel
theorem dX3_usedAbove_20 : decode cX3_usedAbove 20 = .ok (.goto (-16), 3) := by decide +kernel
theorem dX3_usedAbove_23 : decode cX3_usedAbove 23 = .ok (.iload_n 2, 1) := by decide +kernel
theorem dX3_usedAbove_24 : decode cX3_usedAbove 24 = .ok (.ireturn, 1) := by decide +kernel
