theorem dX8_init_0 : decode cX8_init 0 = .ok (.aload_n 0, 1) := by decide +kernel
theorem dX8_init_1 : decode cX8_init 1 = .ok (.invokespecial 3, 3) := by decide +kernel
theorem dX8_init_4 : decode cX8_init 4 = .ok (.aload_n 0, 1) := by decide +kernel
theorem dX8_init_5 : decode cX8_init 5 = .ok (.bipush 77, 2) := by decide +kernel
theorem dX8_init_7 : decode cX8_init 7 = .ok (.newarray .int, 2) := by decide +kernel
theorem dX8_init_9 : decode cX8_init 9 = .ok (.putfield 9, 3) := by decide +kernel
theorem dX8_init_12 : decode cX8_init 12 = .ok (.aload_n 0, 1) := by decide +kernel
theorem dX8_init_13 : decode cX8_init 13 = .ok (.bipush 77, 2) := by decide +kernel
theorem dX8_init_15 : decode cX8_init 15 = .ok (.newarray .int, 2) := by decide +kernel
theorem dX8_init_17 : decode cX8_init 17 = .ok (.putfield 13, 3) := by decide +kernel
theorem dX8_init_20 : decode cX8_init 20 = .ok (.aload_n 0, 1) := by decide +kernel
theorem dX8_init_21 : decode cX8_init 21 = .ok (.sipush 616, 3) := by decide +kernel
theorem dX8_init_24 : decode cX8_init 24 = .ok (.newarray .int, 2) := by decide +kernel
theorem dX8_init_26 : decode cX8_init 26 = .ok (.putfield 16, 3) := by decide +kernel
theorem dX8_init_29 : decode cX8_init 29 = .ok (.aload_n 0, 1) := by decide +kernel
theorem dX8_init_30 : decode cX8_init 30 = .ok (.bipush 77, 2) := by decide +kernel
theorem dX8_init_32 : decode cX8_init 32 = .ok (.newarray .int, 2) := by decide +kernel
theorem dX8_init_34 : decode cX8_init 34 = .ok (.putfield 19, 3) := by decide +kernel
theorem dX8_init_37 : decode cX8_init 37 = .ok (.aload_n 0, 1) := by decide +kernel
theorem dX8_init_38 : decode cX8_init 38 = .ok (.bipush 120, 2) := by decide +kernel
theorem dX8_init_40 : decode cX8_init 40 = .ok (.newarray .char, 2) := by decide +kernel
theorem dX8_init_42 : decode cX8_init 42 = .ok (.putfield 22, 3) := by decide +kernel
theorem dX8_init_45 : decode cX8_init 45 = .ok (.aload_n 0, 1) := by decide +kernel
theorem dX8_init_46 : decode cX8_init 46 = .ok (.bipush 60, 2) := by decide +kernel
theorem dX8_init_48 : decode cX8_init 48 = .ok (.newarray .char, 2) := by decide +kernel
theorem dX8_init_50 : decode cX8_init 50 = .ok (.putfield 26, 3) := by decide +kernel
theorem dX8_init_53 : decode cX8_init 53 = .ok (.aload_n 0, 1) := by decide +kernel
theorem dX8_init_54 : decode cX8_init 54 = .ok (.iconst 3, 1) := by decide +kernel
theorem dX8_init_55 : decode cX8_init 55 = .ok (.newarray .int, 2) := by decide +kernel
theorem dX8_init_57 : decode cX8_init 57 = .ok (.putfield 29, 3) := by decide +kernel
theorem dX8_init_60 : decode cX8_init 60 = .ok (.aload_n 0, 1) := by decide +kernel
theorem dX8_init_61 : decode cX8_init 61 = .ok (.iconst (-1), 1) := by decide +kernel
theorem dX8_init_62 : decode cX8_init 62 = .ok (.putfield 32, 3) := by decide +kernel
theorem dX8_init_65 : decode cX8_init 65 = .ok (.aload_n 0, 1) := by decide +kernel
theorem dX8_init_66 : decode cX8_init 66 = .ok (.bipush 24, 2) := by decide +kernel
theorem dX8_init_68 : decode cX8_init 68 = .ok (.newarray .int, 2) := by decide +kernel
theorem dX8_init_70 : decode cX8_init 70 = .ok (.putfield 36, 3) := by decide +kernel
theorem dX8_init_73 : decode cX8_init 73 = .ok (.aload_n 0, 1) := by decide +kernel
theorem dX8_init_74 : decode cX8_init 74 = .ok (.getfield 9, 3) := by decide +kernel
theorem dX8_init_77 : decode cX8_init 77 = .ok (.iconst 1, 1) := by decide +kernel
theorem dX8_init_78 : decode cX8_init 78 = .ok (.iconst 1, 1) := by decide +kernel
theorem dX8_init_79 : decode cX8_init 79 = .ok (.iastore, 1) := by decide +kernel
theorem dX8_init_80 : decode cX8_init 80 = .ok (.return_, 1) := by decide +kernel
theorem dX8_thrown_0 : decode cX8_thrown 0 = .ok (.aload_n 0, 1) := by decide +kernel
theorem dX8_thrown_1 : decode cX8_thrown 1 = .ok (.getfield 39, 3) := by decide +kernel
theorem dX8_thrown_4 : decode cX8_thrown 4 = .ok (.ireturn, 1) := by decide +kernel
theorem dX8_raises_0 : decode cX8_raises 0 = .ok (.aload_n 0, 1) := by decide +kernel
theorem dX8_raises_1 : decode cX8_raises 1 = .ok (.iload_n 1, 1) := by decide +kernel
theorem dX8_raises_2 : decode cX8_raises 2 = .ok (.putfield 39, 3) := by decide +kernel
theorem dX8_raises_5 : decode cX8_raises 5 = .ok (.iconst 0, 1) := by decide +kernel
theorem dX8_raises_6 : decode cX8_raises 6 = .ok (.ireturn, 1) := by decide +kernel
theorem dX8_in_0 : decode cX8_in 0 = .ok (.iload_n 0, 1) := by decide +kernel
theorem dX8_in_1 : decode cX8_in 1 = .ok (.iload_n 1, 1) := by decide +kernel
theorem dX8_in_2 : decode cX8_in 2 = .ok (.if_icmp .lt 12, 3) := by decide +kernel
theorem dX8_in_5 : decode cX8_in 5 = .ok (.iload_n 0, 1) := by decide +kernel
theorem dX8_in_6 : decode cX8_in 6 = .ok (.iload_n 2, 1) := by decide +kernel
theorem dX8_in_7 : decode cX8_in 7 = .ok (.if_icmp .gt 7, 3) := by decide +kernel
theorem dX8_in_10 : decode cX8_in 10 = .ok (.iconst 1, 1) := by decide +kernel
theorem dX8_in_11 : decode cX8_in 11 = .ok (.goto 4, 3) := by decide +kernel
theorem dX8_in_14 : decode cX8_in 14 = .ok (.iconst 0, 1) := by decide +kernel
theorem dX8_in_15 : decode cX8_in 15 = .ok (.ireturn, 1) := by decide +kernel
theorem dX8_tries_0 : decode cX8_tries 0 = .ok (.aload_n 0, 1) := by decide +kernel
theorem dX8_tries_1 : decode cX8_tries 1 = .ok (.iconst 0, 1) := by decide +kernel
theorem dX8_tries_2 : decode cX8_tries 2 = .ok (.putfield 39, 3) := by decide +kernel
theorem dX8_tries_5 : decode cX8_tries 5 = .ok (.iconst 0, 1) := by decide +kernel
theorem dX8_tries_6 : decode cX8_tries 6 = .ok (.istore_n 1, 1) := by decide +kernel
theorem dX8_tries_7 : decode cX8_tries 7 = .ok (.iload_n 1, 1) := by decide +kernel
theorem dX8_tries_8 : decode cX8_tries 8 = .ok (.bipush 77, 2) := by decide +kernel
theorem dX8_tries_10 : decode cX8_tries 10 = .ok (.if_icmp .ge 21, 3) := by decide +kernel
theorem dX8_tries_13 : decode cX8_tries 13 = .ok (.aload_n 0, 1) := by decide +kernel
theorem dX8_tries_14 : decode cX8_tries 14 = .ok (.getfield 13, 3) := by decide +kernel
theorem dX8_tries_17 : decode cX8_tries 17 = .ok (.iload_n 1, 1) := by decide +kernel
theorem dX8_tries_18 : decode cX8_tries 18 = .ok (.aload_n 0, 1) := by decide +kernel
theorem dX8_tries_19 : decode cX8_tries 19 = .ok (.getfield 9, 3) := by decide +kernel
theorem dX8_tries_22 : decode cX8_tries 22 = .ok (.iload_n 1, 1) := by decide +kernel
theorem dX8_tries_23 : decode cX8_tries 23 = .ok (.iaload, 1) := by decide +kernel
theorem dX8_tries_24 : decode cX8_tries 24 = .ok (.iastore, 1) := by decide +kernel
theorem dX8_tries_25 : decode cX8_tries 25 = .ok (.iinc 1 1, 3) := by decide +kernel
theorem dX8_tries_28 : decode cX8_tries 28 = .ok (.goto (-21), 3) := by decide +kernel
theorem dX8_tries_31 : decode cX8_tries 31 = .ok (.return_, 1) := by decide +kernel
theorem dX8_comesBack_0 : decode cX8_comesBack 0 = .ok (.iconst 0, 1) := by decide +kernel
theorem dX8_comesBack_1 : decode cX8_comesBack 1 = .ok (.istore_n 1, 1) := by decide +kernel
theorem dX8_comesBack_2 : decode cX8_comesBack 2 = .ok (.iload_n 1, 1) := by decide +kernel
theorem dX8_comesBack_3 : decode cX8_comesBack 3 = .ok (.bipush 77, 2) := by decide +kernel
theorem dX8_comesBack_5 : decode cX8_comesBack 5 = .ok (.if_icmp .ge 21, 3) := by decide +kernel
theorem dX8_comesBack_8 : decode cX8_comesBack 8 = .ok (.aload_n 0, 1) := by decide +kernel
theorem dX8_comesBack_9 : decode cX8_comesBack 9 = .ok (.getfield 9, 3) := by decide +kernel
theorem dX8_comesBack_12 : decode cX8_comesBack 12 = .ok (.iload_n 1, 1) := by decide +kernel
theorem dX8_comesBack_13 : decode cX8_comesBack 13 = .ok (.aload_n 0, 1) := by decide +kernel
theorem dX8_comesBack_14 : decode cX8_comesBack 14 = .ok (.getfield 13, 3) := by decide +kernel
theorem dX8_comesBack_17 : decode cX8_comesBack 17 = .ok (.iload_n 1, 1) := by decide +kernel
theorem dX8_comesBack_18 : decode cX8_comesBack 18 = .ok (.iaload, 1) := by decide +kernel
theorem dX8_comesBack_19 : decode cX8_comesBack 19 = .ok (.iastore, 1) := by decide +kernel
theorem dX8_comesBack_20 : decode cX8_comesBack 20 = .ok (.iinc 1 1, 3) := by decide +kernel
theorem dX8_comesBack_23 : decode cX8_comesBack 23 = .ok (.goto (-21), 3) := by decide +kernel
theorem dX8_comesBack_26 : decode cX8_comesBack 26 = .ok (.return_, 1) := by decide +kernel
theorem dX8_keeps_0 : decode cX8_keeps 0 = .ok (.aload_n 0, 1) := by decide +kernel
theorem dX8_keeps_1 : decode cX8_keeps 1 = .ok (.getfield 42, 3) := by decide +kernel
theorem dX8_keeps_4 : decode cX8_keeps 4 = .ok (.bipush 8, 2) := by decide +kernel
theorem dX8_keeps_6 : decode cX8_keeps 6 = .ok (.if_icmp .ne 43, 3) := by decide +kernel
theorem dX8_keeps_9 : decode cX8_keeps 9 = .ok (.iconst 0, 1) := by decide +kernel
theorem dX8_keeps_10 : decode cX8_keeps 10 = .ok (.istore_n 2, 1) := by decide +kernel
theorem dX8_keeps_11 : decode cX8_keeps 11 = .ok (.iload_n 2, 1) := by decide +kernel
theorem dX8_keeps_12 : decode cX8_keeps 12 = .ok (.sipush 539, 3) := by decide +kernel
theorem dX8_keeps_15 : decode cX8_keeps 15 = .ok (.if_icmp .ge 24, 3) := by decide +kernel
theorem dX8_keeps_18 : decode cX8_keeps 18 = .ok (.aload_n 0, 1) := by decide +kernel
theorem dX8_keeps_19 : decode cX8_keeps 19 = .ok (.getfield 16, 3) := by decide +kernel
theorem dX8_keeps_22 : decode cX8_keeps 22 = .ok (.iload_n 2, 1) := by decide +kernel
theorem dX8_keeps_23 : decode cX8_keeps 23 = .ok (.aload_n 0, 1) := by decide +kernel
theorem dX8_keeps_24 : decode cX8_keeps 24 = .ok (.getfield 16, 3) := by decide +kernel
theorem dX8_keeps_27 : decode cX8_keeps 27 = .ok (.bipush 77, 2) := by decide +kernel
theorem dX8_keeps_29 : decode cX8_keeps 29 = .ok (.iload_n 2, 1) := by decide +kernel
theorem dX8_keeps_30 : decode cX8_keeps 30 = .ok (.iadd, 1) := by decide +kernel
theorem dX8_keeps_31 : decode cX8_keeps 31 = .ok (.iaload, 1) := by decide +kernel
theorem dX8_keeps_32 : decode cX8_keeps 32 = .ok (.iastore, 1) := by decide +kernel
theorem dX8_keeps_33 : decode cX8_keeps 33 = .ok (.iinc 2 1, 3) := by decide +kernel
theorem dX8_keeps_36 : decode cX8_keeps 36 = .ok (.goto (-25), 3) := by decide +kernel
theorem dX8_keeps_39 : decode cX8_keeps 39 = .ok (.aload_n 0, 1) := by decide +kernel
theorem dX8_keeps_40 : decode cX8_keeps 40 = .ok (.dup, 1) := by decide +kernel
theorem dX8_keeps_41 : decode cX8_keeps 41 = .ok (.getfield 42, 3) := by decide +kernel
theorem dX8_keeps_44 : decode cX8_keeps 44 = .ok (.iconst 1, 1) := by decide +kernel
theorem dX8_keeps_45 : decode cX8_keeps 45 = .ok (.isub, 1) := by decide +kernel
theorem dX8_keeps_46 : decode cX8_keeps 46 = .ok (.putfield 42, 3) := by decide +kernel
theorem dX8_keeps_49 : decode cX8_keeps 49 = .ok (.iconst 0, 1) := by decide +kernel
theorem dX8_keeps_50 : decode cX8_keeps 50 = .ok (.istore_n 2, 1) := by decide +kernel
theorem dX8_keeps_51 : decode cX8_keeps 51 = .ok (.iload_n 2, 1) := by decide +kernel
theorem dX8_keeps_52 : decode cX8_keeps 52 = .ok (.bipush 77, 2) := by decide +kernel
theorem dX8_keeps_54 : decode cX8_keeps 54 = .ok (.if_icmp .ge 29, 3) := by decide +kernel
theorem dX8_keeps_57 : decode cX8_keeps 57 = .ok (.aload_n 0, 1) := by decide +kernel
theorem dX8_keeps_58 : decode cX8_keeps 58 = .ok (.getfield 16, 3) := by decide +kernel
theorem dX8_keeps_61 : decode cX8_keeps 61 = .ok (.bipush 77, 2) := by decide +kernel
theorem dX8_keeps_63 : decode cX8_keeps 63 = .ok (.aload_n 0, 1) := by decide +kernel
theorem dX8_keeps_64 : decode cX8_keeps 64 = .ok (.getfield 42, 3) := by decide +kernel
theorem dX8_keeps_67 : decode cX8_keeps 67 = .ok (.imul, 1) := by decide +kernel
theorem dX8_keeps_68 : decode cX8_keeps 68 = .ok (.iload_n 2, 1) := by decide +kernel
theorem dX8_keeps_69 : decode cX8_keeps 69 = .ok (.iadd, 1) := by decide +kernel
theorem dX8_keeps_70 : decode cX8_keeps 70 = .ok (.aload_n 0, 1) := by decide +kernel
theorem dX8_keeps_71 : decode cX8_keeps 71 = .ok (.getfield 13, 3) := by decide +kernel
theorem dX8_keeps_74 : decode cX8_keeps 74 = .ok (.iload_n 2, 1) := by decide +kernel
theorem dX8_keeps_75 : decode cX8_keeps 75 = .ok (.iaload, 1) := by decide +kernel
theorem dX8_keeps_76 : decode cX8_keeps 76 = .ok (.iastore, 1) := by decide +kernel
theorem dX8_keeps_77 : decode cX8_keeps 77 = .ok (.iinc 2 1, 3) := by decide +kernel
theorem dX8_keeps_80 : decode cX8_keeps 80 = .ok (.goto (-29), 3) := by decide +kernel
theorem dX8_keeps_83 : decode cX8_keeps 83 = .ok (.aload_n 0, 1) := by decide +kernel
theorem dX8_keeps_84 : decode cX8_keeps 84 = .ok (.dup, 1) := by decide +kernel
theorem dX8_keeps_85 : decode cX8_keeps 85 = .ok (.getfield 42, 3) := by decide +kernel
theorem dX8_keeps_88 : decode cX8_keeps 88 = .ok (.iconst 1, 1) := by decide +kernel
theorem dX8_keeps_89 : decode cX8_keeps 89 = .ok (.iadd, 1) := by decide +kernel
theorem dX8_keeps_90 : decode cX8_keeps 90 = .ok (.putfield 42, 3) := by decide +kernel
theorem dX8_keeps_93 : decode cX8_keeps 93 = .ok (.iload_n 1, 1) := by decide +kernel
theorem dX8_keeps_94 : decode cX8_keeps 94 = .ok (.ireturn, 1) := by decide +kernel
theorem dX8_does_0 : decode cX8_does 0 = .ok (.aload_n 0, 1) := by decide +kernel
theorem dX8_does_1 : decode cX8_does 1 = .ok (.iload_n 1, 1) := by decide +kernel
theorem dX8_does_2 : decode cX8_does 2 = .ok (.putfield 45, 3) := by decide +kernel
theorem dX8_does_5 : decode cX8_does 5 = .ok (.iconst 1, 1) := by decide +kernel
theorem dX8_does_6 : decode cX8_does 6 = .ok (.ireturn, 1) := by decide +kernel
theorem dX8_refuses_0 : decode cX8_refuses 0 = .ok (.aload_n 0, 1) := by decide +kernel
theorem dX8_refuses_1 : decode cX8_refuses 1 = .ok (.iload_n 1, 1) := by decide +kernel
theorem dX8_refuses_2 : decode cX8_refuses 2 = .ok (.putfield 48, 3) := by decide +kernel
theorem dX8_refuses_5 : decode cX8_refuses 5 = .ok (.aload_n 0, 1) := by decide +kernel
theorem dX8_refuses_6 : decode cX8_refuses 6 = .ok (.iload_n 2, 1) := by decide +kernel
theorem dX8_refuses_7 : decode cX8_refuses 7 = .ok (.putfield 51, 3) := by decide +kernel
theorem dX8_refuses_10 : decode cX8_refuses 10 = .ok (.aload_n 0, 1) := by decide +kernel
theorem dX8_refuses_11 : decode cX8_refuses 11 = .ok (.iconst 0, 1) := by decide +kernel
theorem dX8_refuses_12 : decode cX8_refuses 12 = .ok (.putfield 54, 3) := by decide +kernel
theorem dX8_refuses_15 : decode cX8_refuses 15 = .ok (.iconst 0, 1) := by decide +kernel
theorem dX8_refuses_16 : decode cX8_refuses 16 = .ok (.ireturn, 1) := by decide +kernel
set_option maxRecDepth 20000 in
theorem ggX8_ends_X8_keeps : GoodIn wsX8_ends wsX8_keeps := goodIn_ca (goodIn_r _ [6, 7, 8, 9, 15, 16, 17, 18, 19, 20, 21, 22, 23, 24, 25, 26, 27, 28, 29, 30, 31, 32, 33, 34, 35, 36] (by decide +kernel) (by decide +kernel)) (goodIn_sub (fun _ h => List.mem_cons_of_mem _ (List.mem_append_right _ h)) (by decide +kernel))
set_option maxRecDepth 20000 in
theorem gX8_ends_X8_keeps : GoodIn wsX8_ends (wsV RX8 57 RX8 yX8_keeps wsX8_keeps) := goodIn_app (goodIn_of _ (by decide +kernel)) ggX8_ends_X8_keeps
set_option maxRecDepth 20000 in
theorem ggX8_ends_X8_raises : GoodIn wsX8_ends wsX8_raises := goodIn_r _ [13, 14, 15, 16, 17, 18, 19, 20, 21, 22, 23, 24, 25, 26, 27, 28, 29, 30, 31, 32, 33, 34, 35, 36] (by decide +kernel) (by decide +kernel)
set_option maxRecDepth 20000 in
theorem gX8_ends_X8_raises : GoodIn wsX8_ends (wsV RX8 61 RX8 yX8_raises wsX8_raises) := goodIn_app (goodIn_of _ (by decide +kernel)) ggX8_ends_X8_raises
theorem dX8_ends_0 : decode cX8_ends 0 = .ok (.iload_n 1, 1) := by decide +kernel
theorem dX8_ends_1 : decode cX8_ends 1 = .ok (.ifCond .eq 14, 3) := by decide +kernel
theorem dX8_ends_4 : decode cX8_ends 4 = .ok (.aload_n 0, 1) := by decide +kernel
theorem dX8_ends_5 : decode cX8_ends 5 = .ok (.aload_n 0, 1) := by decide +kernel
theorem dX8_ends_6 : decode cX8_ends 6 = .ok (.getfield 45, 3) := by decide +kernel
theorem dX8_ends_9 : decode cX8_ends 9 = .ok (.invokevirtual 57, 3) := by decide +kernel
theorem dX8_ends_12 : decode cX8_ends 12 = .ok (.goto 8, 3) := by decide +kernel
theorem dX8_ends_15 : decode cX8_ends 15 = .ok (.aload_n 0, 1) := by decide +kernel
theorem dX8_ends_16 : decode cX8_ends 16 = .ok (.iconst 1, 1) := by decide +kernel
theorem dX8_ends_17 : decode cX8_ends 17 = .ok (.invokevirtual 61, 3) := by decide +kernel
theorem dX8_ends_20 : decode cX8_ends 20 = .ok (.ireturn, 1) := by decide +kernel
theorem dX8_key_0 : decode cX8_key 0 = .ok (.aload_n 0, 1) := by decide +kernel
theorem dX8_key_1 : decode cX8_key 1 = .ok (.getfield 9, 3) := by decide +kernel
theorem dX8_key_4 : decode cX8_key 4 = .ok (.iconst 5, 1) := by decide +kernel
theorem dX8_key_5 : decode cX8_key 5 = .ok (.iconst 3, 1) := by decide +kernel
theorem dX8_key_6 : decode cX8_key 6 = .ok (.iload_n 1, 1) := by decide +kernel
theorem dX8_key_7 : decode cX8_key 7 = .ok (.imul, 1) := by decide +kernel
theorem dX8_key_8 : decode cX8_key 8 = .ok (.iadd, 1) := by decide +kernel
theorem dX8_key_9 : decode cX8_key 9 = .ok (.iaload, 1) := by decide +kernel
theorem dX8_key_10 : decode cX8_key 10 = .ok (.ireturn, 1) := by decide +kernel
theorem dX8_weight_0 : decode cX8_weight 0 = .ok (.aload_n 0, 1) := by decide +kernel
theorem dX8_weight_1 : decode cX8_weight 1 = .ok (.getfield 9, 3) := by decide +kernel
theorem dX8_weight_4 : decode cX8_weight 4 = .ok (.iconst 5, 1) := by decide +kernel
theorem dX8_weight_5 : decode cX8_weight 5 = .ok (.iconst 3, 1) := by decide +kernel
theorem dX8_weight_6 : decode cX8_weight 6 = .ok (.iload_n 1, 1) := by decide +kernel
theorem dX8_weight_7 : decode cX8_weight 7 = .ok (.imul, 1) := by decide +kernel
theorem dX8_weight_8 : decode cX8_weight 8 = .ok (.iadd, 1) := by decide +kernel
theorem dX8_weight_9 : decode cX8_weight 9 = .ok (.iconst 1, 1) := by decide +kernel
theorem dX8_weight_10 : decode cX8_weight 10 = .ok (.iadd, 1) := by decide +kernel
theorem dX8_weight_11 : decode cX8_weight 11 = .ok (.iaload, 1) := by decide +kernel
theorem dX8_weight_12 : decode cX8_weight 12 = .ok (.ireturn, 1) := by decide +kernel
theorem dX8_rungs_0 : decode cX8_rungs 0 = .ok (.aload_n 0, 1) := by decide +kernel
theorem dX8_rungs_1 : decode cX8_rungs 1 = .ok (.getfield 9, 3) := by decide +kernel
theorem dX8_rungs_4 : decode cX8_rungs 4 = .ok (.iconst 5, 1) := by decide +kernel
theorem dX8_rungs_5 : decode cX8_rungs 5 = .ok (.iconst 3, 1) := by decide +kernel
theorem dX8_rungs_6 : decode cX8_rungs 6 = .ok (.iload_n 1, 1) := by decide +kernel
theorem dX8_rungs_7 : decode cX8_rungs 7 = .ok (.imul, 1) := by decide +kernel
theorem dX8_rungs_8 : decode cX8_rungs 8 = .ok (.iadd, 1) := by decide +kernel
theorem dX8_rungs_9 : decode cX8_rungs 9 = .ok (.iconst 2, 1) := by decide +kernel
theorem dX8_rungs_10 : decode cX8_rungs 10 = .ok (.iadd, 1) := by decide +kernel
theorem dX8_rungs_11 : decode cX8_rungs 11 = .ok (.iaload, 1) := by decide +kernel
theorem dX8_rungs_12 : decode cX8_rungs 12 = .ok (.ireturn, 1) := by decide +kernel
set_option maxRecDepth 20000 in
theorem ggX8_isKey_X8_in : GoodIn wsX8_isKey wsX8_in := goodIn_r _ [4] (by decide +kernel) (by decide +kernel)
set_option maxRecDepth 20000 in
theorem gX8_isKey_X8_in : GoodIn wsX8_isKey (va_wsS RX8 64 yX8_in wsX8_in) := goodIn_app (goodIn_of _ (by decide +kernel)) ggX8_isKey_X8_in
theorem dX8_isKey_0 : decode cX8_isKey 0 = .ok (.iload_n 0, 1) := by decide +kernel
theorem dX8_isKey_1 : decode cX8_isKey 1 = .ok (.iconst 0, 1) := by decide +kernel
theorem dX8_isKey_2 : decode cX8_isKey 2 = .ok (.sipush 999, 3) := by decide +kernel
theorem dX8_isKey_5 : decode cX8_isKey 5 = .ok (.invokestatic 64, 3) := by decide +kernel
theorem dX8_isKey_8 : decode cX8_isKey 8 = .ok (.ireturn, 1) := by decide +kernel
set_option maxRecDepth 20000 in
theorem ggX8_isWeight_X8_in : GoodIn wsX8_isWeight wsX8_in := goodIn_r _ [4] (by decide +kernel) (by decide +kernel)
set_option maxRecDepth 20000 in
theorem gX8_isWeight_X8_in : GoodIn wsX8_isWeight (va_wsS RX8 64 yX8_in wsX8_in) := goodIn_app (goodIn_of _ (by decide +kernel)) ggX8_isWeight_X8_in
theorem dX8_isWeight_0 : decode cX8_isWeight 0 = .ok (.iload_n 0, 1) := by decide +kernel
theorem dX8_isWeight_1 : decode cX8_isWeight 1 = .ok (.iconst 0, 1) := by decide +kernel
theorem dX8_isWeight_2 : decode cX8_isWeight 2 = .ok (.bipush 99, 2) := by decide +kernel
theorem dX8_isWeight_4 : decode cX8_isWeight 4 = .ok (.invokestatic 64, 3) := by decide +kernel
theorem dX8_isWeight_7 : decode cX8_isWeight 7 = .ok (.ireturn, 1) := by decide +kernel
set_option maxRecDepth 20000 in
theorem ggX8_isLevel_X8_in : GoodIn wsX8_isLevel wsX8_in := goodIn_r _ [4] (by decide +kernel) (by decide +kernel)
set_option maxRecDepth 20000 in
theorem gX8_isLevel_X8_in : GoodIn wsX8_isLevel (va_wsS RX8 64 yX8_in wsX8_in) := goodIn_app (goodIn_of _ (by decide +kernel)) ggX8_isLevel_X8_in
theorem dX8_isLevel_0 : decode cX8_isLevel 0 = .ok (.iload_n 0, 1) := by decide +kernel
theorem dX8_isLevel_1 : decode cX8_isLevel 1 = .ok (.iconst 0, 1) := by decide +kernel
theorem dX8_isLevel_2 : decode cX8_isLevel 2 = .ok (.iconst 4, 1) := by decide +kernel
theorem dX8_isLevel_3 : decode cX8_isLevel 3 = .ok (.invokestatic 64, 3) := by decide +kernel
theorem dX8_isLevel_6 : decode cX8_isLevel 6 = .ok (.ireturn, 1) := by decide +kernel
theorem dX8_isOut_0 : decode cX8_isOut 0 = .ok (.aload_n 0, 1) := by decide +kernel
theorem dX8_isOut_1 : decode cX8_isOut 1 = .ok (.getfield 9, 3) := by decide +kernel
theorem dX8_isOut_4 : decode cX8_isOut 4 = .ok (.iconst 4, 1) := by decide +kernel
theorem dX8_isOut_5 : decode cX8_isOut 5 = .ok (.iaload, 1) := by decide +kernel
theorem dX8_isOut_6 : decode cX8_isOut 6 = .ok (.iload_n 1, 1) := by decide +kernel
theorem dX8_isOut_7 : decode cX8_isOut 7 = .ok (.ishr, 1) := by decide +kernel
theorem dX8_isOut_8 : decode cX8_isOut 8 = .ok (.iconst 1, 1) := by decide +kernel
theorem dX8_isOut_9 : decode cX8_isOut 9 = .ok (.iand, 1) := by decide +kernel
theorem dX8_isOut_10 : decode cX8_isOut 10 = .ok (.iconst 1, 1) := by decide +kernel
theorem dX8_isOut_11 : decode cX8_isOut 11 = .ok (.if_icmp .ne 7, 3) := by decide +kernel
theorem dX8_isOut_14 : decode cX8_isOut 14 = .ok (.iconst 1, 1) := by decide +kernel
theorem dX8_isOut_15 : decode cX8_isOut 15 = .ok (.goto 4, 3) := by decide +kernel
theorem dX8_isOut_18 : decode cX8_isOut 18 = .ok (.iconst 0, 1) := by decide +kernel
theorem dX8_isOut_19 : decode cX8_isOut 19 = .ok (.ireturn, 1) := by decide +kernel
set_option maxRecDepth 20000 in
theorem ggX8_lower_X8_key : GoodIn wsX8_lower wsX8_key := goodIn_ca (goodIn_r _ [6, 1, 7, 8, 9, 10, 11, 12, 13, 14, 15, 16, 17, 18, 19, 20, 21, 22, 23, 24, 25, 26, 27, 28] (by decide +kernel) (by decide +kernel)) (goodIn_sub (fun _ h => List.mem_cons_of_mem _ (List.mem_append_right _ h)) (by decide +kernel))
set_option maxRecDepth 20000 in
theorem gX8_lower_X8_key : GoodIn wsX8_lower (wsV RX8 68 RX8 yX8_key wsX8_key) := goodIn_app (goodIn_of _ (by decide +kernel)) ggX8_lower_X8_key
theorem dX8_lower_0 : decode cX8_lower 0 = .ok (.iconst 0, 1) := by decide +kernel
theorem dX8_lower_1 : decode cX8_lower 1 = .ok (.istore_n 3, 1) := by decide +kernel
theorem dX8_lower_2 : decode cX8_lower 2 = .ok (.iload_n 3, 1) := by decide +kernel
theorem dX8_lower_3 : decode cX8_lower 3 = .ok (.aload_n 0, 1) := by decide +kernel
theorem dX8_lower_4 : decode cX8_lower 4 = .ok (.getfield 9, 3) := by decide +kernel
theorem dX8_lower_7 : decode cX8_lower 7 = .ok (.iconst 0, 1) := by decide +kernel
theorem dX8_lower_8 : decode cX8_lower 8 = .ok (.iaload, 1) := by decide +kernel
theorem dX8_lower_9 : decode cX8_lower 9 = .ok (.if_icmp .ge 31, 3) := by decide +kernel
theorem dX8_lower_12 : decode cX8_lower 12 = .ok (.aload_n 0, 1) := by decide +kernel
theorem dX8_lower_13 : decode cX8_lower 13 = .ok (.iload_n 3, 1) := by decide +kernel
theorem dX8_lower_14 : decode cX8_lower 14 = .ok (.invokevirtual 68, 3) := by decide +kernel
theorem dX8_lower_17 : decode cX8_lower 17 = .ok (.iload_n 1, 1) := by decide +kernel
theorem dX8_lower_18 : decode cX8_lower 18 = .ok (.if_icmp .lt 16, 3) := by decide +kernel
theorem dX8_lower_21 : decode cX8_lower 21 = .ok (.iload_n 2, 1) := by decide +kernel
theorem dX8_lower_22 : decode cX8_lower 22 = .ok (.ifCond .eq 18, 3) := by decide +kernel
theorem dX8_lower_25 : decode cX8_lower 25 = .ok (.aload_n 0, 1) := by decide +kernel
theorem dX8_lower_26 : decode cX8_lower 26 = .ok (.iload_n 3, 1) := by decide +kernel
theorem dX8_lower_27 : decode cX8_lower 27 = .ok (.invokevirtual 68, 3) := by decide +kernel
theorem dX8_lower_30 : decode cX8_lower 30 = .ok (.iload_n 1, 1) := by decide +kernel
theorem dX8_lower_31 : decode cX8_lower 31 = .ok (.if_icmp .ne 9, 3) := by decide +kernel
theorem dX8_lower_34 : decode cX8_lower 34 = .ok (.iinc 3 1, 3) := by decide +kernel
theorem dX8_lower_37 : decode cX8_lower 37 = .ok (.goto (-35), 3) := by decide +kernel
theorem dX8_lower_40 : decode cX8_lower 40 = .ok (.iload_n 3, 1) := by decide +kernel
theorem dX8_lower_41 : decode cX8_lower 41 = .ok (.ireturn, 1) := by decide +kernel
set_option maxRecDepth 20000 in
theorem ggX8_find_X8_lower : GoodIn wsX8_find wsX8_lower := goodIn_ca (goodIn_r _ [6, 1, 7, 8, 9, 5, 10, 11, 12, 13, 14, 15, 16, 17, 18, 19, 20, 21, 22, 23, 24, 25, 26, 27, 28, 29, 30, 31, 32] (by decide +kernel) (by decide +kernel)) (goodIn_sub (fun _ h => List.mem_cons_of_mem _ (List.mem_append_right _ h)) (by decide +kernel))
set_option maxRecDepth 20000 in
theorem gX8_find_X8_lower : GoodIn wsX8_find (wsV RX8 71 RX8 yX8_lower wsX8_lower) := goodIn_app (goodIn_of _ (by decide +kernel)) ggX8_find_X8_lower
set_option maxRecDepth 20000 in
theorem ggX8_find_X8_key : GoodIn wsX8_find wsX8_key := goodIn_ca (goodIn_r _ [10, 1, 11, 12, 13, 14, 15, 16, 17, 18, 19, 20, 21, 22, 23, 24, 25, 26, 27, 28, 29, 30, 31, 32] (by decide +kernel) (by decide +kernel)) (goodIn_sub (fun _ h => List.mem_cons_of_mem _ (List.mem_append_right _ h)) (by decide +kernel))
set_option maxRecDepth 20000 in
theorem gX8_find_X8_key : GoodIn wsX8_find (wsV RX8 68 RX8 yX8_key wsX8_key) := goodIn_app (goodIn_of _ (by decide +kernel)) ggX8_find_X8_key
theorem dX8_find_0 : decode cX8_find 0 = .ok (.aload_n 0, 1) := by decide +kernel
theorem dX8_find_1 : decode cX8_find 1 = .ok (.iload_n 1, 1) := by decide +kernel
theorem dX8_find_2 : decode cX8_find 2 = .ok (.iconst 0, 1) := by decide +kernel
theorem dX8_find_3 : decode cX8_find 3 = .ok (.invokevirtual 71, 3) := by decide +kernel
theorem dX8_find_6 : decode cX8_find 6 = .ok (.istore_n 2, 1) := by decide +kernel
theorem dX8_find_7 : decode cX8_find 7 = .ok (.iload_n 2, 1) := by decide +kernel
theorem dX8_find_8 : decode cX8_find 8 = .ok (.aload_n 0, 1) := by decide +kernel
theorem dX8_find_9 : decode cX8_find 9 = .ok (.getfield 9, 3) := by decide +kernel
theorem dX8_find_12 : decode cX8_find 12 = .ok (.iconst 0, 1) := by decide +kernel
theorem dX8_find_13 : decode cX8_find 13 = .ok (.iaload, 1) := by decide +kernel
theorem dX8_find_14 : decode cX8_find 14 = .ok (.if_icmp .ge 16, 3) := by decide +kernel
theorem dX8_find_17 : decode cX8_find 17 = .ok (.aload_n 0, 1) := by decide +kernel
theorem dX8_find_18 : decode cX8_find 18 = .ok (.iload_n 2, 1) := by decide +kernel
theorem dX8_find_19 : decode cX8_find 19 = .ok (.invokevirtual 68, 3) := by decide +kernel
theorem dX8_find_22 : decode cX8_find 22 = .ok (.iload_n 1, 1) := by decide +kernel
theorem dX8_find_23 : decode cX8_find 23 = .ok (.if_icmp .ne 7, 3) := by decide +kernel
theorem dX8_find_26 : decode cX8_find 26 = .ok (.iload_n 2, 1) := by decide +kernel
theorem dX8_find_27 : decode cX8_find 27 = .ok (.goto 4, 3) := by decide +kernel
theorem dX8_find_30 : decode cX8_find 30 = .ok (.iconst (-1), 1) := by decide +kernel
theorem dX8_find_31 : decode cX8_find 31 = .ok (.ireturn, 1) := by decide +kernel
set_option maxRecDepth 20000 in
theorem ggX8_sizeOf_X8_rungs : GoodIn wsX8_sizeOf wsX8_rungs := goodIn_ca (goodIn_r _ [6, 1, 7, 8, 9, 10, 11, 12, 13, 14, 15, 16, 17, 18, 19, 20, 21, 22, 23, 24, 25, 26, 27, 28] (by decide +kernel) (by decide +kernel)) (goodIn_sub (fun _ h => List.mem_cons_of_mem _ (List.mem_append_right _ h)) (by decide +kernel))
set_option maxRecDepth 20000 in
theorem gX8_sizeOf_X8_rungs : GoodIn wsX8_sizeOf (wsV RX8 75 RX8 yX8_rungs wsX8_rungs) := goodIn_app (goodIn_of _ (by decide +kernel)) ggX8_sizeOf_X8_rungs
theorem dX8_sizeOf_0 : decode cX8_sizeOf 0 = .ok (.iconst 0, 1) := by decide +kernel
theorem dX8_sizeOf_1 : decode cX8_sizeOf 1 = .ok (.istore_n 2, 1) := by decide +kernel
theorem dX8_sizeOf_2 : decode cX8_sizeOf 2 = .ok (.iconst 0, 1) := by decide +kernel
theorem dX8_sizeOf_3 : decode cX8_sizeOf 3 = .ok (.istore_n 3, 1) := by decide +kernel
theorem dX8_sizeOf_4 : decode cX8_sizeOf 4 = .ok (.iload_n 3, 1) := by decide +kernel
theorem dX8_sizeOf_5 : decode cX8_sizeOf 5 = .ok (.aload_n 0, 1) := by decide +kernel
theorem dX8_sizeOf_6 : decode cX8_sizeOf 6 = .ok (.getfield 9, 3) := by decide +kernel
theorem dX8_sizeOf_9 : decode cX8_sizeOf 9 = .ok (.iconst 0, 1) := by decide +kernel
theorem dX8_sizeOf_10 : decode cX8_sizeOf 10 = .ok (.iaload, 1) := by decide +kernel
theorem dX8_sizeOf_11 : decode cX8_sizeOf 11 = .ok (.if_icmp .ge 21, 3) := by decide +kernel
theorem dX8_sizeOf_14 : decode cX8_sizeOf 14 = .ok (.aload_n 0, 1) := by decide +kernel
theorem dX8_sizeOf_15 : decode cX8_sizeOf 15 = .ok (.iload_n 3, 1) := by decide +kernel
theorem dX8_sizeOf_16 : decode cX8_sizeOf 16 = .ok (.invokevirtual 75, 3) := by decide +kernel
theorem dX8_sizeOf_19 : decode cX8_sizeOf 19 = .ok (.iload_n 1, 1) := by decide +kernel
theorem dX8_sizeOf_20 : decode cX8_sizeOf 20 = .ok (.if_icmp .le 6, 3) := by decide +kernel
theorem dX8_sizeOf_23 : decode cX8_sizeOf 23 = .ok (.iinc 2 1, 3) := by decide +kernel
theorem dX8_sizeOf_26 : decode cX8_sizeOf 26 = .ok (.iinc 3 1, 3) := by decide +kernel
theorem dX8_sizeOf_29 : decode cX8_sizeOf 29 = .ok (.goto (-25), 3) := by decide +kernel
theorem dX8_sizeOf_32 : decode cX8_sizeOf 32 = .ok (.iload_n 2, 1) := by decide +kernel
theorem dX8_sizeOf_33 : decode cX8_sizeOf 33 = .ok (.ireturn, 1) := by decide +kernel
set_option maxRecDepth 20000 in
theorem ggX8_next_X8_rungs : GoodIn wsX8_next wsX8_rungs := goodIn_ca (goodIn_r _ [6, 1, 7, 8, 9, 10, 11, 12, 13, 14, 15, 16, 17, 18, 19, 20, 21, 22, 23, 24, 25, 26, 27, 28] (by decide +kernel) (by decide +kernel)) (goodIn_sub (fun _ h => List.mem_cons_of_mem _ (List.mem_append_right _ h)) (by decide +kernel))
set_option maxRecDepth 20000 in
theorem gX8_next_X8_rungs : GoodIn wsX8_next (wsV RX8 75 RX8 yX8_rungs wsX8_rungs) := goodIn_app (goodIn_of _ (by decide +kernel)) ggX8_next_X8_rungs
theorem dX8_next_0 : decode cX8_next 0 = .ok (.iload_n 1, 1) := by decide +kernel
theorem dX8_next_1 : decode cX8_next 1 = .ok (.iconst 1, 1) := by decide +kernel
theorem dX8_next_2 : decode cX8_next 2 = .ok (.iadd, 1) := by decide +kernel
theorem dX8_next_3 : decode cX8_next 3 = .ok (.istore_n 3, 1) := by decide +kernel
theorem dX8_next_4 : decode cX8_next 4 = .ok (.iload_n 3, 1) := by decide +kernel
theorem dX8_next_5 : decode cX8_next 5 = .ok (.aload_n 0, 1) := by decide +kernel
theorem dX8_next_6 : decode cX8_next 6 = .ok (.getfield 9, 3) := by decide +kernel
theorem dX8_next_9 : decode cX8_next 9 = .ok (.iconst 0, 1) := by decide +kernel
theorem dX8_next_10 : decode cX8_next 10 = .ok (.iaload, 1) := by decide +kernel
theorem dX8_next_11 : decode cX8_next 11 = .ok (.if_icmp .ge 18, 3) := by decide +kernel
theorem dX8_next_14 : decode cX8_next 14 = .ok (.aload_n 0, 1) := by decide +kernel
theorem dX8_next_15 : decode cX8_next 15 = .ok (.iload_n 3, 1) := by decide +kernel
theorem dX8_next_16 : decode cX8_next 16 = .ok (.invokevirtual 75, 3) := by decide +kernel
theorem dX8_next_19 : decode cX8_next 19 = .ok (.iload_n 2, 1) := by decide +kernel
theorem dX8_next_20 : decode cX8_next 20 = .ok (.if_icmp .gt 9, 3) := by decide +kernel
theorem dX8_next_23 : decode cX8_next 23 = .ok (.iinc 3 1, 3) := by decide +kernel
theorem dX8_next_26 : decode cX8_next 26 = .ok (.goto (-22), 3) := by decide +kernel
theorem dX8_next_29 : decode cX8_next 29 = .ok (.iload_n 3, 1) := by decide +kernel
theorem dX8_next_30 : decode cX8_next 30 = .ok (.ireturn, 1) := by decide +kernel
theorem dX8_tosses_0 : decode cX8_tosses 0 = .ok (.aload_n 0, 1) := by decide +kernel
theorem dX8_tosses_1 : decode cX8_tosses 1 = .ok (.getfield 9, 3) := by decide +kernel
theorem dX8_tosses_4 : decode cX8_tosses 4 = .ok (.iconst 1, 1) := by decide +kernel
theorem dX8_tosses_5 : decode cX8_tosses 5 = .ok (.bipush 73, 2) := by decide +kernel
theorem dX8_tosses_7 : decode cX8_tosses 7 = .ok (.aload_n 0, 1) := by decide +kernel
theorem dX8_tosses_8 : decode cX8_tosses 8 = .ok (.getfield 9, 3) := by decide +kernel
theorem dX8_tosses_11 : decode cX8_tosses 11 = .ok (.iconst 1, 1) := by decide +kernel
theorem dX8_tosses_12 : decode cX8_tosses 12 = .ok (.iaload, 1) := by decide +kernel
theorem dX8_tosses_13 : decode cX8_tosses 13 = .ok (.imul, 1) := by decide +kernel
theorem dX8_tosses_14 : decode cX8_tosses 14 = .ok (.bipush 19, 2) := by decide +kernel
theorem dX8_tosses_16 : decode cX8_tosses 16 = .ok (.iadd, 1) := by decide +kernel
theorem dX8_tosses_17 : decode cX8_tosses 17 = .ok (.sipush 10000, 3) := by decide +kernel
theorem dX8_tosses_20 : decode cX8_tosses 20 = .ok (.irem, 1) := by decide +kernel
theorem dX8_tosses_21 : decode cX8_tosses 21 = .ok (.iastore, 1) := by decide +kernel
theorem dX8_tosses_22 : decode cX8_tosses 22 = .ok (.aload_n 0, 1) := by decide +kernel
theorem dX8_tosses_23 : decode cX8_tosses 23 = .ok (.getfield 9, 3) := by decide +kernel
theorem dX8_tosses_26 : decode cX8_tosses 26 = .ok (.iconst 2, 1) := by decide +kernel
theorem dX8_tosses_27 : decode cX8_tosses 27 = .ok (.dup2, 1) := by decide +kernel
theorem dX8_tosses_28 : decode cX8_tosses 28 = .ok (.iaload, 1) := by decide +kernel
theorem dX8_tosses_29 : decode cX8_tosses 29 = .ok (.iconst 1, 1) := by decide +kernel
theorem dX8_tosses_30 : decode cX8_tosses 30 = .ok (.iadd, 1) := by decide +kernel
theorem dX8_tosses_31 : decode cX8_tosses 31 = .ok (.iastore, 1) := by decide +kernel
theorem dX8_tosses_32 : decode cX8_tosses 32 = .ok (.aload_n 0, 1) := by decide +kernel
theorem dX8_tosses_33 : decode cX8_tosses 33 = .ok (.getfield 9, 3) := by decide +kernel
theorem dX8_tosses_36 : decode cX8_tosses 36 = .ok (.iconst 1, 1) := by decide +kernel
theorem dX8_tosses_37 : decode cX8_tosses 37 = .ok (.iaload, 1) := by decide +kernel
theorem dX8_tosses_38 : decode cX8_tosses 38 = .ok (.bipush 100, 2) := by decide +kernel
theorem dX8_tosses_40 : decode cX8_tosses 40 = .ok (.idiv, 1) := by decide +kernel
theorem dX8_tosses_41 : decode cX8_tosses 41 = .ok (.iconst 2, 1) := by decide +kernel
theorem dX8_tosses_42 : decode cX8_tosses 42 = .ok (.irem, 1) := by decide +kernel
theorem dX8_tosses_43 : decode cX8_tosses 43 = .ok (.iconst 1, 1) := by decide +kernel
theorem dX8_tosses_44 : decode cX8_tosses 44 = .ok (.if_icmp .ne 7, 3) := by decide +kernel
theorem dX8_tosses_47 : decode cX8_tosses 47 = .ok (.iconst 1, 1) := by decide +kernel
theorem dX8_tosses_48 : decode cX8_tosses 48 = .ok (.goto 4, 3) := by decide +kernel
theorem dX8_tosses_51 : decode cX8_tosses 51 = .ok (.iconst 0, 1) := by decide +kernel
theorem dX8_tosses_52 : decode cX8_tosses 52 = .ok (.istore_n 1, 1) := by decide +kernel
theorem dX8_tosses_53 : decode cX8_tosses 53 = .ok (.iload_n 1, 1) := by decide +kernel
theorem dX8_tosses_54 : decode cX8_tosses 54 = .ok (.ifCond .eq 13, 3) := by decide +kernel
theorem dX8_tosses_57 : decode cX8_tosses 57 = .ok (.aload_n 0, 1) := by decide +kernel
theorem dX8_tosses_58 : decode cX8_tosses 58 = .ok (.getfield 9, 3) := by decide +kernel
theorem dX8_tosses_61 : decode cX8_tosses 61 = .ok (.iconst 3, 1) := by decide +kernel
theorem dX8_tosses_62 : decode cX8_tosses 62 = .ok (.dup2, 1) := by decide +kernel
theorem dX8_tosses_63 : decode cX8_tosses 63 = .ok (.iaload, 1) := by decide +kernel
theorem dX8_tosses_64 : decode cX8_tosses 64 = .ok (.iconst 1, 1) := by decide +kernel
theorem dX8_tosses_65 : decode cX8_tosses 65 = .ok (.iadd, 1) := by decide +kernel
theorem dX8_tosses_66 : decode cX8_tosses 66 = .ok (.iastore, 1) := by decide +kernel
theorem dX8_tosses_67 : decode cX8_tosses 67 = .ok (.iload_n 1, 1) := by decide +kernel
theorem dX8_tosses_68 : decode cX8_tosses 68 = .ok (.ireturn, 1) := by decide +kernel
set_option maxRecDepth 20000 in
theorem ggX8_files_X8_isKey : GoodIn wsX8_files wsX8_isKey := goodIn_r _ [5, 6, 7, 4, 8] (by decide +kernel) (by decide +kernel)
set_option maxRecDepth 20000 in
theorem gX8_files_X8_isKey : GoodIn wsX8_files (va_wsS RX8 78 yX8_isKey wsX8_isKey) := goodIn_app (goodIn_of _ (by decide +kernel)) ggX8_files_X8_isKey
set_option maxRecDepth 20000 in
theorem ggX8_files_X8_isWeight : GoodIn wsX8_files wsX8_isWeight := goodIn_r _ [11, 6, 7, 4, 8] (by decide +kernel) (by decide +kernel)
set_option maxRecDepth 20000 in
theorem gX8_files_X8_isWeight : GoodIn wsX8_files (va_wsS RX8 82 yX8_isWeight wsX8_isWeight) := goodIn_app (goodIn_of _ (by decide +kernel)) ggX8_files_X8_isWeight
set_option maxRecDepth 20000 in
theorem ggX8_files_X8_in : GoodIn wsX8_files wsX8_in := goodIn_r _ [8] (by decide +kernel) (by decide +kernel)
set_option maxRecDepth 20000 in
theorem gX8_files_X8_in : GoodIn wsX8_files (va_wsS RX8 64 yX8_in wsX8_in) := goodIn_app (goodIn_of _ (by decide +kernel)) ggX8_files_X8_in
set_option maxRecDepth 20000 in
theorem ggX8_files_X8_refuses : GoodIn wsX8_files wsX8_refuses := goodIn_r _ [15, 16, 17, 18, 40, 41, 42, 43, 44, 45, 46, 47, 48, 49, 50, 51, 52, 53, 54, 55, 56, 57, 58, 59, 60, 61] (by decide +kernel) (by decide +kernel)
set_option maxRecDepth 20000 in
theorem gX8_files_X8_refuses : GoodIn wsX8_files (wsV RX8 85 RX8 yX8_refuses wsX8_refuses) := goodIn_app (goodIn_of _ (by decide +kernel)) ggX8_files_X8_refuses
set_option maxRecDepth 20000 in
theorem ggX8_files_X8_find : GoodIn wsX8_files wsX8_find := goodIn_ca (goodIn_r _ [22, 1, 23, 24, 25, 4, 26, 27, 28, 29, 30, 40, 41, 42, 43, 44, 45, 46, 47, 48, 49, 50, 51, 52, 53, 54, 55, 56, 57, 58, 59, 60, 61] (by decide +kernel) (by decide +kernel)) (goodIn_sub (fun _ h => List.mem_cons_of_mem _ (List.mem_append_right _ h)) (by decide +kernel))
set_option maxRecDepth 20000 in
theorem gX8_files_X8_find : GoodIn wsX8_files (wsV RX8 89 RX8 yX8_find wsX8_find) := goodIn_app (goodIn_of _ (by decide +kernel)) ggX8_files_X8_find
set_option maxRecDepth 20000 in
theorem ggX8_files_X8_tosses : GoodIn wsX8_files wsX8_tosses := goodIn_ca (goodIn_r _ [34, 1, 40, 41, 42, 43, 44, 45, 46, 47, 48, 49, 50, 51, 52, 53, 54, 55, 56, 57, 58, 59, 60, 61] (by decide +kernel) (by decide +kernel)) (goodIn_sub (fun _ h => List.mem_cons_of_mem _ (List.mem_append_right _ h)) (by decide +kernel))
set_option maxRecDepth 20000 in
theorem gX8_files_X8_tosses : GoodIn wsX8_files (wsV RX8 92 RX8 yX8_tosses wsX8_tosses) := goodIn_app (goodIn_of _ (by decide +kernel)) ggX8_files_X8_tosses
set_option maxRecDepth 20000 in
theorem ggX8_files_X8_lower : GoodIn wsX8_files wsX8_lower := goodIn_ca (goodIn_r _ [26, 1, 27, 28, 29, 4, 30, 40, 41, 42, 43, 44, 45, 46, 47, 48, 49, 50, 51, 52, 53, 54, 55, 56, 57, 58, 59, 60, 61] (by decide +kernel) (by decide +kernel)) (goodIn_sub (fun _ h => List.mem_cons_of_mem _ (List.mem_append_right _ h)) (by decide +kernel))
set_option maxRecDepth 20000 in
theorem gX8_files_X8_lower : GoodIn wsX8_files (wsV RX8 71 RX8 yX8_lower wsX8_lower) := goodIn_app (goodIn_of _ (by decide +kernel)) ggX8_files_X8_lower
set_option maxRecDepth 20000 in
theorem ggX8_files_X8_does : GoodIn wsX8_files wsX8_does := goodIn_r _ [38, 39, 40, 41, 42, 43, 44, 45, 46, 47, 48, 49, 50, 51, 52, 53, 54, 55, 56, 57, 58, 59, 60, 61] (by decide +kernel) (by decide +kernel)
set_option maxRecDepth 20000 in
theorem gX8_files_X8_does : GoodIn wsX8_files (wsV RX8 96 RX8 yX8_does wsX8_does) := goodIn_app (goodIn_of _ (by decide +kernel)) ggX8_files_X8_does
theorem dX8_files_0 : decode cX8_files 0 = .ok (.iload_n 1, 1) := by decide +kernel
theorem dX8_files_1 : decode cX8_files 1 = .ok (.invokestatic 78, 3) := by decide +kernel
theorem dX8_files_4 : decode cX8_files 4 = .ok (.ifCond .eq 24, 3) := by decide +kernel
theorem dX8_files_7 : decode cX8_files 7 = .ok (.iload_n 2, 1) := by decide +kernel
theorem dX8_files_8 : decode cX8_files 8 = .ok (.invokestatic 82, 3) := by decide +kernel
theorem dX8_files_11 : decode cX8_files 11 = .ok (.ifCond .eq 17, 3) := by decide +kernel
theorem dX8_files_14 : decode cX8_files 14 = .ok (.iload 4, 2) := by decide +kernel
theorem dX8_files_16 : decode cX8_files 16 = .ok (.ifCond .eq 19, 3) := by decide +kernel
theorem dX8_files_19 : decode cX8_files 19 = .ok (.iload_n 3, 1) := by decide +kernel
theorem dX8_files_20 : decode cX8_files 20 = .ok (.iconst 1, 1) := by decide +kernel
theorem dX8_files_21 : decode cX8_files 21 = .ok (.iconst 5, 1) := by decide +kernel
theorem dX8_files_22 : decode cX8_files 22 = .ok (.invokestatic 64, 3) := by decide +kernel
theorem dX8_files_25 : decode cX8_files 25 = .ok (.ifCond .ne 10, 3) := by decide +kernel
theorem dX8_files_28 : decode cX8_files 28 = .ok (.aload_n 0, 1) := by decide +kernel
theorem dX8_files_29 : decode cX8_files 29 = .ok (.iconst 1, 1) := by decide +kernel
theorem dX8_files_30 : decode cX8_files 30 = .ok (.iconst 0, 1) := by decide +kernel
theorem dX8_files_31 : decode cX8_files 31 = .ok (.invokevirtual 85, 3) := by decide +kernel
theorem dX8_files_34 : decode cX8_files 34 = .ok (.ireturn, 1) := by decide +kernel
theorem dX8_files_35 : decode cX8_files 35 = .ok (.aload_n 0, 1) := by decide +kernel
theorem dX8_files_36 : decode cX8_files 36 = .ok (.iload_n 1, 1) := by decide +kernel
theorem dX8_files_37 : decode cX8_files 37 = .ok (.invokevirtual 89, 3) := by decide +kernel
theorem dX8_files_40 : decode cX8_files 40 = .ok (.ifCond .lt 14, 3) := by decide +kernel
theorem dX8_files_43 : decode cX8_files 43 = .ok (.aload_n 0, 1) := by decide +kernel
theorem dX8_files_44 : decode cX8_files 44 = .ok (.iconst 4, 1) := by decide +kernel
theorem dX8_files_45 : decode cX8_files 45 = .ok (.aload_n 0, 1) := by decide +kernel
theorem dX8_files_46 : decode cX8_files 46 = .ok (.iload_n 1, 1) := by decide +kernel
theorem dX8_files_47 : decode cX8_files 47 = .ok (.invokevirtual 89, 3) := by decide +kernel
theorem dX8_files_50 : decode cX8_files 50 = .ok (.invokevirtual 85, 3) := by decide +kernel
theorem dX8_files_53 : decode cX8_files 53 = .ok (.ireturn, 1) := by decide +kernel
theorem dX8_files_54 : decode cX8_files 54 = .ok (.aload_n 0, 1) := by decide +kernel
theorem dX8_files_55 : decode cX8_files 55 = .ok (.getfield 9, 3) := by decide +kernel
theorem dX8_files_58 : decode cX8_files 58 = .ok (.iconst 0, 1) := by decide +kernel
theorem dX8_files_59 : decode cX8_files 59 = .ok (.iaload, 1) := by decide +kernel
theorem dX8_files_60 : decode cX8_files 60 = .ok (.bipush 24, 2) := by decide +kernel
theorem dX8_files_62 : decode cX8_files 62 = .ok (.if_icmp .ne 11, 3) := by decide +kernel
theorem dX8_files_65 : decode cX8_files 65 = .ok (.aload_n 0, 1) := by decide +kernel
theorem dX8_files_66 : decode cX8_files 66 = .ok (.iconst 2, 1) := by decide +kernel
theorem dX8_files_67 : decode cX8_files 67 = .ok (.bipush 24, 2) := by decide +kernel
theorem dX8_files_69 : decode cX8_files 69 = .ok (.invokevirtual 85, 3) := by decide +kernel
theorem dX8_files_72 : decode cX8_files 72 = .ok (.ireturn, 1) := by decide +kernel
theorem dX8_files_73 : decode cX8_files 73 = .ok (.iload_n 3, 1) := by decide +kernel
theorem dX8_files_74 : decode cX8_files 74 = .ok (.istore 5, 2) := by decide +kernel
theorem dX8_files_76 : decode cX8_files 76 = .ok (.iload 4, 2) := by decide +kernel
theorem dX8_files_78 : decode cX8_files 78 = .ok (.ifCond .ne 25, 3) := by decide +kernel
theorem dX8_files_81 : decode cX8_files 81 = .ok (.iconst 1, 1) := by decide +kernel
theorem dX8_files_82 : decode cX8_files 82 = .ok (.istore 5, 2) := by decide +kernel
theorem dX8_files_84 : decode cX8_files 84 = .ok (.iload 5, 2) := by decide +kernel
theorem dX8_files_86 : decode cX8_files 86 = .ok (.iconst 5, 1) := by decide +kernel
theorem dX8_files_87 : decode cX8_files 87 = .ok (.if_icmp .ge 16, 3) := by decide +kernel
theorem dX8_files_90 : decode cX8_files 90 = .ok (.aload_n 0, 1) := by decide +kernel
theorem dX8_files_91 : decode cX8_files 91 = .ok (.invokevirtual 92, 3) := by decide +kernel
theorem dX8_files_94 : decode cX8_files 94 = .ok (.ifCond .eq 9, 3) := by decide +kernel
theorem dX8_files_97 : decode cX8_files 97 = .ok (.iinc 5 1, 3) := by decide +kernel
theorem dX8_files_100 : decode cX8_files 100 = .ok (.goto (-16), 3) := by decide +kernel
theorem dX8_files_103 : decode cX8_files 103 = .ok (.aload_n 0, 1) := by decide +kernel
theorem dX8_files_104 : decode cX8_files 104 = .ok (.iload_n 1, 1) := by decide +kernel
theorem dX8_files_105 : decode cX8_files 105 = .ok (.iconst 0, 1) := by decide +kernel
theorem dX8_files_106 : decode cX8_files 106 = .ok (.invokevirtual 71, 3) := by decide +kernel
theorem dX8_files_109 : decode cX8_files 109 = .ok (.istore 6, 2) := by decide +kernel
theorem dX8_files_111 : decode cX8_files 111 = .ok (.iconst 5, 1) := by decide +kernel
theorem dX8_files_112 : decode cX8_files 112 = .ok (.iconst 3, 1) := by decide +kernel
theorem dX8_files_113 : decode cX8_files 113 = .ok (.aload_n 0, 1) := by decide +kernel
theorem dX8_files_114 : decode cX8_files 114 = .ok (.getfield 9, 3) := by decide +kernel
theorem dX8_files_117 : decode cX8_files 117 = .ok (.iconst 0, 1) := by decide +kernel
theorem dX8_files_118 : decode cX8_files 118 = .ok (.iaload, 1) := by decide +kernel
theorem dX8_files_119 : decode cX8_files 119 = .ok (.imul, 1) := by decide +kernel
theorem dX8_files_120 : decode cX8_files 120 = .ok (.iadd, 1) := by decide +kernel
theorem dX8_files_121 : decode cX8_files 121 = .ok (.iconst 1, 1) := by decide +kernel
theorem dX8_files_122 : decode cX8_files 122 = .ok (.isub, 1) := by decide +kernel
theorem dX8_files_123 : decode cX8_files 123 = .ok (.istore 7, 2) := by decide +kernel
theorem dX8_files_125 : decode cX8_files 125 = .ok (.iload 7, 2) := by decide +kernel
theorem dX8_files_127 : decode cX8_files 127 = .ok (.iconst 5, 1) := by decide +kernel
theorem dX8_files_128 : decode cX8_files 128 = .ok (.iconst 3, 1) := by decide +kernel
theorem dX8_files_129 : decode cX8_files 129 = .ok (.iload 6, 2) := by decide +kernel
theorem dX8_files_131 : decode cX8_files 131 = .ok (.imul, 1) := by decide +kernel
theorem dX8_files_132 : decode cX8_files 132 = .ok (.iadd, 1) := by decide +kernel
theorem dX8_files_133 : decode cX8_files 133 = .ok (.if_icmp .lt 25, 3) := by decide +kernel
theorem dX8_files_136 : decode cX8_files 136 = .ok (.aload_n 0, 1) := by decide +kernel
theorem dX8_files_137 : decode cX8_files 137 = .ok (.getfield 9, 3) := by decide +kernel
theorem dX8_files_140 : decode cX8_files 140 = .ok (.iload 7, 2) := by decide +kernel
theorem dX8_files_142 : decode cX8_files 142 = .ok (.iconst 3, 1) := by decide +kernel
theorem dX8_files_143 : decode cX8_files 143 = .ok (.iadd, 1) := by decide +kernel
theorem dX8_files_144 : decode cX8_files 144 = .ok (.aload_n 0, 1) := by decide +kernel
theorem dX8_files_145 : decode cX8_files 145 = .ok (.getfield 9, 3) := by decide +kernel
theorem dX8_files_148 : decode cX8_files 148 = .ok (.iload 7, 2) := by decide +kernel
theorem dX8_files_150 : decode cX8_files 150 = .ok (.iaload, 1) := by decide +kernel
theorem dX8_files_151 : decode cX8_files 151 = .ok (.iastore, 1) := by decide +kernel
theorem dX8_files_152 : decode cX8_files 152 = .ok (.iinc 7 (-1), 3) := by decide +kernel
theorem dX8_files_155 : decode cX8_files 155 = .ok (.goto (-30), 3) := by decide +kernel
theorem dX8_files_158 : decode cX8_files 158 = .ok (.aload_n 0, 1) := by decide +kernel
theorem dX8_files_159 : decode cX8_files 159 = .ok (.getfield 9, 3) := by decide +kernel
theorem dX8_files_162 : decode cX8_files 162 = .ok (.iconst 0, 1) := by decide +kernel
theorem dX8_files_163 : decode cX8_files 163 = .ok (.dup2, 1) := by decide +kernel
theorem dX8_files_164 : decode cX8_files 164 = .ok (.iaload, 1) := by decide +kernel
theorem dX8_files_165 : decode cX8_files 165 = .ok (.iconst 1, 1) := by decide +kernel
theorem dX8_files_166 : decode cX8_files 166 = .ok (.iadd, 1) := by decide +kernel
theorem dX8_files_167 : decode cX8_files 167 = .ok (.iastore, 1) := by decide +kernel
theorem dX8_files_168 : decode cX8_files 168 = .ok (.aload_n 0, 1) := by decide +kernel
theorem dX8_files_169 : decode cX8_files 169 = .ok (.getfield 9, 3) := by decide +kernel
theorem dX8_files_172 : decode cX8_files 172 = .ok (.iconst 5, 1) := by decide +kernel
theorem dX8_files_173 : decode cX8_files 173 = .ok (.iconst 3, 1) := by decide +kernel
theorem dX8_files_174 : decode cX8_files 174 = .ok (.iload 6, 2) := by decide +kernel
theorem dX8_files_176 : decode cX8_files 176 = .ok (.imul, 1) := by decide +kernel
theorem dX8_files_177 : decode cX8_files 177 = .ok (.iadd, 1) := by decide +kernel
theorem dX8_files_178 : decode cX8_files 178 = .ok (.iload_n 1, 1) := by decide +kernel
theorem dX8_files_179 : decode cX8_files 179 = .ok (.iastore, 1) := by decide +kernel
theorem dX8_files_180 : decode cX8_files 180 = .ok (.aload_n 0, 1) := by decide +kernel
theorem dX8_files_181 : decode cX8_files 181 = .ok (.getfield 9, 3) := by decide +kernel
theorem dX8_files_184 : decode cX8_files 184 = .ok (.iconst 5, 1) := by decide +kernel
theorem dX8_files_185 : decode cX8_files 185 = .ok (.iconst 3, 1) := by decide +kernel
theorem dX8_files_186 : decode cX8_files 186 = .ok (.iload 6, 2) := by decide +kernel
theorem dX8_files_188 : decode cX8_files 188 = .ok (.imul, 1) := by decide +kernel
theorem dX8_files_189 : decode cX8_files 189 = .ok (.iadd, 1) := by decide +kernel
theorem dX8_files_190 : decode cX8_files 190 = .ok (.iconst 1, 1) := by decide +kernel
theorem dX8_files_191 : decode cX8_files 191 = .ok (.iadd, 1) := by decide +kernel
theorem dX8_files_192 : decode cX8_files 192 = .ok (.iload_n 2, 1) := by decide +kernel
theorem dX8_files_193 : decode cX8_files 193 = .ok (.iastore, 1) := by decide +kernel
theorem dX8_files_194 : decode cX8_files 194 = .ok (.aload_n 0, 1) := by decide +kernel
theorem dX8_files_195 : decode cX8_files 195 = .ok (.getfield 9, 3) := by decide +kernel
theorem dX8_files_198 : decode cX8_files 198 = .ok (.iconst 5, 1) := by decide +kernel
theorem dX8_files_199 : decode cX8_files 199 = .ok (.iconst 3, 1) := by decide +kernel
theorem dX8_files_200 : decode cX8_files 200 = .ok (.iload 6, 2) := by decide +kernel
theorem dX8_files_202 : decode cX8_files 202 = .ok (.imul, 1) := by decide +kernel
theorem dX8_files_203 : decode cX8_files 203 = .ok (.iadd, 1) := by decide +kernel
theorem dX8_files_204 : decode cX8_files 204 = .ok (.iconst 2, 1) := by decide +kernel
theorem dX8_files_205 : decode cX8_files 205 = .ok (.iadd, 1) := by decide +kernel
theorem dX8_files_206 : decode cX8_files 206 = .ok (.iload 5, 2) := by decide +kernel
theorem dX8_files_208 : decode cX8_files 208 = .ok (.iastore, 1) := by decide +kernel
theorem dX8_files_209 : decode cX8_files 209 = .ok (.aload_n 0, 1) := by decide +kernel
theorem dX8_files_210 : decode cX8_files 210 = .ok (.iload 4, 2) := by decide +kernel
theorem dX8_files_212 : decode cX8_files 212 = .ok (.ifCond .eq 8, 3) := by decide +kernel
theorem dX8_files_215 : decode cX8_files 215 = .ok (.iload 6, 2) := by decide +kernel
theorem dX8_files_217 : decode cX8_files 217 = .ok (.goto 5, 3) := by decide +kernel
theorem dX8_files_220 : decode cX8_files 220 = .ok (.iload 5, 2) := by decide +kernel
theorem dX8_files_222 : decode cX8_files 222 = .ok (.invokevirtual 96, 3) := by decide +kernel
theorem dX8_files_225 : decode cX8_files 225 = .ok (.ireturn, 1) := by decide +kernel
set_option maxRecDepth 20000 in
theorem ggX8_file_X8_tries : GoodIn wsX8_file wsX8_tries := goodIn_ca (goodIn_r _ [5, 6, 7, 8, 64, 65, 66, 67, 68, 69, 70, 71, 72, 73, 74, 75, 76, 77, 78, 79, 80, 81, 82, 83, 84, 85] (by decide +kernel) (by decide +kernel)) (goodIn_sub (fun _ h => List.mem_cons_of_mem _ (List.mem_append_right _ h)) (by decide +kernel))
set_option maxRecDepth 20000 in
theorem gX8_file_X8_tries : GoodIn wsX8_file (wsV RX8 99 RX8 yX8_tries wsX8_tries) := goodIn_app (goodIn_of _ (by decide +kernel)) ggX8_file_X8_tries
set_option maxRecDepth 20000 in
theorem ggX8_file_X8_files : GoodIn wsX8_file wsX8_files := goodIn_ca (goodIn_r _ [12, 8, 13, 14, 4, 15, 16, 17, 18, 19, 20, 21, 22, 23, 24, 25, 26, 27, 28, 29, 30, 31, 32, 33, 34, 35, 36, 37, 38, 39, 40, 41, 42, 43, 44, 45, 46, 47, 48, 49, 64, 65, 66, 67, 68, 69, 70, 71, 72, 73, 74, 75, 76, 77, 78, 79, 80, 81, 82, 83, 84, 85] (by decide +kernel) (by decide +kernel)) (goodIn_sub (fun _ h => List.mem_cons_of_mem _ (List.mem_append_right _ h)) (by decide +kernel))
set_option maxRecDepth 20000 in
theorem gX8_file_X8_files : GoodIn wsX8_file (wsV RX8 102 RX8 yX8_files wsX8_files) := goodIn_app (goodIn_of _ (by decide +kernel)) ggX8_file_X8_files
set_option maxRecDepth 20000 in
theorem ggX8_file_X8_ends : GoodIn wsX8_file wsX8_ends := goodIn_ca (goodIn_r _ [53, 49, 54, 55, 56, 4, 57, 58, 59, 7, 60, 61, 62, 63, 6, 64, 65, 66, 67, 68, 69, 70, 71, 72, 73, 74, 75, 76, 77, 78, 79, 80, 81, 82, 83, 84, 85] (by decide +kernel) (by decide +kernel)) (goodIn_sub (fun _ h => List.mem_cons_of_mem _ (List.mem_append_right _ h)) (by decide +kernel))
set_option maxRecDepth 20000 in
theorem gX8_file_X8_ends : GoodIn wsX8_file (wsV RX8 106 RX8 yX8_ends wsX8_ends) := goodIn_app (goodIn_of _ (by decide +kernel)) ggX8_file_X8_ends
theorem dX8_file_0 : decode cX8_file 0 = .ok (.aload_n 0, 1) := by decide +kernel
theorem dX8_file_1 : decode cX8_file 1 = .ok (.invokevirtual 99, 3) := by decide +kernel
theorem dX8_file_4 : decode cX8_file 4 = .ok (.aload_n 0, 1) := by decide +kernel
theorem dX8_file_5 : decode cX8_file 5 = .ok (.aload_n 0, 1) := by decide +kernel
theorem dX8_file_6 : decode cX8_file 6 = .ok (.iload_n 1, 1) := by decide +kernel
theorem dX8_file_7 : decode cX8_file 7 = .ok (.iload_n 2, 1) := by decide +kernel
theorem dX8_file_8 : decode cX8_file 8 = .ok (.iconst 0, 1) := by decide +kernel
theorem dX8_file_9 : decode cX8_file 9 = .ok (.iconst 0, 1) := by decide +kernel
theorem dX8_file_10 : decode cX8_file 10 = .ok (.invokevirtual 102, 3) := by decide +kernel
theorem dX8_file_13 : decode cX8_file 13 = .ok (.invokevirtual 106, 3) := by decide +kernel
theorem dX8_file_16 : decode cX8_file 16 = .ok (.ireturn, 1) := by decide +kernel
set_option maxRecDepth 20000 in
theorem ggX8_fileTall_X8_tries : GoodIn wsX8_fileTall wsX8_tries := goodIn_ca (goodIn_r _ [5, 6, 7, 8, 64, 65, 66, 67, 68, 69, 70, 71, 72, 73, 74, 75, 76, 77, 78, 79, 80, 81, 82, 83, 84, 85] (by decide +kernel) (by decide +kernel)) (goodIn_sub (fun _ h => List.mem_cons_of_mem _ (List.mem_append_right _ h)) (by decide +kernel))
set_option maxRecDepth 20000 in
theorem gX8_fileTall_X8_tries : GoodIn wsX8_fileTall (wsV RX8 99 RX8 yX8_tries wsX8_tries) := goodIn_app (goodIn_of _ (by decide +kernel)) ggX8_fileTall_X8_tries
set_option maxRecDepth 20000 in
theorem ggX8_fileTall_X8_files : GoodIn wsX8_fileTall wsX8_files := goodIn_ca (goodIn_r _ [12, 8, 13, 14, 4, 15, 16, 17, 18, 19, 20, 21, 22, 23, 24, 25, 26, 27, 28, 29, 30, 31, 32, 33, 34, 35, 36, 37, 38, 39, 40, 41, 42, 43, 44, 45, 46, 47, 48, 49, 64, 65, 66, 67, 68, 69, 70, 71, 72, 73, 74, 75, 76, 77, 78, 79, 80, 81, 82, 83, 84, 85] (by decide +kernel) (by decide +kernel)) (goodIn_sub (fun _ h => List.mem_cons_of_mem _ (List.mem_append_right _ h)) (by decide +kernel))
set_option maxRecDepth 20000 in
theorem gX8_fileTall_X8_files : GoodIn wsX8_fileTall (wsV RX8 102 RX8 yX8_files wsX8_files) := goodIn_app (goodIn_of _ (by decide +kernel)) ggX8_fileTall_X8_files
set_option maxRecDepth 20000 in
theorem ggX8_fileTall_X8_ends : GoodIn wsX8_fileTall wsX8_ends := goodIn_ca (goodIn_r _ [53, 49, 54, 55, 56, 4, 57, 58, 59, 7, 60, 61, 62, 63, 6, 64, 65, 66, 67, 68, 69, 70, 71, 72, 73, 74, 75, 76, 77, 78, 79, 80, 81, 82, 83, 84, 85] (by decide +kernel) (by decide +kernel)) (goodIn_sub (fun _ h => List.mem_cons_of_mem _ (List.mem_append_right _ h)) (by decide +kernel))
set_option maxRecDepth 20000 in
theorem gX8_fileTall_X8_ends : GoodIn wsX8_fileTall (wsV RX8 106 RX8 yX8_ends wsX8_ends) := goodIn_app (goodIn_of _ (by decide +kernel)) ggX8_fileTall_X8_ends
theorem dX8_fileTall_0 : decode cX8_fileTall 0 = .ok (.aload_n 0, 1) := by decide +kernel
theorem dX8_fileTall_1 : decode cX8_fileTall 1 = .ok (.invokevirtual 99, 3) := by decide +kernel
theorem dX8_fileTall_4 : decode cX8_fileTall 4 = .ok (.aload_n 0, 1) := by decide +kernel
theorem dX8_fileTall_5 : decode cX8_fileTall 5 = .ok (.aload_n 0, 1) := by decide +kernel
theorem dX8_fileTall_6 : decode cX8_fileTall 6 = .ok (.iload_n 1, 1) := by decide +kernel
theorem dX8_fileTall_7 : decode cX8_fileTall 7 = .ok (.iload_n 2, 1) := by decide +kernel
theorem dX8_fileTall_8 : decode cX8_fileTall 8 = .ok (.iload_n 3, 1) := by decide +kernel
theorem dX8_fileTall_9 : decode cX8_fileTall 9 = .ok (.iconst 1, 1) := by decide +kernel
theorem dX8_fileTall_10 : decode cX8_fileTall 10 = .ok (.invokevirtual 102, 3) := by decide +kernel
theorem dX8_fileTall_13 : decode cX8_fileTall 13 = .ok (.invokevirtual 106, 3) := by decide +kernel
theorem dX8_fileTall_16 : decode cX8_fileTall 16 = .ok (.ireturn, 1) := by decide +kernel
set_option maxRecDepth 20000 in
theorem ggX8_isThere_X8_isKey : GoodIn wsX8_isThere wsX8_isKey := goodIn_r _ [4, 5, 6, 3, 7] (by decide +kernel) (by decide +kernel)
set_option maxRecDepth 20000 in
theorem gX8_isThere_X8_isKey : GoodIn wsX8_isThere (va_wsS RX8 78 yX8_isKey wsX8_isKey) := goodIn_app (goodIn_of _ (by decide +kernel)) ggX8_isThere_X8_isKey
set_option maxRecDepth 20000 in
theorem ggX8_isThere_X8_refuses : GoodIn wsX8_isThere wsX8_refuses := goodIn_r _ [11, 12, 13, 14, 28, 29, 30, 31, 32, 33, 34, 35, 36, 37, 38, 39, 40, 41, 42, 43, 44, 45, 46, 47, 48, 49] (by decide +kernel) (by decide +kernel)
set_option maxRecDepth 20000 in
theorem gX8_isThere_X8_refuses : GoodIn wsX8_isThere (wsV RX8 85 RX8 yX8_refuses wsX8_refuses) := goodIn_app (goodIn_of _ (by decide +kernel)) ggX8_isThere_X8_refuses
set_option maxRecDepth 20000 in
theorem ggX8_isThere_X8_find : GoodIn wsX8_isThere wsX8_find := goodIn_ca (goodIn_r _ [18, 19, 20, 21, 22, 3, 23, 24, 25, 26, 27, 28, 29, 30, 31, 32, 33, 34, 35, 36, 37, 38, 39, 40, 41, 42, 43, 44, 45, 46, 47, 48, 49] (by decide +kernel) (by decide +kernel)) (goodIn_sub (fun _ h => List.mem_cons_of_mem _ (List.mem_append_right _ h)) (by decide +kernel))
set_option maxRecDepth 20000 in
theorem gX8_isThere_X8_find : GoodIn wsX8_isThere (wsV RX8 89 RX8 yX8_find wsX8_find) := goodIn_app (goodIn_of _ (by decide +kernel)) ggX8_isThere_X8_find
theorem dX8_isThere_0 : decode cX8_isThere 0 = .ok (.iload_n 1, 1) := by decide +kernel
theorem dX8_isThere_1 : decode cX8_isThere 1 = .ok (.invokestatic 78, 3) := by decide +kernel
theorem dX8_isThere_4 : decode cX8_isThere 4 = .ok (.ifCond .ne 10, 3) := by decide +kernel
theorem dX8_isThere_7 : decode cX8_isThere 7 = .ok (.aload_n 0, 1) := by decide +kernel
theorem dX8_isThere_8 : decode cX8_isThere 8 = .ok (.iconst 1, 1) := by decide +kernel
theorem dX8_isThere_9 : decode cX8_isThere 9 = .ok (.iconst 0, 1) := by decide +kernel
theorem dX8_isThere_10 : decode cX8_isThere 10 = .ok (.invokevirtual 85, 3) := by decide +kernel
theorem dX8_isThere_13 : decode cX8_isThere 13 = .ok (.ireturn, 1) := by decide +kernel
theorem dX8_isThere_14 : decode cX8_isThere 14 = .ok (.aload_n 0, 1) := by decide +kernel
theorem dX8_isThere_15 : decode cX8_isThere 15 = .ok (.iload_n 1, 1) := by decide +kernel
theorem dX8_isThere_16 : decode cX8_isThere 16 = .ok (.invokevirtual 89, 3) := by decide +kernel
theorem dX8_isThere_19 : decode cX8_isThere 19 = .ok (.ifCond .ge 12, 3) := by decide +kernel
theorem dX8_isThere_22 : decode cX8_isThere 22 = .ok (.aload_n 0, 1) := by decide +kernel
theorem dX8_isThere_23 : decode cX8_isThere 23 = .ok (.iconst 3, 1) := by decide +kernel
theorem dX8_isThere_24 : decode cX8_isThere 24 = .ok (.iload_n 1, 1) := by decide +kernel
theorem dX8_isThere_25 : decode cX8_isThere 25 = .ok (.invokevirtual 85, 3) := by decide +kernel
theorem dX8_isThere_28 : decode cX8_isThere 28 = .ok (.ifCond .eq 7, 3) := by decide +kernel
theorem dX8_isThere_31 : decode cX8_isThere 31 = .ok (.iconst 1, 1) := by decide +kernel
theorem dX8_isThere_32 : decode cX8_isThere 32 = .ok (.goto 4, 3) := by decide +kernel
theorem dX8_isThere_35 : decode cX8_isThere 35 = .ok (.iconst 0, 1) := by decide +kernel
theorem dX8_isThere_36 : decode cX8_isThere 36 = .ok (.ireturn, 1) := by decide +kernel
set_option maxRecDepth 20000 in
theorem ggX8_drops_X8_isThere : GoodIn wsX8_drops wsX8_isThere := goodIn_ca (goodIn_r _ [6, 7, 8, 5, 9, 10, 11, 12, 13, 14, 15, 16, 17, 18, 19, 20, 21, 22, 23, 1, 24, 25, 26, 27, 28, 29, 30, 31, 37, 38, 39, 40, 41, 42, 43, 44, 45, 46, 47, 48, 49, 50, 51, 52, 53, 54, 55, 56, 57, 58] (by decide +kernel) (by decide +kernel)) (goodIn_sub (fun _ h => List.mem_cons_of_mem _ (List.mem_append_right _ h)) (by decide +kernel))
set_option maxRecDepth 20000 in
theorem gX8_drops_X8_isThere : GoodIn wsX8_drops (wsV RX8 110 RX8 yX8_isThere wsX8_isThere) := goodIn_app (goodIn_of _ (by decide +kernel)) ggX8_drops_X8_isThere
set_option maxRecDepth 20000 in
theorem ggX8_drops_X8_find : GoodIn wsX8_drops wsX8_find := goodIn_ca (goodIn_r _ [23, 1, 24, 25, 26, 5, 27, 28, 29, 30, 31, 37, 38, 39, 40, 41, 42, 43, 44, 45, 46, 47, 48, 49, 50, 51, 52, 53, 54, 55, 56, 57, 58] (by decide +kernel) (by decide +kernel)) (goodIn_sub (fun _ h => List.mem_cons_of_mem _ (List.mem_append_right _ h)) (by decide +kernel))
set_option maxRecDepth 20000 in
theorem gX8_drops_X8_find : GoodIn wsX8_drops (wsV RX8 89 RX8 yX8_find wsX8_find) := goodIn_app (goodIn_of _ (by decide +kernel)) ggX8_drops_X8_find
set_option maxRecDepth 20000 in
theorem ggX8_drops_X8_does : GoodIn wsX8_drops wsX8_does := goodIn_r _ [35, 36, 37, 38, 39, 40, 41, 42, 43, 44, 45, 46, 47, 48, 49, 50, 51, 52, 53, 54, 55, 56, 57, 58] (by decide +kernel) (by decide +kernel)
set_option maxRecDepth 20000 in
theorem gX8_drops_X8_does : GoodIn wsX8_drops (wsV RX8 96 RX8 yX8_does wsX8_does) := goodIn_app (goodIn_of _ (by decide +kernel)) ggX8_drops_X8_does
theorem dX8_drops_0 : decode cX8_drops 0 = .ok (.aload_n 0, 1) := by decide +kernel
theorem dX8_drops_1 : decode cX8_drops 1 = .ok (.iload_n 1, 1) := by decide +kernel
theorem dX8_drops_2 : decode cX8_drops 2 = .ok (.invokevirtual 110, 3) := by decide +kernel
theorem dX8_drops_5 : decode cX8_drops 5 = .ok (.ifCond .ne 5, 3) := by decide +kernel
theorem dX8_drops_8 : decode cX8_drops 8 = .ok (.iconst 0, 1) := by decide +kernel
theorem dX8_drops_9 : decode cX8_drops 9 = .ok (.ireturn, 1) := by decide +kernel
theorem dX8_drops_10 : decode cX8_drops 10 = .ok (.aload_n 0, 1) := by decide +kernel
theorem dX8_drops_11 : decode cX8_drops 11 = .ok (.iload_n 1, 1) := by decide +kernel
theorem dX8_drops_12 : decode cX8_drops 12 = .ok (.invokevirtual 89, 3) := by decide +kernel
theorem dX8_drops_15 : decode cX8_drops 15 = .ok (.istore_n 2, 1) := by decide +kernel
theorem dX8_drops_16 : decode cX8_drops 16 = .ok (.aload_n 0, 1) := by decide +kernel
theorem dX8_drops_17 : decode cX8_drops 17 = .ok (.getfield 9, 3) := by decide +kernel
theorem dX8_drops_20 : decode cX8_drops 20 = .ok (.iconst 0, 1) := by decide +kernel
theorem dX8_drops_21 : decode cX8_drops 21 = .ok (.dup2, 1) := by decide +kernel
theorem dX8_drops_22 : decode cX8_drops 22 = .ok (.iaload, 1) := by decide +kernel
theorem dX8_drops_23 : decode cX8_drops 23 = .ok (.iconst 1, 1) := by decide +kernel
theorem dX8_drops_24 : decode cX8_drops 24 = .ok (.isub, 1) := by decide +kernel
theorem dX8_drops_25 : decode cX8_drops 25 = .ok (.iastore, 1) := by decide +kernel
theorem dX8_drops_26 : decode cX8_drops 26 = .ok (.iconst 5, 1) := by decide +kernel
theorem dX8_drops_27 : decode cX8_drops 27 = .ok (.iconst 3, 1) := by decide +kernel
theorem dX8_drops_28 : decode cX8_drops 28 = .ok (.iload_n 2, 1) := by decide +kernel
theorem dX8_drops_29 : decode cX8_drops 29 = .ok (.imul, 1) := by decide +kernel
theorem dX8_drops_30 : decode cX8_drops 30 = .ok (.iadd, 1) := by decide +kernel
theorem dX8_drops_31 : decode cX8_drops 31 = .ok (.istore_n 3, 1) := by decide +kernel
theorem dX8_drops_32 : decode cX8_drops 32 = .ok (.iload_n 3, 1) := by decide +kernel
theorem dX8_drops_33 : decode cX8_drops 33 = .ok (.iconst 5, 1) := by decide +kernel
theorem dX8_drops_34 : decode cX8_drops 34 = .ok (.iconst 3, 1) := by decide +kernel
theorem dX8_drops_35 : decode cX8_drops 35 = .ok (.aload_n 0, 1) := by decide +kernel
theorem dX8_drops_36 : decode cX8_drops 36 = .ok (.getfield 9, 3) := by decide +kernel
theorem dX8_drops_39 : decode cX8_drops 39 = .ok (.iconst 0, 1) := by decide +kernel
theorem dX8_drops_40 : decode cX8_drops 40 = .ok (.iaload, 1) := by decide +kernel
theorem dX8_drops_41 : decode cX8_drops 41 = .ok (.imul, 1) := by decide +kernel
theorem dX8_drops_42 : decode cX8_drops 42 = .ok (.iadd, 1) := by decide +kernel
theorem dX8_drops_43 : decode cX8_drops 43 = .ok (.if_icmp .ge 23, 3) := by decide +kernel
theorem dX8_drops_46 : decode cX8_drops 46 = .ok (.aload_n 0, 1) := by decide +kernel
theorem dX8_drops_47 : decode cX8_drops 47 = .ok (.getfield 9, 3) := by decide +kernel
theorem dX8_drops_50 : decode cX8_drops 50 = .ok (.iload_n 3, 1) := by decide +kernel
theorem dX8_drops_51 : decode cX8_drops 51 = .ok (.aload_n 0, 1) := by decide +kernel
theorem dX8_drops_52 : decode cX8_drops 52 = .ok (.getfield 9, 3) := by decide +kernel
theorem dX8_drops_55 : decode cX8_drops 55 = .ok (.iload_n 3, 1) := by decide +kernel
theorem dX8_drops_56 : decode cX8_drops 56 = .ok (.iconst 3, 1) := by decide +kernel
theorem dX8_drops_57 : decode cX8_drops 57 = .ok (.iadd, 1) := by decide +kernel
theorem dX8_drops_58 : decode cX8_drops 58 = .ok (.iaload, 1) := by decide +kernel
theorem dX8_drops_59 : decode cX8_drops 59 = .ok (.iastore, 1) := by decide +kernel
theorem dX8_drops_60 : decode cX8_drops 60 = .ok (.iinc 3 1, 3) := by decide +kernel
theorem dX8_drops_63 : decode cX8_drops 63 = .ok (.goto (-31), 3) := by decide +kernel
theorem dX8_drops_66 : decode cX8_drops 66 = .ok (.aload_n 0, 1) := by decide +kernel
theorem dX8_drops_67 : decode cX8_drops 67 = .ok (.aload_n 0, 1) := by decide +kernel
theorem dX8_drops_68 : decode cX8_drops 68 = .ok (.getfield 9, 3) := by decide +kernel
theorem dX8_drops_71 : decode cX8_drops 71 = .ok (.iconst 0, 1) := by decide +kernel
theorem dX8_drops_72 : decode cX8_drops 72 = .ok (.iaload, 1) := by decide +kernel
theorem dX8_drops_73 : decode cX8_drops 73 = .ok (.invokevirtual 96, 3) := by decide +kernel
theorem dX8_drops_76 : decode cX8_drops 76 = .ok (.ireturn, 1) := by decide +kernel
set_option maxRecDepth 20000 in
theorem ggX8_drop_X8_tries : GoodIn wsX8_drop wsX8_tries := goodIn_ca (goodIn_r _ [5, 6, 7, 8, 61, 62, 63, 64, 65, 66, 67, 68, 69, 70, 71, 72, 73, 74, 75, 76, 77, 78, 79, 80, 81, 82] (by decide +kernel) (by decide +kernel)) (goodIn_sub (fun _ h => List.mem_cons_of_mem _ (List.mem_append_right _ h)) (by decide +kernel))
set_option maxRecDepth 20000 in
theorem gX8_drop_X8_tries : GoodIn wsX8_drop (wsV RX8 99 RX8 yX8_tries wsX8_tries) := goodIn_app (goodIn_of _ (by decide +kernel)) ggX8_drop_X8_tries
set_option maxRecDepth 20000 in
theorem ggX8_drop_X8_drops : GoodIn wsX8_drop wsX8_drops := goodIn_ca (goodIn_r _ [12, 8, 13, 14, 15, 4, 16, 17, 18, 19, 20, 21, 22, 23, 24, 25, 26, 27, 28, 29, 30, 31, 32, 33, 34, 35, 36, 37, 38, 39, 40, 41, 42, 43, 44, 45, 46, 61, 62, 63, 64, 65, 66, 67, 68, 69, 70, 71, 72, 73, 74, 75, 76, 77, 78, 79, 80, 81, 82] (by decide +kernel) (by decide +kernel)) (goodIn_sub (fun _ h => List.mem_cons_of_mem _ (List.mem_append_right _ h)) (by decide +kernel))
set_option maxRecDepth 20000 in
theorem gX8_drop_X8_drops : GoodIn wsX8_drop (wsV RX8 113 RX8 yX8_drops wsX8_drops) := goodIn_app (goodIn_of _ (by decide +kernel)) ggX8_drop_X8_drops
set_option maxRecDepth 20000 in
theorem ggX8_drop_X8_ends : GoodIn wsX8_drop wsX8_ends := goodIn_ca (goodIn_r _ [50, 46, 51, 52, 53, 4, 54, 55, 56, 7, 57, 58, 59, 60, 6, 61, 62, 63, 64, 65, 66, 67, 68, 69, 70, 71, 72, 73, 74, 75, 76, 77, 78, 79, 80, 81, 82] (by decide +kernel) (by decide +kernel)) (goodIn_sub (fun _ h => List.mem_cons_of_mem _ (List.mem_append_right _ h)) (by decide +kernel))
set_option maxRecDepth 20000 in
theorem gX8_drop_X8_ends : GoodIn wsX8_drop (wsV RX8 106 RX8 yX8_ends wsX8_ends) := goodIn_app (goodIn_of _ (by decide +kernel)) ggX8_drop_X8_ends
theorem dX8_drop_0 : decode cX8_drop 0 = .ok (.aload_n 0, 1) := by decide +kernel
theorem dX8_drop_1 : decode cX8_drop 1 = .ok (.invokevirtual 99, 3) := by decide +kernel
theorem dX8_drop_4 : decode cX8_drop 4 = .ok (.aload_n 0, 1) := by decide +kernel
theorem dX8_drop_5 : decode cX8_drop 5 = .ok (.aload_n 0, 1) := by decide +kernel
theorem dX8_drop_6 : decode cX8_drop 6 = .ok (.iload_n 1, 1) := by decide +kernel
theorem dX8_drop_7 : decode cX8_drop 7 = .ok (.invokevirtual 113, 3) := by decide +kernel
theorem dX8_drop_10 : decode cX8_drop 10 = .ok (.invokevirtual 106, 3) := by decide +kernel
theorem dX8_drop_13 : decode cX8_drop 13 = .ok (.ireturn, 1) := by decide +kernel
set_option maxRecDepth 20000 in
theorem ggX8_turns_X8_isThere : GoodIn wsX8_turns wsX8_isThere := goodIn_ca (goodIn_r _ [6, 7, 8, 5, 9, 10, 11, 12, 13, 14, 15, 16, 17, 18, 19, 20, 21, 22, 23, 1, 24, 25, 26, 27, 28, 29, 30, 31, 41, 42, 43, 44, 45, 46, 47, 48, 49, 50, 51, 52, 53, 54, 55, 56, 57, 58, 59, 60, 61, 62] (by decide +kernel) (by decide +kernel)) (goodIn_sub (fun _ h => List.mem_cons_of_mem _ (List.mem_append_right _ h)) (by decide +kernel))
set_option maxRecDepth 20000 in
theorem gX8_turns_X8_isThere : GoodIn wsX8_turns (wsV RX8 110 RX8 yX8_isThere wsX8_isThere) := goodIn_app (goodIn_of _ (by decide +kernel)) ggX8_turns_X8_isThere
set_option maxRecDepth 20000 in
theorem ggX8_turns_X8_find : GoodIn wsX8_turns wsX8_find := goodIn_ca (goodIn_r _ [23, 1, 24, 25, 26, 5, 27, 28, 29, 30, 31, 41, 42, 43, 44, 45, 46, 47, 48, 49, 50, 51, 52, 53, 54, 55, 56, 57, 58, 59, 60, 61, 62] (by decide +kernel) (by decide +kernel)) (goodIn_sub (fun _ h => List.mem_cons_of_mem _ (List.mem_append_right _ h)) (by decide +kernel))
set_option maxRecDepth 20000 in
theorem gX8_turns_X8_find : GoodIn wsX8_turns (wsV RX8 89 RX8 yX8_find wsX8_find) := goodIn_app (goodIn_of _ (by decide +kernel)) ggX8_turns_X8_find
set_option maxRecDepth 20000 in
theorem ggX8_turns_X8_rungs : GoodIn wsX8_turns wsX8_rungs := goodIn_ca (goodIn_r _ [35, 1, 41, 42, 43, 44, 45, 46, 47, 48, 49, 50, 51, 52, 53, 54, 55, 56, 57, 58, 59, 60, 61, 62] (by decide +kernel) (by decide +kernel)) (goodIn_sub (fun _ h => List.mem_cons_of_mem _ (List.mem_append_right _ h)) (by decide +kernel))
set_option maxRecDepth 20000 in
theorem gX8_turns_X8_rungs : GoodIn wsX8_turns (wsV RX8 75 RX8 yX8_rungs wsX8_rungs) := goodIn_app (goodIn_of _ (by decide +kernel)) ggX8_turns_X8_rungs
set_option maxRecDepth 20000 in
theorem ggX8_turns_X8_in : GoodIn wsX8_turns wsX8_in := goodIn_r _ [12] (by decide +kernel) (by decide +kernel)
set_option maxRecDepth 20000 in
theorem gX8_turns_X8_in : GoodIn wsX8_turns (va_wsS RX8 64 yX8_in wsX8_in) := goodIn_app (goodIn_of _ (by decide +kernel)) ggX8_turns_X8_in
set_option maxRecDepth 20000 in
theorem ggX8_turns_X8_refuses : GoodIn wsX8_turns wsX8_refuses := goodIn_r _ [16, 17, 18, 19, 41, 42, 43, 44, 45, 46, 47, 48, 49, 50, 51, 52, 53, 54, 55, 56, 57, 58, 59, 60, 61, 62] (by decide +kernel) (by decide +kernel)
set_option maxRecDepth 20000 in
theorem gX8_turns_X8_refuses : GoodIn wsX8_turns (wsV RX8 85 RX8 yX8_refuses wsX8_refuses) := goodIn_app (goodIn_of _ (by decide +kernel)) ggX8_turns_X8_refuses
set_option maxRecDepth 20000 in
theorem ggX8_turns_X8_does : GoodIn wsX8_turns wsX8_does := goodIn_r _ [39, 40, 41, 42, 43, 44, 45, 46, 47, 48, 49, 50, 51, 52, 53, 54, 55, 56, 57, 58, 59, 60, 61, 62] (by decide +kernel) (by decide +kernel)
set_option maxRecDepth 20000 in
theorem gX8_turns_X8_does : GoodIn wsX8_turns (wsV RX8 96 RX8 yX8_does wsX8_does) := goodIn_app (goodIn_of _ (by decide +kernel)) ggX8_turns_X8_does
theorem dX8_turns_0 : decode cX8_turns 0 = .ok (.aload_n 0, 1) := by decide +kernel
theorem dX8_turns_1 : decode cX8_turns 1 = .ok (.iload_n 1, 1) := by decide +kernel
theorem dX8_turns_2 : decode cX8_turns 2 = .ok (.invokevirtual 110, 3) := by decide +kernel
theorem dX8_turns_5 : decode cX8_turns 5 = .ok (.ifCond .ne 5, 3) := by decide +kernel
theorem dX8_turns_8 : decode cX8_turns 8 = .ok (.iconst 0, 1) := by decide +kernel
theorem dX8_turns_9 : decode cX8_turns 9 = .ok (.ireturn, 1) := by decide +kernel
theorem dX8_turns_10 : decode cX8_turns 10 = .ok (.aload_n 0, 1) := by decide +kernel
theorem dX8_turns_11 : decode cX8_turns 11 = .ok (.iload_n 1, 1) := by decide +kernel
theorem dX8_turns_12 : decode cX8_turns 12 = .ok (.invokevirtual 89, 3) := by decide +kernel
theorem dX8_turns_15 : decode cX8_turns 15 = .ok (.istore_n 3, 1) := by decide +kernel
theorem dX8_turns_16 : decode cX8_turns 16 = .ok (.aload_n 0, 1) := by decide +kernel
theorem dX8_turns_17 : decode cX8_turns 17 = .ok (.iload_n 3, 1) := by decide +kernel
theorem dX8_turns_18 : decode cX8_turns 18 = .ok (.invokevirtual 75, 3) := by decide +kernel
theorem dX8_turns_21 : decode cX8_turns 21 = .ok (.iload_n 2, 1) := by decide +kernel
theorem dX8_turns_22 : decode cX8_turns 22 = .ok (.iadd, 1) := by decide +kernel
theorem dX8_turns_23 : decode cX8_turns 23 = .ok (.istore 4, 2) := by decide +kernel
theorem dX8_turns_25 : decode cX8_turns 25 = .ok (.iload 4, 2) := by decide +kernel
theorem dX8_turns_27 : decode cX8_turns 27 = .ok (.iconst 1, 1) := by decide +kernel
theorem dX8_turns_28 : decode cX8_turns 28 = .ok (.iconst 5, 1) := by decide +kernel
theorem dX8_turns_29 : decode cX8_turns 29 = .ok (.invokestatic 64, 3) := by decide +kernel
theorem dX8_turns_32 : decode cX8_turns 32 = .ok (.ifCond .ne 14, 3) := by decide +kernel
theorem dX8_turns_35 : decode cX8_turns 35 = .ok (.aload_n 0, 1) := by decide +kernel
theorem dX8_turns_36 : decode cX8_turns 36 = .ok (.iconst 5, 1) := by decide +kernel
theorem dX8_turns_37 : decode cX8_turns 37 = .ok (.aload_n 0, 1) := by decide +kernel
theorem dX8_turns_38 : decode cX8_turns 38 = .ok (.iload_n 3, 1) := by decide +kernel
theorem dX8_turns_39 : decode cX8_turns 39 = .ok (.invokevirtual 75, 3) := by decide +kernel
theorem dX8_turns_42 : decode cX8_turns 42 = .ok (.invokevirtual 85, 3) := by decide +kernel
theorem dX8_turns_45 : decode cX8_turns 45 = .ok (.ireturn, 1) := by decide +kernel
theorem dX8_turns_46 : decode cX8_turns 46 = .ok (.aload_n 0, 1) := by decide +kernel
theorem dX8_turns_47 : decode cX8_turns 47 = .ok (.getfield 9, 3) := by decide +kernel
theorem dX8_turns_50 : decode cX8_turns 50 = .ok (.iconst 5, 1) := by decide +kernel
theorem dX8_turns_51 : decode cX8_turns 51 = .ok (.iconst 3, 1) := by decide +kernel
theorem dX8_turns_52 : decode cX8_turns 52 = .ok (.iload_n 3, 1) := by decide +kernel
theorem dX8_turns_53 : decode cX8_turns 53 = .ok (.imul, 1) := by decide +kernel
theorem dX8_turns_54 : decode cX8_turns 54 = .ok (.iadd, 1) := by decide +kernel
theorem dX8_turns_55 : decode cX8_turns 55 = .ok (.iconst 2, 1) := by decide +kernel
theorem dX8_turns_56 : decode cX8_turns 56 = .ok (.iadd, 1) := by decide +kernel
theorem dX8_turns_57 : decode cX8_turns 57 = .ok (.iload 4, 2) := by decide +kernel
theorem dX8_turns_59 : decode cX8_turns 59 = .ok (.iastore, 1) := by decide +kernel
theorem dX8_turns_60 : decode cX8_turns 60 = .ok (.aload_n 0, 1) := by decide +kernel
theorem dX8_turns_61 : decode cX8_turns 61 = .ok (.iload 4, 2) := by decide +kernel
theorem dX8_turns_63 : decode cX8_turns 63 = .ok (.invokevirtual 96, 3) := by decide +kernel
theorem dX8_turns_66 : decode cX8_turns 66 = .ok (.ireturn, 1) := by decide +kernel
set_option maxRecDepth 20000 in
theorem ggX8_raise_X8_tries : GoodIn wsX8_raise wsX8_tries := goodIn_ca (goodIn_r _ [5, 6, 7, 8, 65, 66, 67, 68, 69, 70, 71, 72, 73, 74, 75, 76, 77, 78, 79, 80, 81, 82, 83, 84, 85, 86] (by decide +kernel) (by decide +kernel)) (goodIn_sub (fun _ h => List.mem_cons_of_mem _ (List.mem_append_right _ h)) (by decide +kernel))
set_option maxRecDepth 20000 in
theorem gX8_raise_X8_tries : GoodIn wsX8_raise (wsV RX8 99 RX8 yX8_tries wsX8_tries) := goodIn_app (goodIn_of _ (by decide +kernel)) ggX8_raise_X8_tries
set_option maxRecDepth 20000 in
theorem ggX8_raise_X8_turns : GoodIn wsX8_raise wsX8_turns := goodIn_ca (goodIn_r _ [12, 8, 13, 14, 15, 4, 16, 17, 18, 19, 20, 21, 22, 23, 24, 25, 26, 27, 28, 29, 30, 31, 32, 33, 34, 35, 36, 37, 38, 39, 40, 41, 42, 43, 44, 45, 46, 47, 48, 49, 50, 65, 66, 67, 68, 69, 70, 71, 72, 73, 74, 75, 76, 77, 78, 79, 80, 81, 82, 83, 84, 85, 86] (by decide +kernel) (by decide +kernel)) (goodIn_sub (fun _ h => List.mem_cons_of_mem _ (List.mem_append_right _ h)) (by decide +kernel))
set_option maxRecDepth 20000 in
theorem gX8_raise_X8_turns : GoodIn wsX8_raise (wsV RX8 116 RX8 yX8_turns wsX8_turns) := goodIn_app (goodIn_of _ (by decide +kernel)) ggX8_raise_X8_turns
set_option maxRecDepth 20000 in
theorem ggX8_raise_X8_ends : GoodIn wsX8_raise wsX8_ends := goodIn_ca (goodIn_r _ [54, 50, 55, 56, 57, 4, 58, 59, 60, 7, 61, 62, 63, 64, 6, 65, 66, 67, 68, 69, 70, 71, 72, 73, 74, 75, 76, 77, 78, 79, 80, 81, 82, 83, 84, 85, 86] (by decide +kernel) (by decide +kernel)) (goodIn_sub (fun _ h => List.mem_cons_of_mem _ (List.mem_append_right _ h)) (by decide +kernel))
set_option maxRecDepth 20000 in
theorem gX8_raise_X8_ends : GoodIn wsX8_raise (wsV RX8 106 RX8 yX8_ends wsX8_ends) := goodIn_app (goodIn_of _ (by decide +kernel)) ggX8_raise_X8_ends
theorem dX8_raise_0 : decode cX8_raise 0 = .ok (.aload_n 0, 1) := by decide +kernel
theorem dX8_raise_1 : decode cX8_raise 1 = .ok (.invokevirtual 99, 3) := by decide +kernel
theorem dX8_raise_4 : decode cX8_raise 4 = .ok (.aload_n 0, 1) := by decide +kernel
theorem dX8_raise_5 : decode cX8_raise 5 = .ok (.aload_n 0, 1) := by decide +kernel
theorem dX8_raise_6 : decode cX8_raise 6 = .ok (.iload_n 1, 1) := by decide +kernel
theorem dX8_raise_7 : decode cX8_raise 7 = .ok (.iconst 1, 1) := by decide +kernel
theorem dX8_raise_8 : decode cX8_raise 8 = .ok (.invokevirtual 116, 3) := by decide +kernel
theorem dX8_raise_11 : decode cX8_raise 11 = .ok (.invokevirtual 106, 3) := by decide +kernel
theorem dX8_raise_14 : decode cX8_raise 14 = .ok (.ireturn, 1) := by decide +kernel
set_option maxRecDepth 20000 in
theorem ggX8_lower__X8_tries : GoodIn wsX8_lower_ wsX8_tries := goodIn_ca (goodIn_r _ [5, 6, 7, 8, 65, 66, 67, 68, 69, 70, 71, 72, 73, 74, 75, 76, 77, 78, 79, 80, 81, 82, 83, 84, 85, 86] (by decide +kernel) (by decide +kernel)) (goodIn_sub (fun _ h => List.mem_cons_of_mem _ (List.mem_append_right _ h)) (by decide +kernel))
set_option maxRecDepth 20000 in
theorem gX8_lower__X8_tries : GoodIn wsX8_lower_ (wsV RX8 99 RX8 yX8_tries wsX8_tries) := goodIn_app (goodIn_of _ (by decide +kernel)) ggX8_lower__X8_tries
set_option maxRecDepth 20000 in
theorem ggX8_lower__X8_turns : GoodIn wsX8_lower_ wsX8_turns := goodIn_ca (goodIn_r _ [12, 8, 13, 14, 15, 4, 16, 17, 18, 19, 20, 21, 22, 23, 24, 25, 26, 27, 28, 29, 30, 31, 32, 33, 34, 35, 36, 37, 38, 39, 40, 41, 42, 43, 44, 45, 46, 47, 48, 49, 50, 65, 66, 67, 68, 69, 70, 71, 72, 73, 74, 75, 76, 77, 78, 79, 80, 81, 82, 83, 84, 85, 86] (by decide +kernel) (by decide +kernel)) (goodIn_sub (fun _ h => List.mem_cons_of_mem _ (List.mem_append_right _ h)) (by decide +kernel))
set_option maxRecDepth 20000 in
theorem gX8_lower__X8_turns : GoodIn wsX8_lower_ (wsV RX8 116 RX8 yX8_turns wsX8_turns) := goodIn_app (goodIn_of _ (by decide +kernel)) ggX8_lower__X8_turns
set_option maxRecDepth 20000 in
theorem ggX8_lower__X8_ends : GoodIn wsX8_lower_ wsX8_ends := goodIn_ca (goodIn_r _ [54, 50, 55, 56, 57, 4, 58, 59, 60, 7, 61, 62, 63, 64, 6, 65, 66, 67, 68, 69, 70, 71, 72, 73, 74, 75, 76, 77, 78, 79, 80, 81, 82, 83, 84, 85, 86] (by decide +kernel) (by decide +kernel)) (goodIn_sub (fun _ h => List.mem_cons_of_mem _ (List.mem_append_right _ h)) (by decide +kernel))
set_option maxRecDepth 20000 in
theorem gX8_lower__X8_ends : GoodIn wsX8_lower_ (wsV RX8 106 RX8 yX8_ends wsX8_ends) := goodIn_app (goodIn_of _ (by decide +kernel)) ggX8_lower__X8_ends
theorem dX8_lower__0 : decode cX8_lower_ 0 = .ok (.aload_n 0, 1) := by decide +kernel
theorem dX8_lower__1 : decode cX8_lower_ 1 = .ok (.invokevirtual 99, 3) := by decide +kernel
theorem dX8_lower__4 : decode cX8_lower_ 4 = .ok (.aload_n 0, 1) := by decide +kernel
theorem dX8_lower__5 : decode cX8_lower_ 5 = .ok (.aload_n 0, 1) := by decide +kernel
theorem dX8_lower__6 : decode cX8_lower_ 6 = .ok (.iload_n 1, 1) := by decide +kernel
theorem dX8_lower__7 : decode cX8_lower_ 7 = .ok (.iconst (-1), 1) := by decide +kernel
theorem dX8_lower__8 : decode cX8_lower_ 8 = .ok (.invokevirtual 116, 3) := by decide +kernel
theorem dX8_lower__11 : decode cX8_lower_ 11 = .ok (.invokevirtual 106, 3) := by decide +kernel
theorem dX8_lower__14 : decode cX8_lower_ 14 = .ok (.ireturn, 1) := by decide +kernel
set_option maxRecDepth 20000 in
theorem ggX8_puts_X8_in : GoodIn wsX8_puts wsX8_in := goodIn_r _ [5] (by decide +kernel) (by decide +kernel)
set_option maxRecDepth 20000 in
theorem gX8_puts_X8_in : GoodIn wsX8_puts (va_wsS RX8 64 yX8_in wsX8_in) := goodIn_app (goodIn_of _ (by decide +kernel)) ggX8_puts_X8_in
set_option maxRecDepth 20000 in
theorem ggX8_puts_X8_refuses : GoodIn wsX8_puts wsX8_refuses := goodIn_r _ [9, 10, 11, 12, 30, 31, 32, 33, 34, 35, 36, 37, 38, 39, 40, 41, 42, 43, 44, 45, 46, 47, 48, 49, 50, 51] (by decide +kernel) (by decide +kernel)
set_option maxRecDepth 20000 in
theorem gX8_puts_X8_refuses : GoodIn wsX8_puts (wsV RX8 85 RX8 yX8_refuses wsX8_refuses) := goodIn_app (goodIn_of _ (by decide +kernel)) ggX8_puts_X8_refuses
set_option maxRecDepth 20000 in
theorem ggX8_puts_X8_isOut : GoodIn wsX8_puts wsX8_isOut := goodIn_ca (goodIn_r _ [16, 1, 30, 31, 32, 33, 34, 35, 36, 37, 38, 39, 40, 41, 42, 43, 44, 45, 46, 47, 48, 49, 50, 51] (by decide +kernel) (by decide +kernel)) (goodIn_sub (fun _ h => List.mem_cons_of_mem _ (List.mem_append_right _ h)) (by decide +kernel))
set_option maxRecDepth 20000 in
theorem gX8_puts_X8_isOut : GoodIn wsX8_puts (wsV RX8 119 RX8 yX8_isOut wsX8_isOut) := goodIn_app (goodIn_of _ (by decide +kernel)) ggX8_puts_X8_isOut
set_option maxRecDepth 20000 in
theorem ggX8_puts_X8_sizeOf : GoodIn wsX8_puts wsX8_sizeOf := goodIn_ca (goodIn_r _ [20, 1, 21, 22, 23, 4, 24, 30, 31, 32, 33, 34, 35, 36, 37, 38, 39, 40, 41, 42, 43, 44, 45, 46, 47, 48, 49, 50, 51] (by decide +kernel) (by decide +kernel)) (goodIn_sub (fun _ h => List.mem_cons_of_mem _ (List.mem_append_right _ h)) (by decide +kernel))
set_option maxRecDepth 20000 in
theorem gX8_puts_X8_sizeOf : GoodIn wsX8_puts (wsV RX8 122 RX8 yX8_sizeOf wsX8_sizeOf) := goodIn_app (goodIn_of _ (by decide +kernel)) ggX8_puts_X8_sizeOf
set_option maxRecDepth 20000 in
theorem ggX8_puts_X8_does : GoodIn wsX8_puts wsX8_does := goodIn_r _ [28, 29, 30, 31, 32, 33, 34, 35, 36, 37, 38, 39, 40, 41, 42, 43, 44, 45, 46, 47, 48, 49, 50, 51] (by decide +kernel) (by decide +kernel)
set_option maxRecDepth 20000 in
theorem gX8_puts_X8_does : GoodIn wsX8_puts (wsV RX8 96 RX8 yX8_does wsX8_does) := goodIn_app (goodIn_of _ (by decide +kernel)) ggX8_puts_X8_does
theorem dX8_puts_0 : decode cX8_puts 0 = .ok (.iload_n 1, 1) := by decide +kernel
theorem dX8_puts_1 : decode cX8_puts 1 = .ok (.iconst 1, 1) := by decide +kernel
theorem dX8_puts_2 : decode cX8_puts 2 = .ok (.iconst 4, 1) := by decide +kernel
theorem dX8_puts_3 : decode cX8_puts 3 = .ok (.invokestatic 64, 3) := by decide +kernel
theorem dX8_puts_6 : decode cX8_puts 6 = .ok (.ifCond .ne 10, 3) := by decide +kernel
theorem dX8_puts_9 : decode cX8_puts 9 = .ok (.aload_n 0, 1) := by decide +kernel
theorem dX8_puts_10 : decode cX8_puts 10 = .ok (.iconst 1, 1) := by decide +kernel
theorem dX8_puts_11 : decode cX8_puts 11 = .ok (.iconst 0, 1) := by decide +kernel
theorem dX8_puts_12 : decode cX8_puts 12 = .ok (.invokevirtual 85, 3) := by decide +kernel
theorem dX8_puts_15 : decode cX8_puts 15 = .ok (.ireturn, 1) := by decide +kernel
theorem dX8_puts_16 : decode cX8_puts 16 = .ok (.aload_n 0, 1) := by decide +kernel
theorem dX8_puts_17 : decode cX8_puts 17 = .ok (.iload_n 1, 1) := by decide +kernel
theorem dX8_puts_18 : decode cX8_puts 18 = .ok (.invokevirtual 119, 3) := by decide +kernel
theorem dX8_puts_21 : decode cX8_puts 21 = .ok (.iload_n 2, 1) := by decide +kernel
theorem dX8_puts_22 : decode cX8_puts 22 = .ok (.if_icmp .ne 11, 3) := by decide +kernel
theorem dX8_puts_25 : decode cX8_puts 25 = .ok (.aload_n 0, 1) := by decide +kernel
theorem dX8_puts_26 : decode cX8_puts 26 = .ok (.bipush 6, 2) := by decide +kernel
theorem dX8_puts_28 : decode cX8_puts 28 = .ok (.iload_n 1, 1) := by decide +kernel
theorem dX8_puts_29 : decode cX8_puts 29 = .ok (.invokevirtual 85, 3) := by decide +kernel
theorem dX8_puts_32 : decode cX8_puts 32 = .ok (.ireturn, 1) := by decide +kernel
theorem dX8_puts_33 : decode cX8_puts 33 = .ok (.aload_n 0, 1) := by decide +kernel
theorem dX8_puts_34 : decode cX8_puts 34 = .ok (.getfield 9, 3) := by decide +kernel
theorem dX8_puts_37 : decode cX8_puts 37 = .ok (.iconst 4, 1) := by decide +kernel
theorem dX8_puts_38 : decode cX8_puts 38 = .ok (.dup2, 1) := by decide +kernel
theorem dX8_puts_39 : decode cX8_puts 39 = .ok (.iaload, 1) := by decide +kernel
theorem dX8_puts_40 : decode cX8_puts 40 = .ok (.iconst 1, 1) := by decide +kernel
theorem dX8_puts_41 : decode cX8_puts 41 = .ok (.iload_n 1, 1) := by decide +kernel
theorem dX8_puts_42 : decode cX8_puts 42 = .ok (.ishl, 1) := by decide +kernel
theorem dX8_puts_43 : decode cX8_puts 43 = .ok (.ixor, 1) := by decide +kernel
theorem dX8_puts_44 : decode cX8_puts 44 = .ok (.iastore, 1) := by decide +kernel
theorem dX8_puts_45 : decode cX8_puts 45 = .ok (.aload_n 0, 1) := by decide +kernel
theorem dX8_puts_46 : decode cX8_puts 46 = .ok (.aload_n 0, 1) := by decide +kernel
theorem dX8_puts_47 : decode cX8_puts 47 = .ok (.iload_n 1, 1) := by decide +kernel
theorem dX8_puts_48 : decode cX8_puts 48 = .ok (.invokevirtual 122, 3) := by decide +kernel
theorem dX8_puts_51 : decode cX8_puts 51 = .ok (.invokevirtual 96, 3) := by decide +kernel
theorem dX8_puts_54 : decode cX8_puts 54 = .ok (.ireturn, 1) := by decide +kernel
set_option maxRecDepth 20000 in
theorem ggX8_forget_X8_tries : GoodIn wsX8_forget wsX8_tries := goodIn_ca (goodIn_r _ [5, 6, 7, 8, 54, 55, 56, 57, 58, 59, 60, 61, 62, 63, 64, 65, 66, 67, 68, 69, 70, 71, 72, 73, 74, 75] (by decide +kernel) (by decide +kernel)) (goodIn_sub (fun _ h => List.mem_cons_of_mem _ (List.mem_append_right _ h)) (by decide +kernel))
set_option maxRecDepth 20000 in
theorem gX8_forget_X8_tries : GoodIn wsX8_forget (wsV RX8 99 RX8 yX8_tries wsX8_tries) := goodIn_app (goodIn_of _ (by decide +kernel)) ggX8_forget_X8_tries
set_option maxRecDepth 20000 in
theorem ggX8_forget_X8_puts : GoodIn wsX8_forget wsX8_puts := goodIn_ca (goodIn_r _ [12, 8, 13, 14, 4, 15, 16, 17, 18, 19, 20, 21, 22, 23, 24, 25, 26, 27, 28, 29, 30, 31, 32, 33, 34, 35, 36, 37, 38, 39, 54, 55, 56, 57, 58, 59, 60, 61, 62, 63, 64, 65, 66, 67, 68, 69, 70, 71, 72, 73, 74, 75] (by decide +kernel) (by decide +kernel)) (goodIn_sub (fun _ h => List.mem_cons_of_mem _ (List.mem_append_right _ h)) (by decide +kernel))
set_option maxRecDepth 20000 in
theorem gX8_forget_X8_puts : GoodIn wsX8_forget (wsV RX8 125 RX8 yX8_puts wsX8_puts) := goodIn_app (goodIn_of _ (by decide +kernel)) ggX8_forget_X8_puts
set_option maxRecDepth 20000 in
theorem ggX8_forget_X8_ends : GoodIn wsX8_forget wsX8_ends := goodIn_ca (goodIn_r _ [43, 39, 44, 45, 46, 4, 47, 48, 49, 7, 50, 51, 52, 53, 6, 54, 55, 56, 57, 58, 59, 60, 61, 62, 63, 64, 65, 66, 67, 68, 69, 70, 71, 72, 73, 74, 75] (by decide +kernel) (by decide +kernel)) (goodIn_sub (fun _ h => List.mem_cons_of_mem _ (List.mem_append_right _ h)) (by decide +kernel))
set_option maxRecDepth 20000 in
theorem gX8_forget_X8_ends : GoodIn wsX8_forget (wsV RX8 106 RX8 yX8_ends wsX8_ends) := goodIn_app (goodIn_of _ (by decide +kernel)) ggX8_forget_X8_ends
theorem dX8_forget_0 : decode cX8_forget 0 = .ok (.aload_n 0, 1) := by decide +kernel
theorem dX8_forget_1 : decode cX8_forget 1 = .ok (.invokevirtual 99, 3) := by decide +kernel
theorem dX8_forget_4 : decode cX8_forget 4 = .ok (.aload_n 0, 1) := by decide +kernel
theorem dX8_forget_5 : decode cX8_forget 5 = .ok (.aload_n 0, 1) := by decide +kernel
theorem dX8_forget_6 : decode cX8_forget 6 = .ok (.iload_n 1, 1) := by decide +kernel
theorem dX8_forget_7 : decode cX8_forget 7 = .ok (.iconst 1, 1) := by decide +kernel
theorem dX8_forget_8 : decode cX8_forget 8 = .ok (.invokevirtual 125, 3) := by decide +kernel
theorem dX8_forget_11 : decode cX8_forget 11 = .ok (.invokevirtual 106, 3) := by decide +kernel
theorem dX8_forget_14 : decode cX8_forget 14 = .ok (.ireturn, 1) := by decide +kernel
set_option maxRecDepth 20000 in
theorem ggX8_recall_X8_tries : GoodIn wsX8_recall wsX8_tries := goodIn_ca (goodIn_r _ [5, 6, 7, 8, 54, 55, 56, 57, 58, 59, 60, 61, 62, 63, 64, 65, 66, 67, 68, 69, 70, 71, 72, 73, 74, 75] (by decide +kernel) (by decide +kernel)) (goodIn_sub (fun _ h => List.mem_cons_of_mem _ (List.mem_append_right _ h)) (by decide +kernel))
set_option maxRecDepth 20000 in
theorem gX8_recall_X8_tries : GoodIn wsX8_recall (wsV RX8 99 RX8 yX8_tries wsX8_tries) := goodIn_app (goodIn_of _ (by decide +kernel)) ggX8_recall_X8_tries
set_option maxRecDepth 20000 in
theorem ggX8_recall_X8_puts : GoodIn wsX8_recall wsX8_puts := goodIn_ca (goodIn_r _ [12, 8, 13, 14, 4, 15, 16, 17, 18, 19, 20, 21, 22, 23, 24, 25, 26, 27, 28, 29, 30, 31, 32, 33, 34, 35, 36, 37, 38, 39, 54, 55, 56, 57, 58, 59, 60, 61, 62, 63, 64, 65, 66, 67, 68, 69, 70, 71, 72, 73, 74, 75] (by decide +kernel) (by decide +kernel)) (goodIn_sub (fun _ h => List.mem_cons_of_mem _ (List.mem_append_right _ h)) (by decide +kernel))
set_option maxRecDepth 20000 in
theorem gX8_recall_X8_puts : GoodIn wsX8_recall (wsV RX8 125 RX8 yX8_puts wsX8_puts) := goodIn_app (goodIn_of _ (by decide +kernel)) ggX8_recall_X8_puts
set_option maxRecDepth 20000 in
theorem ggX8_recall_X8_ends : GoodIn wsX8_recall wsX8_ends := goodIn_ca (goodIn_r _ [43, 39, 44, 45, 46, 4, 47, 48, 49, 7, 50, 51, 52, 53, 6, 54, 55, 56, 57, 58, 59, 60, 61, 62, 63, 64, 65, 66, 67, 68, 69, 70, 71, 72, 73, 74, 75] (by decide +kernel) (by decide +kernel)) (goodIn_sub (fun _ h => List.mem_cons_of_mem _ (List.mem_append_right _ h)) (by decide +kernel))
set_option maxRecDepth 20000 in
theorem gX8_recall_X8_ends : GoodIn wsX8_recall (wsV RX8 106 RX8 yX8_ends wsX8_ends) := goodIn_app (goodIn_of _ (by decide +kernel)) ggX8_recall_X8_ends
theorem dX8_recall_0 : decode cX8_recall 0 = .ok (.aload_n 0, 1) := by decide +kernel
theorem dX8_recall_1 : decode cX8_recall 1 = .ok (.invokevirtual 99, 3) := by decide +kernel
theorem dX8_recall_4 : decode cX8_recall 4 = .ok (.aload_n 0, 1) := by decide +kernel
theorem dX8_recall_5 : decode cX8_recall 5 = .ok (.aload_n 0, 1) := by decide +kernel
theorem dX8_recall_6 : decode cX8_recall 6 = .ok (.iload_n 1, 1) := by decide +kernel
theorem dX8_recall_7 : decode cX8_recall 7 = .ok (.iconst 0, 1) := by decide +kernel
theorem dX8_recall_8 : decode cX8_recall 8 = .ok (.invokevirtual 125, 3) := by decide +kernel
theorem dX8_recall_11 : decode cX8_recall 11 = .ok (.invokevirtual 106, 3) := by decide +kernel
theorem dX8_recall_14 : decode cX8_recall 14 = .ok (.ireturn, 1) := by decide +kernel
set_option maxRecDepth 20000 in
theorem ggX8_weighs_X8_isKey : GoodIn wsX8_weighs wsX8_isKey := goodIn_r _ [5, 6, 7, 4, 8] (by decide +kernel) (by decide +kernel)
set_option maxRecDepth 20000 in
theorem gX8_weighs_X8_isKey : GoodIn wsX8_weighs (va_wsS RX8 78 yX8_isKey wsX8_isKey) := goodIn_app (goodIn_of _ (by decide +kernel)) ggX8_weighs_X8_isKey
set_option maxRecDepth 20000 in
theorem ggX8_weighs_X8_isWeight : GoodIn wsX8_weighs wsX8_isWeight := goodIn_r _ [11, 6, 7, 4, 8] (by decide +kernel) (by decide +kernel)
set_option maxRecDepth 20000 in
theorem gX8_weighs_X8_isWeight : GoodIn wsX8_weighs (va_wsS RX8 82 yX8_isWeight wsX8_isWeight) := goodIn_app (goodIn_of _ (by decide +kernel)) ggX8_weighs_X8_isWeight
set_option maxRecDepth 20000 in
theorem ggX8_weighs_X8_refuses : GoodIn wsX8_weighs wsX8_refuses := goodIn_r _ [15, 16, 17, 18, 44, 45, 46, 47, 48, 49, 50, 51, 52, 53, 54, 55, 56, 57, 58, 59, 60, 61, 62, 63, 64, 65] (by decide +kernel) (by decide +kernel)
set_option maxRecDepth 20000 in
theorem gX8_weighs_X8_refuses : GoodIn wsX8_weighs (wsV RX8 85 RX8 yX8_refuses wsX8_refuses) := goodIn_app (goodIn_of _ (by decide +kernel)) ggX8_weighs_X8_refuses
set_option maxRecDepth 20000 in
theorem ggX8_weighs_X8_isThere : GoodIn wsX8_weighs wsX8_isThere := goodIn_ca (goodIn_r _ [22, 2, 3, 4, 5, 6, 7, 8, 12, 13, 14, 15, 16, 17, 18, 23, 24, 25, 26, 1, 27, 28, 29, 30, 31, 32, 33, 34, 44, 45, 46, 47, 48, 49, 50, 51, 52, 53, 54, 55, 56, 57, 58, 59, 60, 61, 62, 63, 64, 65] (by decide +kernel) (by decide +kernel)) (goodIn_sub (fun _ h => List.mem_cons_of_mem _ (List.mem_append_right _ h)) (by decide +kernel))
set_option maxRecDepth 20000 in
theorem gX8_weighs_X8_isThere : GoodIn wsX8_weighs (wsV RX8 110 RX8 yX8_isThere wsX8_isThere) := goodIn_app (goodIn_of _ (by decide +kernel)) ggX8_weighs_X8_isThere
set_option maxRecDepth 20000 in
theorem ggX8_weighs_X8_find : GoodIn wsX8_weighs wsX8_find := goodIn_ca (goodIn_r _ [26, 1, 27, 28, 29, 4, 30, 31, 32, 33, 34, 44, 45, 46, 47, 48, 49, 50, 51, 52, 53, 54, 55, 56, 57, 58, 59, 60, 61, 62, 63, 64, 65] (by decide +kernel) (by decide +kernel)) (goodIn_sub (fun _ h => List.mem_cons_of_mem _ (List.mem_append_right _ h)) (by decide +kernel))
set_option maxRecDepth 20000 in
theorem gX8_weighs_X8_find : GoodIn wsX8_weighs (wsV RX8 89 RX8 yX8_find wsX8_find) := goodIn_app (goodIn_of _ (by decide +kernel)) ggX8_weighs_X8_find
set_option maxRecDepth 20000 in
theorem ggX8_weighs_X8_weight : GoodIn wsX8_weighs wsX8_weight := goodIn_ca (goodIn_r _ [38, 1, 44, 45, 46, 47, 48, 49, 50, 51, 52, 53, 54, 55, 56, 57, 58, 59, 60, 61, 62, 63, 64, 65] (by decide +kernel) (by decide +kernel)) (goodIn_sub (fun _ h => List.mem_cons_of_mem _ (List.mem_append_right _ h)) (by decide +kernel))
set_option maxRecDepth 20000 in
theorem gX8_weighs_X8_weight : GoodIn wsX8_weighs (wsV RX8 129 RX8 yX8_weight wsX8_weight) := goodIn_app (goodIn_of _ (by decide +kernel)) ggX8_weighs_X8_weight
set_option maxRecDepth 20000 in
theorem ggX8_weighs_X8_does : GoodIn wsX8_weighs wsX8_does := goodIn_r _ [42, 43, 44, 45, 46, 47, 48, 49, 50, 51, 52, 53, 54, 55, 56, 57, 58, 59, 60, 61, 62, 63, 64, 65] (by decide +kernel) (by decide +kernel)
set_option maxRecDepth 20000 in
theorem gX8_weighs_X8_does : GoodIn wsX8_weighs (wsV RX8 96 RX8 yX8_does wsX8_does) := goodIn_app (goodIn_of _ (by decide +kernel)) ggX8_weighs_X8_does
theorem dX8_weighs_0 : decode cX8_weighs 0 = .ok (.iload_n 1, 1) := by decide +kernel
theorem dX8_weighs_1 : decode cX8_weighs 1 = .ok (.invokestatic 78, 3) := by decide +kernel
theorem dX8_weighs_4 : decode cX8_weighs 4 = .ok (.ifCond .eq 10, 3) := by decide +kernel
theorem dX8_weighs_7 : decode cX8_weighs 7 = .ok (.iload_n 2, 1) := by decide +kernel
theorem dX8_weighs_8 : decode cX8_weighs 8 = .ok (.invokestatic 82, 3) := by decide +kernel
theorem dX8_weighs_11 : decode cX8_weighs 11 = .ok (.ifCond .ne 10, 3) := by decide +kernel
theorem dX8_weighs_14 : decode cX8_weighs 14 = .ok (.aload_n 0, 1) := by decide +kernel
theorem dX8_weighs_15 : decode cX8_weighs 15 = .ok (.iconst 1, 1) := by decide +kernel
theorem dX8_weighs_16 : decode cX8_weighs 16 = .ok (.iconst 0, 1) := by decide +kernel
theorem dX8_weighs_17 : decode cX8_weighs 17 = .ok (.invokevirtual 85, 3) := by decide +kernel
theorem dX8_weighs_20 : decode cX8_weighs 20 = .ok (.ireturn, 1) := by decide +kernel
theorem dX8_weighs_21 : decode cX8_weighs 21 = .ok (.aload_n 0, 1) := by decide +kernel
theorem dX8_weighs_22 : decode cX8_weighs 22 = .ok (.iload_n 1, 1) := by decide +kernel
theorem dX8_weighs_23 : decode cX8_weighs 23 = .ok (.invokevirtual 110, 3) := by decide +kernel
theorem dX8_weighs_26 : decode cX8_weighs 26 = .ok (.ifCond .ne 5, 3) := by decide +kernel
theorem dX8_weighs_29 : decode cX8_weighs 29 = .ok (.iconst 0, 1) := by decide +kernel
theorem dX8_weighs_30 : decode cX8_weighs 30 = .ok (.ireturn, 1) := by decide +kernel
theorem dX8_weighs_31 : decode cX8_weighs 31 = .ok (.aload_n 0, 1) := by decide +kernel
theorem dX8_weighs_32 : decode cX8_weighs 32 = .ok (.iload_n 1, 1) := by decide +kernel
theorem dX8_weighs_33 : decode cX8_weighs 33 = .ok (.invokevirtual 89, 3) := by decide +kernel
theorem dX8_weighs_36 : decode cX8_weighs 36 = .ok (.istore_n 3, 1) := by decide +kernel
theorem dX8_weighs_37 : decode cX8_weighs 37 = .ok (.aload_n 0, 1) := by decide +kernel
theorem dX8_weighs_38 : decode cX8_weighs 38 = .ok (.iload_n 3, 1) := by decide +kernel
theorem dX8_weighs_39 : decode cX8_weighs 39 = .ok (.invokevirtual 129, 3) := by decide +kernel
theorem dX8_weighs_42 : decode cX8_weighs 42 = .ok (.iload_n 2, 1) := by decide +kernel
theorem dX8_weighs_43 : decode cX8_weighs 43 = .ok (.if_icmp .ne 11, 3) := by decide +kernel
theorem dX8_weighs_46 : decode cX8_weighs 46 = .ok (.aload_n 0, 1) := by decide +kernel
theorem dX8_weighs_47 : decode cX8_weighs 47 = .ok (.bipush 7, 2) := by decide +kernel
theorem dX8_weighs_49 : decode cX8_weighs 49 = .ok (.iload_n 2, 1) := by decide +kernel
theorem dX8_weighs_50 : decode cX8_weighs 50 = .ok (.invokevirtual 85, 3) := by decide +kernel
theorem dX8_weighs_53 : decode cX8_weighs 53 = .ok (.ireturn, 1) := by decide +kernel
theorem dX8_weighs_54 : decode cX8_weighs 54 = .ok (.aload_n 0, 1) := by decide +kernel
theorem dX8_weighs_55 : decode cX8_weighs 55 = .ok (.iload_n 3, 1) := by decide +kernel
theorem dX8_weighs_56 : decode cX8_weighs 56 = .ok (.invokevirtual 129, 3) := by decide +kernel
theorem dX8_weighs_59 : decode cX8_weighs 59 = .ok (.istore 4, 2) := by decide +kernel
theorem dX8_weighs_61 : decode cX8_weighs 61 = .ok (.aload_n 0, 1) := by decide +kernel
theorem dX8_weighs_62 : decode cX8_weighs 62 = .ok (.getfield 9, 3) := by decide +kernel
theorem dX8_weighs_65 : decode cX8_weighs 65 = .ok (.iconst 5, 1) := by decide +kernel
theorem dX8_weighs_66 : decode cX8_weighs 66 = .ok (.iconst 3, 1) := by decide +kernel
theorem dX8_weighs_67 : decode cX8_weighs 67 = .ok (.iload_n 3, 1) := by decide +kernel
theorem dX8_weighs_68 : decode cX8_weighs 68 = .ok (.imul, 1) := by decide +kernel
theorem dX8_weighs_69 : decode cX8_weighs 69 = .ok (.iadd, 1) := by decide +kernel
theorem dX8_weighs_70 : decode cX8_weighs 70 = .ok (.iconst 1, 1) := by decide +kernel
theorem dX8_weighs_71 : decode cX8_weighs 71 = .ok (.iadd, 1) := by decide +kernel
theorem dX8_weighs_72 : decode cX8_weighs 72 = .ok (.iload_n 2, 1) := by decide +kernel
theorem dX8_weighs_73 : decode cX8_weighs 73 = .ok (.iastore, 1) := by decide +kernel
theorem dX8_weighs_74 : decode cX8_weighs 74 = .ok (.aload_n 0, 1) := by decide +kernel
theorem dX8_weighs_75 : decode cX8_weighs 75 = .ok (.iload 4, 2) := by decide +kernel
theorem dX8_weighs_77 : decode cX8_weighs 77 = .ok (.invokevirtual 96, 3) := by decide +kernel
theorem dX8_weighs_80 : decode cX8_weighs 80 = .ok (.ireturn, 1) := by decide +kernel
set_option maxRecDepth 20000 in
theorem ggX8_weigh_X8_tries : GoodIn wsX8_weigh wsX8_tries := goodIn_ca (goodIn_r _ [5, 6, 7, 8, 68, 69, 70, 71, 72, 73, 74, 75, 76, 77, 78, 79, 80, 81, 82, 83, 84, 85, 86, 87, 88, 89] (by decide +kernel) (by decide +kernel)) (goodIn_sub (fun _ h => List.mem_cons_of_mem _ (List.mem_append_right _ h)) (by decide +kernel))
set_option maxRecDepth 20000 in
theorem gX8_weigh_X8_tries : GoodIn wsX8_weigh (wsV RX8 99 RX8 yX8_tries wsX8_tries) := goodIn_app (goodIn_of _ (by decide +kernel)) ggX8_weigh_X8_tries
set_option maxRecDepth 20000 in
theorem ggX8_weigh_X8_weighs : GoodIn wsX8_weigh wsX8_weighs := goodIn_ca (goodIn_r _ [12, 8, 13, 14, 4, 15, 16, 17, 18, 19, 20, 21, 22, 23, 24, 25, 26, 27, 28, 29, 30, 31, 32, 33, 34, 35, 36, 37, 38, 39, 40, 41, 42, 43, 44, 45, 46, 47, 48, 49, 50, 51, 52, 53, 68, 69, 70, 71, 72, 73, 74, 75, 76, 77, 78, 79, 80, 81, 82, 83, 84, 85, 86, 87, 88, 89] (by decide +kernel) (by decide +kernel)) (goodIn_sub (fun _ h => List.mem_cons_of_mem _ (List.mem_append_right _ h)) (by decide +kernel))
set_option maxRecDepth 20000 in
theorem gX8_weigh_X8_weighs : GoodIn wsX8_weigh (wsV RX8 132 RX8 yX8_weighs wsX8_weighs) := goodIn_app (goodIn_of _ (by decide +kernel)) ggX8_weigh_X8_weighs
set_option maxRecDepth 20000 in
theorem ggX8_weigh_X8_ends : GoodIn wsX8_weigh wsX8_ends := goodIn_ca (goodIn_r _ [57, 53, 58, 59, 60, 4, 61, 62, 63, 7, 64, 65, 66, 67, 6, 68, 69, 70, 71, 72, 73, 74, 75, 76, 77, 78, 79, 80, 81, 82, 83, 84, 85, 86, 87, 88, 89] (by decide +kernel) (by decide +kernel)) (goodIn_sub (fun _ h => List.mem_cons_of_mem _ (List.mem_append_right _ h)) (by decide +kernel))
set_option maxRecDepth 20000 in
theorem gX8_weigh_X8_ends : GoodIn wsX8_weigh (wsV RX8 106 RX8 yX8_ends wsX8_ends) := goodIn_app (goodIn_of _ (by decide +kernel)) ggX8_weigh_X8_ends
theorem dX8_weigh_0 : decode cX8_weigh 0 = .ok (.aload_n 0, 1) := by decide +kernel
theorem dX8_weigh_1 : decode cX8_weigh 1 = .ok (.invokevirtual 99, 3) := by decide +kernel
theorem dX8_weigh_4 : decode cX8_weigh 4 = .ok (.aload_n 0, 1) := by decide +kernel
theorem dX8_weigh_5 : decode cX8_weigh 5 = .ok (.aload_n 0, 1) := by decide +kernel
theorem dX8_weigh_6 : decode cX8_weigh 6 = .ok (.iload_n 1, 1) := by decide +kernel
theorem dX8_weigh_7 : decode cX8_weigh 7 = .ok (.iload_n 2, 1) := by decide +kernel
theorem dX8_weigh_8 : decode cX8_weigh 8 = .ok (.invokevirtual 132, 3) := by decide +kernel
theorem dX8_weigh_11 : decode cX8_weigh 11 = .ok (.invokevirtual 106, 3) := by decide +kernel
theorem dX8_weigh_14 : decode cX8_weigh 14 = .ok (.ireturn, 1) := by decide +kernel
set_option maxRecDepth 20000 in
theorem ggX8_toss_X8_tries : GoodIn wsX8_toss wsX8_tries := goodIn_ca (goodIn_r _ [5, 6, 7, 8, 19, 20, 21, 22, 23, 24, 25, 26, 27, 28, 29, 30, 31, 32, 33, 34, 35, 36, 37, 38, 39, 40] (by decide +kernel) (by decide +kernel)) (goodIn_sub (fun _ h => List.mem_cons_of_mem _ (List.mem_append_right _ h)) (by decide +kernel))
set_option maxRecDepth 20000 in
theorem gX8_toss_X8_tries : GoodIn wsX8_toss (wsV RX8 99 RX8 yX8_tries wsX8_tries) := goodIn_app (goodIn_of _ (by decide +kernel)) ggX8_toss_X8_tries
set_option maxRecDepth 20000 in
theorem ggX8_toss_X8_tosses : GoodIn wsX8_toss wsX8_tosses := goodIn_ca (goodIn_r _ [12, 8, 19, 20, 21, 22, 23, 24, 25, 26, 27, 28, 29, 30, 31, 32, 33, 34, 35, 36, 37, 38, 39, 40] (by decide +kernel) (by decide +kernel)) (goodIn_sub (fun _ h => List.mem_cons_of_mem _ (List.mem_append_right _ h)) (by decide +kernel))
set_option maxRecDepth 20000 in
theorem gX8_toss_X8_tosses : GoodIn wsX8_toss (wsV RX8 92 RX8 yX8_tosses wsX8_tosses) := goodIn_app (goodIn_of _ (by decide +kernel)) ggX8_toss_X8_tosses
set_option maxRecDepth 20000 in
theorem ggX8_toss_X8_keeps : GoodIn wsX8_toss wsX8_keeps := goodIn_ca (goodIn_r _ [16, 17, 18, 7, 19, 20, 21, 22, 23, 24, 25, 26, 27, 28, 29, 30, 31, 32, 33, 34, 35, 36, 37, 38, 39, 40] (by decide +kernel) (by decide +kernel)) (goodIn_sub (fun _ h => List.mem_cons_of_mem _ (List.mem_append_right _ h)) (by decide +kernel))
set_option maxRecDepth 20000 in
theorem gX8_toss_X8_keeps : GoodIn wsX8_toss (wsV RX8 57 RX8 yX8_keeps wsX8_keeps) := goodIn_app (goodIn_of _ (by decide +kernel)) ggX8_toss_X8_keeps
theorem dX8_toss_0 : decode cX8_toss 0 = .ok (.aload_n 0, 1) := by decide +kernel
theorem dX8_toss_1 : decode cX8_toss 1 = .ok (.invokevirtual 99, 3) := by decide +kernel
theorem dX8_toss_4 : decode cX8_toss 4 = .ok (.aload_n 0, 1) := by decide +kernel
theorem dX8_toss_5 : decode cX8_toss 5 = .ok (.aload_n 0, 1) := by decide +kernel
theorem dX8_toss_6 : decode cX8_toss 6 = .ok (.invokevirtual 92, 3) := by decide +kernel
theorem dX8_toss_9 : decode cX8_toss 9 = .ok (.ifCond .eq 7, 3) := by decide +kernel
theorem dX8_toss_12 : decode cX8_toss 12 = .ok (.iconst 1, 1) := by decide +kernel
theorem dX8_toss_13 : decode cX8_toss 13 = .ok (.goto 4, 3) := by decide +kernel
theorem dX8_toss_16 : decode cX8_toss 16 = .ok (.iconst 0, 1) := by decide +kernel
theorem dX8_toss_17 : decode cX8_toss 17 = .ok (.invokevirtual 57, 3) := by decide +kernel
theorem dX8_toss_20 : decode cX8_toss 20 = .ok (.ireturn, 1) := by decide +kernel
set_option maxRecDepth 20000 in
theorem ggX8_begins_X8_isOut : GoodIn wsX8_begins wsX8_isOut := goodIn_ca (goodIn_r _ [5, 6, 15, 16, 17, 18, 19, 20, 21, 22, 23, 24, 25, 26, 27, 28, 29, 30, 31, 32, 33, 34, 35, 36] (by decide +kernel) (by decide +kernel)) (goodIn_sub (fun _ h => List.mem_cons_of_mem _ (List.mem_append_right _ h)) (by decide +kernel))
set_option maxRecDepth 20000 in
theorem gX8_begins_X8_isOut : GoodIn wsX8_begins (wsV RX8 119 RX8 yX8_isOut wsX8_isOut) := goodIn_app (goodIn_of _ (by decide +kernel)) ggX8_begins_X8_isOut
set_option maxRecDepth 20000 in
theorem ggX8_begins_X8_sizeOf : GoodIn wsX8_begins wsX8_sizeOf := goodIn_ca (goodIn_r _ [10, 6, 11, 12, 13, 4, 14, 15, 16, 17, 18, 19, 20, 21, 22, 23, 24, 25, 26, 27, 28, 29, 30, 31, 32, 33, 34, 35, 36] (by decide +kernel) (by decide +kernel)) (goodIn_sub (fun _ h => List.mem_cons_of_mem _ (List.mem_append_right _ h)) (by decide +kernel))
set_option maxRecDepth 20000 in
theorem gX8_begins_X8_sizeOf : GoodIn wsX8_begins (wsV RX8 122 RX8 yX8_sizeOf wsX8_sizeOf) := goodIn_app (goodIn_of _ (by decide +kernel)) ggX8_begins_X8_sizeOf
theorem dX8_begins_0 : decode cX8_begins 0 = .ok (.iconst 4, 1) := by decide +kernel
theorem dX8_begins_1 : decode cX8_begins 1 = .ok (.istore_n 1, 1) := by decide +kernel
theorem dX8_begins_2 : decode cX8_begins 2 = .ok (.iload_n 1, 1) := by decide +kernel
theorem dX8_begins_3 : decode cX8_begins 3 = .ok (.ifCond .le 25, 3) := by decide +kernel
theorem dX8_begins_6 : decode cX8_begins 6 = .ok (.aload_n 0, 1) := by decide +kernel
theorem dX8_begins_7 : decode cX8_begins 7 = .ok (.iload_n 1, 1) := by decide +kernel
theorem dX8_begins_8 : decode cX8_begins 8 = .ok (.invokevirtual 119, 3) := by decide +kernel
theorem dX8_begins_11 : decode cX8_begins 11 = .ok (.ifCond .ne 11, 3) := by decide +kernel
theorem dX8_begins_14 : decode cX8_begins 14 = .ok (.aload_n 0, 1) := by decide +kernel
theorem dX8_begins_15 : decode cX8_begins 15 = .ok (.iload_n 1, 1) := by decide +kernel
theorem dX8_begins_16 : decode cX8_begins 16 = .ok (.invokevirtual 122, 3) := by decide +kernel
theorem dX8_begins_19 : decode cX8_begins 19 = .ok (.ifCond .ne 9, 3) := by decide +kernel
theorem dX8_begins_22 : decode cX8_begins 22 = .ok (.iinc 1 (-1), 3) := by decide +kernel
theorem dX8_begins_25 : decode cX8_begins 25 = .ok (.goto (-23), 3) := by decide +kernel
theorem dX8_begins_28 : decode cX8_begins 28 = .ok (.iload_n 1, 1) := by decide +kernel
theorem dX8_begins_29 : decode cX8_begins 29 = .ok (.ireturn, 1) := by decide +kernel
set_option maxRecDepth 20000 in
theorem ggX8_searches_X8_begins : GoodIn wsX8_searches wsX8_begins := goodIn_ca (goodIn_r _ [9, 10, 11, 12, 8, 13, 3, 14, 15, 16, 17, 18, 19, 20, 21, 30, 31, 32, 33, 34, 35, 36, 37, 38, 39, 40, 41, 42, 43, 44, 45, 46, 47, 48, 49, 50, 51] (by decide +kernel) (by decide +kernel)) (goodIn_sub (fun _ h => List.mem_cons_of_mem _ (List.mem_append_right _ h)) (by decide +kernel))
set_option maxRecDepth 20000 in
theorem gX8_searches_X8_begins : GoodIn wsX8_searches (wsV RX8 135 RX8 yX8_begins wsX8_begins) := goodIn_app (goodIn_of _ (by decide +kernel)) ggX8_searches_X8_begins
set_option maxRecDepth 20000 in
theorem ggX8_searches_X8_next : GoodIn wsX8_searches wsX8_next := goodIn_ca (goodIn_r _ [25, 3, 18, 19, 20, 8, 21, 30, 31, 32, 33, 34, 35, 36, 37, 38, 39, 40, 41, 42, 43, 44, 45, 46, 47, 48, 49, 50, 51] (by decide +kernel) (by decide +kernel)) (goodIn_sub (fun _ h => List.mem_cons_of_mem _ (List.mem_append_right _ h)) (by decide +kernel))
set_option maxRecDepth 20000 in
theorem gX8_searches_X8_next : GoodIn wsX8_searches (wsV RX8 145 RX8 yX8_next wsX8_next) := goodIn_app (goodIn_of _ (by decide +kernel)) ggX8_searches_X8_next
set_option maxRecDepth 20000 in
theorem ggX8_searches_X8_key : GoodIn wsX8_searches wsX8_key := goodIn_ca (goodIn_r _ [29, 3, 30, 31, 32, 33, 34, 35, 36, 37, 38, 39, 40, 41, 42, 43, 44, 45, 46, 47, 48, 49, 50, 51] (by decide +kernel) (by decide +kernel)) (goodIn_sub (fun _ h => List.mem_cons_of_mem _ (List.mem_append_right _ h)) (by decide +kernel))
set_option maxRecDepth 20000 in
theorem gX8_searches_X8_key : GoodIn wsX8_searches (wsV RX8 68 RX8 yX8_key wsX8_key) := goodIn_app (goodIn_of _ (by decide +kernel)) ggX8_searches_X8_key
set_option maxRecDepth 20000 in
theorem ggX8_searches_X8_isOut : GoodIn wsX8_searches wsX8_isOut := goodIn_ca (goodIn_r _ [13, 3, 30, 31, 32, 33, 34, 35, 36, 37, 38, 39, 40, 41, 42, 43, 44, 45, 46, 47, 48, 49, 50, 51] (by decide +kernel) (by decide +kernel)) (goodIn_sub (fun _ h => List.mem_cons_of_mem _ (List.mem_append_right _ h)) (by decide +kernel))
set_option maxRecDepth 20000 in
theorem gX8_searches_X8_isOut : GoodIn wsX8_searches (wsV RX8 119 RX8 yX8_isOut wsX8_isOut) := goodIn_app (goodIn_of _ (by decide +kernel)) ggX8_searches_X8_isOut
theorem dX8_searches_0 : decode cX8_searches 0 = .ok (.aload_n 0, 1) := by decide +kernel
theorem dX8_searches_1 : decode cX8_searches 1 = .ok (.invokevirtual 135, 3) := by decide +kernel
theorem dX8_searches_4 : decode cX8_searches 4 = .ok (.istore_n 2, 1) := by decide +kernel
theorem dX8_searches_5 : decode cX8_searches 5 = .ok (.iconst (-1), 1) := by decide +kernel
theorem dX8_searches_6 : decode cX8_searches 6 = .ok (.istore_n 3, 1) := by decide +kernel
theorem dX8_searches_7 : decode cX8_searches 7 = .ok (.aload_n 0, 1) := by decide +kernel
theorem dX8_searches_8 : decode cX8_searches 8 = .ok (.iconst 0, 1) := by decide +kernel
theorem dX8_searches_9 : decode cX8_searches 9 = .ok (.putfield 139, 3) := by decide +kernel
theorem dX8_searches_12 : decode cX8_searches 12 = .ok (.aload_n 0, 1) := by decide +kernel
theorem dX8_searches_13 : decode cX8_searches 13 = .ok (.iconst 0, 1) := by decide +kernel
theorem dX8_searches_14 : decode cX8_searches 14 = .ok (.putfield 142, 3) := by decide +kernel
theorem dX8_searches_17 : decode cX8_searches 17 = .ok (.iload_n 2, 1) := by decide +kernel
theorem dX8_searches_18 : decode cX8_searches 18 = .ok (.ifCond .lt 94, 3) := by decide +kernel
theorem dX8_searches_21 : decode cX8_searches 21 = .ok (.aload_n 0, 1) := by decide +kernel
theorem dX8_searches_22 : decode cX8_searches 22 = .ok (.iload_n 3, 1) := by decide +kernel
theorem dX8_searches_23 : decode cX8_searches 23 = .ok (.iload_n 2, 1) := by decide +kernel
theorem dX8_searches_24 : decode cX8_searches 24 = .ok (.invokevirtual 145, 3) := by decide +kernel
theorem dX8_searches_27 : decode cX8_searches 27 = .ok (.istore 4, 2) := by decide +kernel
theorem dX8_searches_29 : decode cX8_searches 29 = .ok (.iload 4, 2) := by decide +kernel
theorem dX8_searches_31 : decode cX8_searches 31 = .ok (.aload_n 0, 1) := by decide +kernel
theorem dX8_searches_32 : decode cX8_searches 32 = .ok (.getfield 9, 3) := by decide +kernel
theorem dX8_searches_35 : decode cX8_searches 35 = .ok (.iconst 0, 1) := by decide +kernel
theorem dX8_searches_36 : decode cX8_searches 36 = .ok (.iaload, 1) := by decide +kernel
theorem dX8_searches_37 : decode cX8_searches 37 = .ok (.if_icmp .ge 37, 3) := by decide +kernel
theorem dX8_searches_40 : decode cX8_searches 40 = .ok (.aload_n 0, 1) := by decide +kernel
theorem dX8_searches_41 : decode cX8_searches 41 = .ok (.iload 4, 2) := by decide +kernel
theorem dX8_searches_43 : decode cX8_searches 43 = .ok (.invokevirtual 68, 3) := by decide +kernel
theorem dX8_searches_46 : decode cX8_searches 46 = .ok (.iload_n 1, 1) := by decide +kernel
theorem dX8_searches_47 : decode cX8_searches 47 = .ok (.if_icmp .ge 27, 3) := by decide +kernel
theorem dX8_searches_50 : decode cX8_searches 50 = .ok (.iload 4, 2) := by decide +kernel
theorem dX8_searches_52 : decode cX8_searches 52 = .ok (.istore_n 3, 1) := by decide +kernel
theorem dX8_searches_53 : decode cX8_searches 53 = .ok (.aload_n 0, 1) := by decide +kernel
theorem dX8_searches_54 : decode cX8_searches 54 = .ok (.getfield 36, 3) := by decide +kernel
theorem dX8_searches_57 : decode cX8_searches 57 = .ok (.aload_n 0, 1) := by decide +kernel
theorem dX8_searches_58 : decode cX8_searches 58 = .ok (.dup, 1) := by decide +kernel
theorem dX8_searches_59 : decode cX8_searches 59 = .ok (.getfield 139, 3) := by decide +kernel
theorem dX8_searches_62 : decode cX8_searches 62 = .ok (.dup_x1, 1) := by decide +kernel
theorem dX8_searches_63 : decode cX8_searches 63 = .ok (.iconst 1, 1) := by decide +kernel
theorem dX8_searches_64 : decode cX8_searches 64 = .ok (.iadd, 1) := by decide +kernel
theorem dX8_searches_65 : decode cX8_searches 65 = .ok (.putfield 139, 3) := by decide +kernel
theorem dX8_searches_68 : decode cX8_searches 68 = .ok (.iload 4, 2) := by decide +kernel
theorem dX8_searches_70 : decode cX8_searches 70 = .ok (.iastore, 1) := by decide +kernel
theorem dX8_searches_71 : decode cX8_searches 71 = .ok (.goto (-54), 3) := by decide +kernel
theorem dX8_searches_74 : decode cX8_searches 74 = .ok (.iinc 2 (-1), 3) := by decide +kernel
theorem dX8_searches_77 : decode cX8_searches 77 = .ok (.iload_n 2, 1) := by decide +kernel
theorem dX8_searches_78 : decode cX8_searches 78 = .ok (.ifCond .le 17, 3) := by decide +kernel
theorem dX8_searches_81 : decode cX8_searches 81 = .ok (.aload_n 0, 1) := by decide +kernel
theorem dX8_searches_82 : decode cX8_searches 82 = .ok (.iload_n 2, 1) := by decide +kernel
theorem dX8_searches_83 : decode cX8_searches 83 = .ok (.invokevirtual 119, 3) := by decide +kernel
theorem dX8_searches_86 : decode cX8_searches 86 = .ok (.ifCond .eq 9, 3) := by decide +kernel
theorem dX8_searches_89 : decode cX8_searches 89 = .ok (.iinc 2 (-1), 3) := by decide +kernel
theorem dX8_searches_92 : decode cX8_searches 92 = .ok (.goto (-15), 3) := by decide +kernel
theorem dX8_searches_95 : decode cX8_searches 95 = .ok (.iload_n 2, 1) := by decide +kernel
theorem dX8_searches_96 : decode cX8_searches 96 = .ok (.ifCond .lt 13, 3) := by decide +kernel
theorem dX8_searches_99 : decode cX8_searches 99 = .ok (.aload_n 0, 1) := by decide +kernel
theorem dX8_searches_100 : decode cX8_searches 100 = .ok (.dup, 1) := by decide +kernel
theorem dX8_searches_101 : decode cX8_searches 101 = .ok (.getfield 142, 3) := by decide +kernel
theorem dX8_searches_104 : decode cX8_searches 104 = .ok (.iconst 1, 1) := by decide +kernel
theorem dX8_searches_105 : decode cX8_searches 105 = .ok (.iadd, 1) := by decide +kernel
theorem dX8_searches_106 : decode cX8_searches 106 = .ok (.putfield 142, 3) := by decide +kernel
theorem dX8_searches_109 : decode cX8_searches 109 = .ok (.goto (-92), 3) := by decide +kernel
theorem dX8_searches_112 : decode cX8_searches 112 = .ok (.aload_n 0, 1) := by decide +kernel
theorem dX8_searches_113 : decode cX8_searches 113 = .ok (.getfield 139, 3) := by decide +kernel
theorem dX8_searches_116 : decode cX8_searches 116 = .ok (.aload_n 0, 1) := by decide +kernel
theorem dX8_searches_117 : decode cX8_searches 117 = .ok (.getfield 142, 3) := by decide +kernel
theorem dX8_searches_120 : decode cX8_searches 120 = .ok (.iadd, 1) := by decide +kernel
theorem dX8_searches_121 : decode cX8_searches 121 = .ok (.ireturn, 1) := by decide +kernel
set_option maxRecDepth 20000 in
theorem ggX8_folderOf_X8_isKey : GoodIn wsX8_folderOf wsX8_isKey := goodIn_r _ [5, 6, 7, 4, 8] (by decide +kernel) (by decide +kernel)
set_option maxRecDepth 20000 in
theorem gX8_folderOf_X8_isKey : GoodIn wsX8_folderOf (va_wsS RX8 78 yX8_isKey wsX8_isKey) := goodIn_app (goodIn_of _ (by decide +kernel)) ggX8_folderOf_X8_isKey
set_option maxRecDepth 20000 in
theorem ggX8_folderOf_X8_in : GoodIn wsX8_folderOf wsX8_in := goodIn_r _ [8] (by decide +kernel) (by decide +kernel)
set_option maxRecDepth 20000 in
theorem gX8_folderOf_X8_in : GoodIn wsX8_folderOf (va_wsS RX8 64 yX8_in wsX8_in) := goodIn_app (goodIn_of _ (by decide +kernel)) ggX8_folderOf_X8_in
set_option maxRecDepth 20000 in
theorem ggX8_folderOf_X8_raises : GoodIn wsX8_folderOf wsX8_raises := goodIn_r _ [12, 1, 57, 58, 59, 60, 61, 62, 63, 64, 65, 66, 67, 68, 69, 70, 71, 72, 73, 74, 75, 76, 77, 78] (by decide +kernel) (by decide +kernel)
set_option maxRecDepth 20000 in
theorem gX8_folderOf_X8_raises : GoodIn wsX8_folderOf (wsV RX8 61 RX8 yX8_raises wsX8_raises) := goodIn_app (goodIn_of _ (by decide +kernel)) ggX8_folderOf_X8_raises
set_option maxRecDepth 20000 in
theorem ggX8_folderOf_X8_find : GoodIn wsX8_folderOf wsX8_find := goodIn_ca (goodIn_r _ [16, 17, 18, 19, 20, 4, 21, 22, 23, 24, 25, 57, 58, 59, 60, 61, 62, 63, 64, 65, 66, 67, 68, 69, 70, 71, 72, 73, 74, 75, 76, 77, 78] (by decide +kernel) (by decide +kernel)) (goodIn_sub (fun _ h => List.mem_cons_of_mem _ (List.mem_append_right _ h)) (by decide +kernel))
set_option maxRecDepth 20000 in
theorem gX8_folderOf_X8_find : GoodIn wsX8_folderOf (wsV RX8 89 RX8 yX8_find wsX8_find) := goodIn_app (goodIn_of _ (by decide +kernel)) ggX8_folderOf_X8_find
set_option maxRecDepth 20000 in
theorem ggX8_folderOf_X8_weight : GoodIn wsX8_folderOf wsX8_weight := goodIn_ca (goodIn_r _ [29, 17, 57, 58, 59, 60, 61, 62, 63, 64, 65, 66, 67, 68, 69, 70, 71, 72, 73, 74, 75, 76, 77, 78] (by decide +kernel) (by decide +kernel)) (goodIn_sub (fun _ h => List.mem_cons_of_mem _ (List.mem_append_right _ h)) (by decide +kernel))
set_option maxRecDepth 20000 in
theorem gX8_folderOf_X8_weight : GoodIn wsX8_folderOf (wsV RX8 129 RX8 yX8_weight wsX8_weight) := goodIn_app (goodIn_of _ (by decide +kernel)) ggX8_folderOf_X8_weight
set_option maxRecDepth 20000 in
theorem ggX8_folderOf_X8_rungs : GoodIn wsX8_folderOf wsX8_rungs := goodIn_ca (goodIn_r _ [33, 17, 57, 58, 59, 60, 61, 62, 63, 64, 65, 66, 67, 68, 69, 70, 71, 72, 73, 74, 75, 76, 77, 78] (by decide +kernel) (by decide +kernel)) (goodIn_sub (fun _ h => List.mem_cons_of_mem _ (List.mem_append_right _ h)) (by decide +kernel))
set_option maxRecDepth 20000 in
theorem gX8_folderOf_X8_rungs : GoodIn wsX8_folderOf (wsV RX8 75 RX8 yX8_rungs wsX8_rungs) := goodIn_app (goodIn_of _ (by decide +kernel)) ggX8_folderOf_X8_rungs
set_option maxRecDepth 20000 in
theorem ggX8_folderOf_X8_searches : GoodIn wsX8_folderOf wsX8_searches := goodIn_ca (goodIn_r _ [37, 38, 39, 17, 40, 41, 42, 43, 4, 44, 45, 46, 47, 48, 49, 50, 51, 52, 30, 31, 32, 33, 53, 54, 55, 56, 22, 23, 24, 25, 57, 58, 59, 60, 61, 62, 63, 64, 65, 66, 67, 68, 69, 70, 71, 72, 73, 74, 75, 76, 77, 78] (by decide +kernel) (by decide +kernel)) (goodIn_sub (fun _ h => List.mem_cons_of_mem _ (List.mem_append_right _ h)) (by decide +kernel))
set_option maxRecDepth 20000 in
theorem gX8_folderOf_X8_searches : GoodIn wsX8_folderOf (wsV RX8 149 RX8 yX8_searches wsX8_searches) := goodIn_app (goodIn_of _ (by decide +kernel)) ggX8_folderOf_X8_searches
theorem dX8_folderOf_0 : decode cX8_folderOf 0 = .ok (.aload_n 0, 1) := by decide +kernel
theorem dX8_folderOf_1 : decode cX8_folderOf 1 = .ok (.iconst 0, 1) := by decide +kernel
theorem dX8_folderOf_2 : decode cX8_folderOf 2 = .ok (.putfield 39, 3) := by decide +kernel
theorem dX8_folderOf_5 : decode cX8_folderOf 5 = .ok (.iload_n 1, 1) := by decide +kernel
theorem dX8_folderOf_6 : decode cX8_folderOf 6 = .ok (.invokestatic 78, 3) := by decide +kernel
theorem dX8_folderOf_9 : decode cX8_folderOf 9 = .ok (.ifCond .eq 12, 3) := by decide +kernel
theorem dX8_folderOf_12 : decode cX8_folderOf 12 = .ok (.iload_n 2, 1) := by decide +kernel
theorem dX8_folderOf_13 : decode cX8_folderOf 13 = .ok (.iconst 0, 1) := by decide +kernel
theorem dX8_folderOf_14 : decode cX8_folderOf 14 = .ok (.iconst 3, 1) := by decide +kernel
theorem dX8_folderOf_15 : decode cX8_folderOf 15 = .ok (.invokestatic 64, 3) := by decide +kernel
theorem dX8_folderOf_18 : decode cX8_folderOf 18 = .ok (.ifCond .ne 9, 3) := by decide +kernel
theorem dX8_folderOf_21 : decode cX8_folderOf 21 = .ok (.aload_n 0, 1) := by decide +kernel
theorem dX8_folderOf_22 : decode cX8_folderOf 22 = .ok (.iconst 1, 1) := by decide +kernel
theorem dX8_folderOf_23 : decode cX8_folderOf 23 = .ok (.invokevirtual 61, 3) := by decide +kernel
theorem dX8_folderOf_26 : decode cX8_folderOf 26 = .ok (.ireturn, 1) := by decide +kernel
theorem dX8_folderOf_27 : decode cX8_folderOf 27 = .ok (.aload_n 0, 1) := by decide +kernel
theorem dX8_folderOf_28 : decode cX8_folderOf 28 = .ok (.iload_n 1, 1) := by decide +kernel
theorem dX8_folderOf_29 : decode cX8_folderOf 29 = .ok (.invokevirtual 89, 3) := by decide +kernel
theorem dX8_folderOf_32 : decode cX8_folderOf 32 = .ok (.istore_n 3, 1) := by decide +kernel
theorem dX8_folderOf_33 : decode cX8_folderOf 33 = .ok (.iload_n 3, 1) := by decide +kernel
theorem dX8_folderOf_34 : decode cX8_folderOf 34 = .ok (.ifCond .ge 9, 3) := by decide +kernel
theorem dX8_folderOf_37 : decode cX8_folderOf 37 = .ok (.aload_n 0, 1) := by decide +kernel
theorem dX8_folderOf_38 : decode cX8_folderOf 38 = .ok (.iconst 2, 1) := by decide +kernel
theorem dX8_folderOf_39 : decode cX8_folderOf 39 = .ok (.invokevirtual 61, 3) := by decide +kernel
theorem dX8_folderOf_42 : decode cX8_folderOf 42 = .ok (.ireturn, 1) := by decide +kernel
theorem dX8_folderOf_43 : decode cX8_folderOf 43 = .ok (.iload_n 2, 1) := by decide +kernel
theorem dX8_folderOf_44 : decode cX8_folderOf 44 = .ok (.tableswitch 42 0 2 #[28, 34, 40], 28) := by decide +kernel
theorem dX8_folderOf_72 : decode cX8_folderOf 72 = .ok (.aload_n 0, 1) := by decide +kernel
theorem dX8_folderOf_73 : decode cX8_folderOf 73 = .ok (.iload_n 3, 1) := by decide +kernel
theorem dX8_folderOf_74 : decode cX8_folderOf 74 = .ok (.invokevirtual 129, 3) := by decide +kernel
theorem dX8_folderOf_77 : decode cX8_folderOf 77 = .ok (.ireturn, 1) := by decide +kernel
theorem dX8_folderOf_78 : decode cX8_folderOf 78 = .ok (.aload_n 0, 1) := by decide +kernel
theorem dX8_folderOf_79 : decode cX8_folderOf 79 = .ok (.iload_n 3, 1) := by decide +kernel
theorem dX8_folderOf_80 : decode cX8_folderOf 80 = .ok (.invokevirtual 75, 3) := by decide +kernel
theorem dX8_folderOf_83 : decode cX8_folderOf 83 = .ok (.ireturn, 1) := by decide +kernel
theorem dX8_folderOf_84 : decode cX8_folderOf 84 = .ok (.iload_n 3, 1) := by decide +kernel
theorem dX8_folderOf_85 : decode cX8_folderOf 85 = .ok (.ireturn, 1) := by decide +kernel
theorem dX8_folderOf_86 : decode cX8_folderOf 86 = .ok (.aload_n 0, 1) := by decide +kernel
theorem dX8_folderOf_87 : decode cX8_folderOf 87 = .ok (.iload_n 1, 1) := by decide +kernel
theorem dX8_folderOf_88 : decode cX8_folderOf 88 = .ok (.invokevirtual 149, 3) := by decide +kernel
theorem dX8_folderOf_91 : decode cX8_folderOf 91 = .ok (.ireturn, 1) := by decide +kernel
set_option maxRecDepth 20000 in
theorem ggX8_rank_X8_isKey : GoodIn wsX8_rank wsX8_isKey := goodIn_r _ [5, 6, 7, 4, 8] (by decide +kernel) (by decide +kernel)
set_option maxRecDepth 20000 in
theorem gX8_rank_X8_isKey : GoodIn wsX8_rank (va_wsS RX8 78 yX8_isKey wsX8_isKey) := goodIn_app (goodIn_of _ (by decide +kernel)) ggX8_rank_X8_isKey
set_option maxRecDepth 20000 in
theorem ggX8_rank_X8_lower : GoodIn wsX8_rank wsX8_lower := goodIn_ca (goodIn_r _ [12, 13, 14, 15, 16, 4, 17, 22, 23, 24, 25, 26, 27, 28, 29, 30, 31, 32, 33, 34, 35, 36, 37, 38, 39, 40, 41, 42, 43] (by decide +kernel) (by decide +kernel)) (goodIn_sub (fun _ h => List.mem_cons_of_mem _ (List.mem_append_right _ h)) (by decide +kernel))
set_option maxRecDepth 20000 in
theorem gX8_rank_X8_lower : GoodIn wsX8_rank (wsV RX8 71 RX8 yX8_lower wsX8_lower) := goodIn_app (goodIn_of _ (by decide +kernel)) ggX8_rank_X8_lower
set_option maxRecDepth 20000 in
theorem ggX8_rank_X8_raises : GoodIn wsX8_rank wsX8_raises := goodIn_r _ [21, 1, 22, 23, 24, 25, 26, 27, 28, 29, 30, 31, 32, 33, 34, 35, 36, 37, 38, 39, 40, 41, 42, 43] (by decide +kernel) (by decide +kernel)
set_option maxRecDepth 20000 in
theorem gX8_rank_X8_raises : GoodIn wsX8_rank (wsV RX8 61 RX8 yX8_raises wsX8_raises) := goodIn_app (goodIn_of _ (by decide +kernel)) ggX8_rank_X8_raises
theorem dX8_rank_0 : decode cX8_rank 0 = .ok (.aload_n 0, 1) := by decide +kernel
theorem dX8_rank_1 : decode cX8_rank 1 = .ok (.iconst 0, 1) := by decide +kernel
theorem dX8_rank_2 : decode cX8_rank 2 = .ok (.putfield 39, 3) := by decide +kernel
theorem dX8_rank_5 : decode cX8_rank 5 = .ok (.iload_n 1, 1) := by decide +kernel
theorem dX8_rank_6 : decode cX8_rank 6 = .ok (.invokestatic 78, 3) := by decide +kernel
theorem dX8_rank_9 : decode cX8_rank 9 = .ok (.ifCond .eq 12, 3) := by decide +kernel
theorem dX8_rank_12 : decode cX8_rank 12 = .ok (.aload_n 0, 1) := by decide +kernel
theorem dX8_rank_13 : decode cX8_rank 13 = .ok (.iload_n 1, 1) := by decide +kernel
theorem dX8_rank_14 : decode cX8_rank 14 = .ok (.iconst 0, 1) := by decide +kernel
theorem dX8_rank_15 : decode cX8_rank 15 = .ok (.invokevirtual 71, 3) := by decide +kernel
theorem dX8_rank_18 : decode cX8_rank 18 = .ok (.goto 8, 3) := by decide +kernel
theorem dX8_rank_21 : decode cX8_rank 21 = .ok (.aload_n 0, 1) := by decide +kernel
theorem dX8_rank_22 : decode cX8_rank 22 = .ok (.iconst 1, 1) := by decide +kernel
theorem dX8_rank_23 : decode cX8_rank 23 = .ok (.invokevirtual 61, 3) := by decide +kernel
theorem dX8_rank_26 : decode cX8_rank 26 = .ok (.ireturn, 1) := by decide +kernel
set_option maxRecDepth 20000 in
theorem ggX8_rankAgain_X8_rank : GoodIn wsX8_rankAgain wsX8_rank := goodIn_ca (goodIn_r _ [5, 6, 7, 8, 4, 9, 10, 11, 12, 13, 14, 15, 16, 17, 18, 19, 20, 21, 22, 23, 24, 25, 26, 27, 28, 29, 30, 31, 32, 33, 34, 35, 36, 37, 38, 39, 40, 41, 42, 43, 44, 45, 46, 47] (by decide +kernel) (by decide +kernel)) (goodIn_sub (fun _ h => List.mem_cons_of_mem _ (List.mem_append_right _ h)) (by decide +kernel))
set_option maxRecDepth 20000 in
theorem gX8_rankAgain_X8_rank : GoodIn wsX8_rankAgain (wsV RX8 152 RX8 yX8_rank wsX8_rank) := goodIn_app (goodIn_of _ (by decide +kernel)) ggX8_rankAgain_X8_rank
theorem dX8_rankAgain_0 : decode cX8_rankAgain 0 = .ok (.aload_n 0, 1) := by decide +kernel
theorem dX8_rankAgain_1 : decode cX8_rankAgain 1 = .ok (.iload_n 1, 1) := by decide +kernel
theorem dX8_rankAgain_2 : decode cX8_rankAgain 2 = .ok (.invokevirtual 152, 3) := by decide +kernel
theorem dX8_rankAgain_5 : decode cX8_rankAgain 5 = .ok (.ireturn, 1) := by decide +kernel
set_option maxRecDepth 20000 in
theorem ggX8_keyAt_X8_in : GoodIn wsX8_keyAt wsX8_in := goodIn_r _ [6] (by decide +kernel) (by decide +kernel)
set_option maxRecDepth 20000 in
theorem gX8_keyAt_X8_in : GoodIn wsX8_keyAt (va_wsS RX8 64 yX8_in wsX8_in) := goodIn_app (goodIn_of _ (by decide +kernel)) ggX8_keyAt_X8_in
set_option maxRecDepth 20000 in
theorem ggX8_keyAt_X8_key : GoodIn wsX8_keyAt wsX8_key := goodIn_ca (goodIn_r _ [10, 2, 15, 16, 17, 18, 19, 20, 21, 22, 23, 24, 25, 26, 27, 28, 29, 30, 31, 32, 33, 34, 35, 36] (by decide +kernel) (by decide +kernel)) (goodIn_sub (fun _ h => List.mem_cons_of_mem _ (List.mem_append_right _ h)) (by decide +kernel))
set_option maxRecDepth 20000 in
theorem gX8_keyAt_X8_key : GoodIn wsX8_keyAt (wsV RX8 68 RX8 yX8_key wsX8_key) := goodIn_app (goodIn_of _ (by decide +kernel)) ggX8_keyAt_X8_key
set_option maxRecDepth 20000 in
theorem ggX8_keyAt_X8_raises : GoodIn wsX8_keyAt wsX8_raises := goodIn_r _ [14, 1, 15, 16, 17, 18, 19, 20, 21, 22, 23, 24, 25, 26, 27, 28, 29, 30, 31, 32, 33, 34, 35, 36] (by decide +kernel) (by decide +kernel)
set_option maxRecDepth 20000 in
theorem gX8_keyAt_X8_raises : GoodIn wsX8_keyAt (wsV RX8 61 RX8 yX8_raises wsX8_raises) := goodIn_app (goodIn_of _ (by decide +kernel)) ggX8_keyAt_X8_raises
theorem dX8_keyAt_0 : decode cX8_keyAt 0 = .ok (.aload_n 0, 1) := by decide +kernel
theorem dX8_keyAt_1 : decode cX8_keyAt 1 = .ok (.iconst 0, 1) := by decide +kernel
theorem dX8_keyAt_2 : decode cX8_keyAt 2 = .ok (.putfield 39, 3) := by decide +kernel
theorem dX8_keyAt_5 : decode cX8_keyAt 5 = .ok (.iload_n 1, 1) := by decide +kernel
theorem dX8_keyAt_6 : decode cX8_keyAt 6 = .ok (.iconst 0, 1) := by decide +kernel
theorem dX8_keyAt_7 : decode cX8_keyAt 7 = .ok (.aload_n 0, 1) := by decide +kernel
theorem dX8_keyAt_8 : decode cX8_keyAt 8 = .ok (.getfield 9, 3) := by decide +kernel
theorem dX8_keyAt_11 : decode cX8_keyAt 11 = .ok (.iconst 0, 1) := by decide +kernel
theorem dX8_keyAt_12 : decode cX8_keyAt 12 = .ok (.iaload, 1) := by decide +kernel
theorem dX8_keyAt_13 : decode cX8_keyAt 13 = .ok (.iconst 1, 1) := by decide +kernel
theorem dX8_keyAt_14 : decode cX8_keyAt 14 = .ok (.isub, 1) := by decide +kernel
theorem dX8_keyAt_15 : decode cX8_keyAt 15 = .ok (.invokestatic 64, 3) := by decide +kernel
theorem dX8_keyAt_18 : decode cX8_keyAt 18 = .ok (.ifCond .eq 11, 3) := by decide +kernel
theorem dX8_keyAt_21 : decode cX8_keyAt 21 = .ok (.aload_n 0, 1) := by decide +kernel
theorem dX8_keyAt_22 : decode cX8_keyAt 22 = .ok (.iload_n 1, 1) := by decide +kernel
theorem dX8_keyAt_23 : decode cX8_keyAt 23 = .ok (.invokevirtual 68, 3) := by decide +kernel
theorem dX8_keyAt_26 : decode cX8_keyAt 26 = .ok (.goto 8, 3) := by decide +kernel
theorem dX8_keyAt_29 : decode cX8_keyAt 29 = .ok (.aload_n 0, 1) := by decide +kernel
theorem dX8_keyAt_30 : decode cX8_keyAt 30 = .ok (.iconst 1, 1) := by decide +kernel
theorem dX8_keyAt_31 : decode cX8_keyAt 31 = .ok (.invokevirtual 61, 3) := by decide +kernel
theorem dX8_keyAt_34 : decode cX8_keyAt 34 = .ok (.ireturn, 1) := by decide +kernel
set_option maxRecDepth 20000 in
theorem ggX8_steps_X8_isKey : GoodIn wsX8_steps wsX8_isKey := goodIn_r _ [5, 6, 7, 4, 8] (by decide +kernel) (by decide +kernel)
set_option maxRecDepth 20000 in
theorem gX8_steps_X8_isKey : GoodIn wsX8_steps (va_wsS RX8 78 yX8_isKey wsX8_isKey) := goodIn_app (goodIn_of _ (by decide +kernel)) ggX8_steps_X8_isKey
set_option maxRecDepth 20000 in
theorem ggX8_steps_X8_searches : GoodIn wsX8_steps wsX8_searches := goodIn_ca (goodIn_r _ [12, 13, 14, 15, 16, 17, 18, 19, 4, 20, 21, 22, 23, 24, 25, 26, 27, 28, 29, 30, 31, 32, 33, 34, 35, 36, 37, 38, 39, 40, 45, 46, 47, 48, 49, 50, 51, 52, 53, 54, 55, 56, 57, 58, 59, 60, 61, 62, 63, 64, 65, 66] (by decide +kernel) (by decide +kernel)) (goodIn_sub (fun _ h => List.mem_cons_of_mem _ (List.mem_append_right _ h)) (by decide +kernel))
set_option maxRecDepth 20000 in
theorem gX8_steps_X8_searches : GoodIn wsX8_steps (wsV RX8 149 RX8 yX8_searches wsX8_searches) := goodIn_app (goodIn_of _ (by decide +kernel)) ggX8_steps_X8_searches
set_option maxRecDepth 20000 in
theorem ggX8_steps_X8_raises : GoodIn wsX8_steps wsX8_raises := goodIn_r _ [44, 1, 45, 46, 47, 48, 49, 50, 51, 52, 53, 54, 55, 56, 57, 58, 59, 60, 61, 62, 63, 64, 65, 66] (by decide +kernel) (by decide +kernel)
set_option maxRecDepth 20000 in
theorem gX8_steps_X8_raises : GoodIn wsX8_steps (wsV RX8 61 RX8 yX8_raises wsX8_raises) := goodIn_app (goodIn_of _ (by decide +kernel)) ggX8_steps_X8_raises
theorem dX8_steps_0 : decode cX8_steps 0 = .ok (.aload_n 0, 1) := by decide +kernel
theorem dX8_steps_1 : decode cX8_steps 1 = .ok (.iconst 0, 1) := by decide +kernel
theorem dX8_steps_2 : decode cX8_steps 2 = .ok (.putfield 39, 3) := by decide +kernel
theorem dX8_steps_5 : decode cX8_steps 5 = .ok (.iload_n 1, 1) := by decide +kernel
theorem dX8_steps_6 : decode cX8_steps 6 = .ok (.invokestatic 78, 3) := by decide +kernel
theorem dX8_steps_9 : decode cX8_steps 9 = .ok (.ifCond .eq 11, 3) := by decide +kernel
theorem dX8_steps_12 : decode cX8_steps 12 = .ok (.aload_n 0, 1) := by decide +kernel
theorem dX8_steps_13 : decode cX8_steps 13 = .ok (.iload_n 1, 1) := by decide +kernel
theorem dX8_steps_14 : decode cX8_steps 14 = .ok (.invokevirtual 149, 3) := by decide +kernel
theorem dX8_steps_17 : decode cX8_steps 17 = .ok (.goto 8, 3) := by decide +kernel
theorem dX8_steps_20 : decode cX8_steps 20 = .ok (.aload_n 0, 1) := by decide +kernel
theorem dX8_steps_21 : decode cX8_steps 21 = .ok (.iconst 1, 1) := by decide +kernel
theorem dX8_steps_22 : decode cX8_steps 22 = .ok (.invokevirtual 61, 3) := by decide +kernel
theorem dX8_steps_25 : decode cX8_steps 25 = .ok (.ireturn, 1) := by decide +kernel
set_option maxRecDepth 20000 in
theorem ggX8_stepsAgain_X8_steps : GoodIn wsX8_stepsAgain wsX8_steps := goodIn_ca (goodIn_r _ [5, 6, 7, 8, 4, 9, 10, 11, 12, 13, 14, 15, 16, 17, 18, 19, 20, 21, 22, 23, 24, 25, 26, 27, 28, 29, 30, 31, 32, 33, 34, 35, 36, 37, 38, 39, 40, 41, 42, 43, 44, 45, 46, 47, 48, 49, 50, 51, 52, 53, 54, 55, 56, 57, 58, 59, 60, 61, 62, 63, 64, 65, 66, 67, 68, 69, 70] (by decide +kernel) (by decide +kernel)) (goodIn_sub (fun _ h => List.mem_cons_of_mem _ (List.mem_append_right _ h)) (by decide +kernel))
set_option maxRecDepth 20000 in
theorem gX8_stepsAgain_X8_steps : GoodIn wsX8_stepsAgain (wsV RX8 155 RX8 yX8_steps wsX8_steps) := goodIn_app (goodIn_of _ (by decide +kernel)) ggX8_stepsAgain_X8_steps
theorem dX8_stepsAgain_0 : decode cX8_stepsAgain 0 = .ok (.aload_n 0, 1) := by decide +kernel
theorem dX8_stepsAgain_1 : decode cX8_stepsAgain 1 = .ok (.iload_n 1, 1) := by decide +kernel
theorem dX8_stepsAgain_2 : decode cX8_stepsAgain 2 = .ok (.invokevirtual 155, 3) := by decide +kernel
theorem dX8_stepsAgain_5 : decode cX8_stepsAgain 5 = .ok (.ireturn, 1) := by decide +kernel
set_option maxRecDepth 20000 in
theorem ggX8_placeOf_X8_isKey : GoodIn wsX8_placeOf wsX8_isKey := goodIn_r _ [7, 8, 9, 6, 10] (by decide +kernel) (by decide +kernel)
set_option maxRecDepth 20000 in
theorem gX8_placeOf_X8_isKey : GoodIn wsX8_placeOf (va_wsS RX8 78 yX8_isKey wsX8_isKey) := goodIn_app (goodIn_of _ (by decide +kernel)) ggX8_placeOf_X8_isKey
set_option maxRecDepth 20000 in
theorem ggX8_placeOf_X8_raises : GoodIn wsX8_placeOf wsX8_raises := goodIn_r _ [14, 1, 45, 46, 47, 48, 49, 50, 51, 52, 53, 54, 55, 56, 57, 58, 59, 60, 61, 62, 63, 64, 65, 66] (by decide +kernel) (by decide +kernel)
set_option maxRecDepth 20000 in
theorem gX8_placeOf_X8_raises : GoodIn wsX8_placeOf (wsV RX8 61 RX8 yX8_raises wsX8_raises) := goodIn_app (goodIn_of _ (by decide +kernel)) ggX8_placeOf_X8_raises
set_option maxRecDepth 20000 in
theorem ggX8_placeOf_X8_searches : GoodIn wsX8_placeOf wsX8_searches := goodIn_ca (goodIn_r _ [18, 2, 19, 20, 3, 21, 22, 23, 6, 24, 25, 26, 27, 28, 29, 30, 31, 32, 33, 34, 35, 36, 37, 38, 39, 40, 41, 42, 43, 44, 45, 46, 47, 48, 49, 50, 51, 52, 53, 54, 55, 56, 57, 58, 59, 60, 61, 62, 63, 64, 65, 66] (by decide +kernel) (by decide +kernel)) (goodIn_sub (fun _ h => List.mem_cons_of_mem _ (List.mem_append_right _ h)) (by decide +kernel))
set_option maxRecDepth 20000 in
theorem gX8_placeOf_X8_searches : GoodIn wsX8_placeOf (wsV RX8 149 RX8 yX8_searches wsX8_searches) := goodIn_app (goodIn_of _ (by decide +kernel)) ggX8_placeOf_X8_searches
set_option maxRecDepth 20000 in
theorem ggX8_placeOf_X8_in : GoodIn wsX8_placeOf wsX8_in := goodIn_r _ [10] (by decide +kernel) (by decide +kernel)
set_option maxRecDepth 20000 in
theorem gX8_placeOf_X8_in : GoodIn wsX8_placeOf (va_wsS RX8 64 yX8_in wsX8_in) := goodIn_app (goodIn_of _ (by decide +kernel)) ggX8_placeOf_X8_in
set_option maxRecDepth 20000 in
theorem ggX8_placeOf_X8_key : GoodIn wsX8_placeOf wsX8_key := goodIn_ca (goodIn_r _ [44, 20, 45, 46, 47, 48, 49, 50, 51, 52, 53, 54, 55, 56, 57, 58, 59, 60, 61, 62, 63, 64, 65, 66] (by decide +kernel) (by decide +kernel)) (goodIn_sub (fun _ h => List.mem_cons_of_mem _ (List.mem_append_right _ h)) (by decide +kernel))
set_option maxRecDepth 20000 in
theorem gX8_placeOf_X8_key : GoodIn wsX8_placeOf (wsV RX8 68 RX8 yX8_key wsX8_key) := goodIn_app (goodIn_of _ (by decide +kernel)) ggX8_placeOf_X8_key
theorem dX8_placeOf_0 : decode cX8_placeOf 0 = .ok (.aload_n 0, 1) := by decide +kernel
theorem dX8_placeOf_1 : decode cX8_placeOf 1 = .ok (.iconst 0, 1) := by decide +kernel
theorem dX8_placeOf_2 : decode cX8_placeOf 2 = .ok (.putfield 39, 3) := by decide +kernel
theorem dX8_placeOf_5 : decode cX8_placeOf 5 = .ok (.iload_n 1, 1) := by decide +kernel
theorem dX8_placeOf_6 : decode cX8_placeOf 6 = .ok (.invokestatic 78, 3) := by decide +kernel
theorem dX8_placeOf_9 : decode cX8_placeOf 9 = .ok (.ifCond .ne 9, 3) := by decide +kernel
theorem dX8_placeOf_12 : decode cX8_placeOf 12 = .ok (.aload_n 0, 1) := by decide +kernel
theorem dX8_placeOf_13 : decode cX8_placeOf 13 = .ok (.iconst 1, 1) := by decide +kernel
theorem dX8_placeOf_14 : decode cX8_placeOf 14 = .ok (.invokevirtual 61, 3) := by decide +kernel
theorem dX8_placeOf_17 : decode cX8_placeOf 17 = .ok (.ireturn, 1) := by decide +kernel
theorem dX8_placeOf_18 : decode cX8_placeOf 18 = .ok (.aload_n 0, 1) := by decide +kernel
theorem dX8_placeOf_19 : decode cX8_placeOf 19 = .ok (.iload_n 1, 1) := by decide +kernel
theorem dX8_placeOf_20 : decode cX8_placeOf 20 = .ok (.invokevirtual 149, 3) := by decide +kernel
theorem dX8_placeOf_23 : decode cX8_placeOf 23 = .ok (.istore_n 3, 1) := by decide +kernel
theorem dX8_placeOf_24 : decode cX8_placeOf 24 = .ok (.iload_n 2, 1) := by decide +kernel
theorem dX8_placeOf_25 : decode cX8_placeOf 25 = .ok (.iconst 0, 1) := by decide +kernel
theorem dX8_placeOf_26 : decode cX8_placeOf 26 = .ok (.aload_n 0, 1) := by decide +kernel
theorem dX8_placeOf_27 : decode cX8_placeOf 27 = .ok (.getfield 139, 3) := by decide +kernel
theorem dX8_placeOf_30 : decode cX8_placeOf 30 = .ok (.invokestatic 64, 3) := by decide +kernel
theorem dX8_placeOf_33 : decode cX8_placeOf 33 = .ok (.ifCond .ne 9, 3) := by decide +kernel
theorem dX8_placeOf_36 : decode cX8_placeOf 36 = .ok (.aload_n 0, 1) := by decide +kernel
theorem dX8_placeOf_37 : decode cX8_placeOf 37 = .ok (.iconst 2, 1) := by decide +kernel
theorem dX8_placeOf_38 : decode cX8_placeOf 38 = .ok (.invokevirtual 61, 3) := by decide +kernel
theorem dX8_placeOf_41 : decode cX8_placeOf 41 = .ok (.ireturn, 1) := by decide +kernel
theorem dX8_placeOf_42 : decode cX8_placeOf 42 = .ok (.iload_n 2, 1) := by decide +kernel
theorem dX8_placeOf_43 : decode cX8_placeOf 43 = .ok (.ifCond .ne 7, 3) := by decide +kernel
theorem dX8_placeOf_46 : decode cX8_placeOf 46 = .ok (.iconst (-1), 1) := by decide +kernel
theorem dX8_placeOf_47 : decode cX8_placeOf 47 = .ok (.goto 15, 3) := by decide +kernel
theorem dX8_placeOf_50 : decode cX8_placeOf 50 = .ok (.aload_n 0, 1) := by decide +kernel
theorem dX8_placeOf_51 : decode cX8_placeOf 51 = .ok (.aload_n 0, 1) := by decide +kernel
theorem dX8_placeOf_52 : decode cX8_placeOf 52 = .ok (.getfield 36, 3) := by decide +kernel
theorem dX8_placeOf_55 : decode cX8_placeOf 55 = .ok (.iload_n 2, 1) := by decide +kernel
theorem dX8_placeOf_56 : decode cX8_placeOf 56 = .ok (.iconst 1, 1) := by decide +kernel
theorem dX8_placeOf_57 : decode cX8_placeOf 57 = .ok (.isub, 1) := by decide +kernel
theorem dX8_placeOf_58 : decode cX8_placeOf 58 = .ok (.iaload, 1) := by decide +kernel
theorem dX8_placeOf_59 : decode cX8_placeOf 59 = .ok (.invokevirtual 68, 3) := by decide +kernel
theorem dX8_placeOf_62 : decode cX8_placeOf 62 = .ok (.ireturn, 1) := by decide +kernel
set_option maxRecDepth 20000 in
theorem ggX8_falls_X8_isKey : GoodIn wsX8_falls wsX8_isKey := goodIn_r _ [6, 7, 8, 5, 9] (by decide +kernel) (by decide +kernel)
set_option maxRecDepth 20000 in
theorem gX8_falls_X8_isKey : GoodIn wsX8_falls (va_wsS RX8 78 yX8_isKey wsX8_isKey) := goodIn_app (goodIn_of _ (by decide +kernel)) ggX8_falls_X8_isKey
set_option maxRecDepth 20000 in
theorem ggX8_falls_X8_raises : GoodIn wsX8_falls wsX8_raises := goodIn_r _ [13, 1, 45, 46, 47, 48, 49, 50, 51, 52, 53, 54, 55, 56, 57, 58, 59, 60, 61, 62, 63, 64, 65, 66] (by decide +kernel) (by decide +kernel)
set_option maxRecDepth 20000 in
theorem gX8_falls_X8_raises : GoodIn wsX8_falls (wsV RX8 61 RX8 yX8_raises wsX8_raises) := goodIn_app (goodIn_of _ (by decide +kernel)) ggX8_falls_X8_raises
set_option maxRecDepth 20000 in
theorem ggX8_falls_X8_searches : GoodIn wsX8_falls wsX8_searches := goodIn_ca (goodIn_r _ [17, 18, 2, 19, 20, 21, 22, 23, 5, 24, 25, 26, 27, 28, 29, 30, 31, 32, 33, 34, 35, 36, 37, 38, 39, 40, 41, 42, 43, 44, 45, 46, 47, 48, 49, 50, 51, 52, 53, 54, 55, 56, 57, 58, 59, 60, 61, 62, 63, 64, 65, 66] (by decide +kernel) (by decide +kernel)) (goodIn_sub (fun _ h => List.mem_cons_of_mem _ (List.mem_append_right _ h)) (by decide +kernel))
set_option maxRecDepth 20000 in
theorem gX8_falls_X8_searches : GoodIn wsX8_falls (wsV RX8 149 RX8 yX8_searches wsX8_searches) := goodIn_app (goodIn_of _ (by decide +kernel)) ggX8_falls_X8_searches
theorem dX8_falls_0 : decode cX8_falls 0 = .ok (.aload_n 0, 1) := by decide +kernel
theorem dX8_falls_1 : decode cX8_falls 1 = .ok (.iconst 0, 1) := by decide +kernel
theorem dX8_falls_2 : decode cX8_falls 2 = .ok (.putfield 39, 3) := by decide +kernel
theorem dX8_falls_5 : decode cX8_falls 5 = .ok (.iload_n 1, 1) := by decide +kernel
theorem dX8_falls_6 : decode cX8_falls 6 = .ok (.invokestatic 78, 3) := by decide +kernel
theorem dX8_falls_9 : decode cX8_falls 9 = .ok (.ifCond .ne 9, 3) := by decide +kernel
theorem dX8_falls_12 : decode cX8_falls 12 = .ok (.aload_n 0, 1) := by decide +kernel
theorem dX8_falls_13 : decode cX8_falls 13 = .ok (.iconst 1, 1) := by decide +kernel
theorem dX8_falls_14 : decode cX8_falls 14 = .ok (.invokevirtual 61, 3) := by decide +kernel
theorem dX8_falls_17 : decode cX8_falls 17 = .ok (.ireturn, 1) := by decide +kernel
theorem dX8_falls_18 : decode cX8_falls 18 = .ok (.aload_n 0, 1) := by decide +kernel
theorem dX8_falls_19 : decode cX8_falls 19 = .ok (.iload_n 1, 1) := by decide +kernel
theorem dX8_falls_20 : decode cX8_falls 20 = .ok (.invokevirtual 149, 3) := by decide +kernel
theorem dX8_falls_23 : decode cX8_falls 23 = .ok (.istore_n 2, 1) := by decide +kernel
theorem dX8_falls_24 : decode cX8_falls 24 = .ok (.aload_n 0, 1) := by decide +kernel
theorem dX8_falls_25 : decode cX8_falls 25 = .ok (.getfield 142, 3) := by decide +kernel
theorem dX8_falls_28 : decode cX8_falls 28 = .ok (.ireturn, 1) := by decide +kernel
set_option maxRecDepth 20000 in
theorem ggX8_floor_X8_isKey : GoodIn wsX8_floor wsX8_isKey := goodIn_r _ [5, 6, 7, 4, 8] (by decide +kernel) (by decide +kernel)
set_option maxRecDepth 20000 in
theorem gX8_floor_X8_isKey : GoodIn wsX8_floor (va_wsS RX8 78 yX8_isKey wsX8_isKey) := goodIn_app (goodIn_of _ (by decide +kernel)) ggX8_floor_X8_isKey
set_option maxRecDepth 20000 in
theorem ggX8_floor_X8_raises : GoodIn wsX8_floor wsX8_raises := goodIn_r _ [12, 1, 22, 23, 24, 25, 26, 27, 28, 29, 30, 31, 32, 33, 34, 35, 36, 37, 38, 39, 40, 41, 42, 43] (by decide +kernel) (by decide +kernel)
set_option maxRecDepth 20000 in
theorem gX8_floor_X8_raises : GoodIn wsX8_floor (wsV RX8 61 RX8 yX8_raises wsX8_raises) := goodIn_app (goodIn_of _ (by decide +kernel)) ggX8_floor_X8_raises
set_option maxRecDepth 20000 in
theorem ggX8_floor_X8_lower : GoodIn wsX8_floor wsX8_lower := goodIn_ca (goodIn_r _ [16, 17, 18, 19, 20, 4, 21, 22, 23, 24, 25, 26, 27, 28, 29, 30, 31, 32, 33, 34, 35, 36, 37, 38, 39, 40, 41, 42, 43] (by decide +kernel) (by decide +kernel)) (goodIn_sub (fun _ h => List.mem_cons_of_mem _ (List.mem_append_right _ h)) (by decide +kernel))
set_option maxRecDepth 20000 in
theorem gX8_floor_X8_lower : GoodIn wsX8_floor (wsV RX8 71 RX8 yX8_lower wsX8_lower) := goodIn_app (goodIn_of _ (by decide +kernel)) ggX8_floor_X8_lower
set_option maxRecDepth 20000 in
theorem ggX8_floor_X8_key : GoodIn wsX8_floor wsX8_key := goodIn_ca (goodIn_r _ [21, 17, 22, 23, 24, 25, 26, 27, 28, 29, 30, 31, 32, 33, 34, 35, 36, 37, 38, 39, 40, 41, 42, 43] (by decide +kernel) (by decide +kernel)) (goodIn_sub (fun _ h => List.mem_cons_of_mem _ (List.mem_append_right _ h)) (by decide +kernel))
set_option maxRecDepth 20000 in
theorem gX8_floor_X8_key : GoodIn wsX8_floor (wsV RX8 68 RX8 yX8_key wsX8_key) := goodIn_app (goodIn_of _ (by decide +kernel)) ggX8_floor_X8_key
theorem dX8_floor_0 : decode cX8_floor 0 = .ok (.aload_n 0, 1) := by decide +kernel
theorem dX8_floor_1 : decode cX8_floor 1 = .ok (.iconst 0, 1) := by decide +kernel
theorem dX8_floor_2 : decode cX8_floor 2 = .ok (.putfield 39, 3) := by decide +kernel
theorem dX8_floor_5 : decode cX8_floor 5 = .ok (.iload_n 1, 1) := by decide +kernel
theorem dX8_floor_6 : decode cX8_floor 6 = .ok (.invokestatic 78, 3) := by decide +kernel
theorem dX8_floor_9 : decode cX8_floor 9 = .ok (.ifCond .ne 9, 3) := by decide +kernel
theorem dX8_floor_12 : decode cX8_floor 12 = .ok (.aload_n 0, 1) := by decide +kernel
theorem dX8_floor_13 : decode cX8_floor 13 = .ok (.iconst 1, 1) := by decide +kernel
theorem dX8_floor_14 : decode cX8_floor 14 = .ok (.invokevirtual 61, 3) := by decide +kernel
theorem dX8_floor_17 : decode cX8_floor 17 = .ok (.ireturn, 1) := by decide +kernel
theorem dX8_floor_18 : decode cX8_floor 18 = .ok (.aload_n 0, 1) := by decide +kernel
theorem dX8_floor_19 : decode cX8_floor 19 = .ok (.iload_n 1, 1) := by decide +kernel
theorem dX8_floor_20 : decode cX8_floor 20 = .ok (.iconst 1, 1) := by decide +kernel
theorem dX8_floor_21 : decode cX8_floor 21 = .ok (.invokevirtual 71, 3) := by decide +kernel
theorem dX8_floor_24 : decode cX8_floor 24 = .ok (.istore_n 2, 1) := by decide +kernel
theorem dX8_floor_25 : decode cX8_floor 25 = .ok (.iload_n 2, 1) := by decide +kernel
theorem dX8_floor_26 : decode cX8_floor 26 = .ok (.ifCond .ne 11, 3) := by decide +kernel
theorem dX8_floor_29 : decode cX8_floor 29 = .ok (.aload_n 0, 1) := by decide +kernel
theorem dX8_floor_30 : decode cX8_floor 30 = .ok (.iconst 2, 1) := by decide +kernel
theorem dX8_floor_31 : decode cX8_floor 31 = .ok (.invokevirtual 61, 3) := by decide +kernel
theorem dX8_floor_34 : decode cX8_floor 34 = .ok (.goto 10, 3) := by decide +kernel
theorem dX8_floor_37 : decode cX8_floor 37 = .ok (.aload_n 0, 1) := by decide +kernel
theorem dX8_floor_38 : decode cX8_floor 38 = .ok (.iload_n 2, 1) := by decide +kernel
theorem dX8_floor_39 : decode cX8_floor 39 = .ok (.iconst 1, 1) := by decide +kernel
theorem dX8_floor_40 : decode cX8_floor 40 = .ok (.isub, 1) := by decide +kernel
theorem dX8_floor_41 : decode cX8_floor 41 = .ok (.invokevirtual 68, 3) := by decide +kernel
theorem dX8_floor_44 : decode cX8_floor 44 = .ok (.ireturn, 1) := by decide +kernel
set_option maxRecDepth 20000 in
theorem ggX8_ceiling_X8_isKey : GoodIn wsX8_ceiling wsX8_isKey := goodIn_r _ [6, 7, 8, 5, 9] (by decide +kernel) (by decide +kernel)
set_option maxRecDepth 20000 in
theorem gX8_ceiling_X8_isKey : GoodIn wsX8_ceiling (va_wsS RX8 78 yX8_isKey wsX8_isKey) := goodIn_app (goodIn_of _ (by decide +kernel)) ggX8_ceiling_X8_isKey
set_option maxRecDepth 20000 in
theorem ggX8_ceiling_X8_raises : GoodIn wsX8_ceiling wsX8_raises := goodIn_r _ [13, 1, 22, 23, 24, 25, 26, 27, 28, 29, 30, 31, 32, 33, 34, 35, 36, 37, 38, 39, 40, 41, 42, 43] (by decide +kernel) (by decide +kernel)
set_option maxRecDepth 20000 in
theorem gX8_ceiling_X8_raises : GoodIn wsX8_ceiling (wsV RX8 61 RX8 yX8_raises wsX8_raises) := goodIn_app (goodIn_of _ (by decide +kernel)) ggX8_ceiling_X8_raises
set_option maxRecDepth 20000 in
theorem ggX8_ceiling_X8_lower : GoodIn wsX8_ceiling wsX8_lower := goodIn_ca (goodIn_r _ [17, 2, 18, 19, 20, 5, 21, 22, 23, 24, 25, 26, 27, 28, 29, 30, 31, 32, 33, 34, 35, 36, 37, 38, 39, 40, 41, 42, 43] (by decide +kernel) (by decide +kernel)) (goodIn_sub (fun _ h => List.mem_cons_of_mem _ (List.mem_append_right _ h)) (by decide +kernel))
set_option maxRecDepth 20000 in
theorem gX8_ceiling_X8_lower : GoodIn wsX8_ceiling (wsV RX8 71 RX8 yX8_lower wsX8_lower) := goodIn_app (goodIn_of _ (by decide +kernel)) ggX8_ceiling_X8_lower
set_option maxRecDepth 20000 in
theorem ggX8_ceiling_X8_key : GoodIn wsX8_ceiling wsX8_key := goodIn_ca (goodIn_r _ [21, 2, 22, 23, 24, 25, 26, 27, 28, 29, 30, 31, 32, 33, 34, 35, 36, 37, 38, 39, 40, 41, 42, 43] (by decide +kernel) (by decide +kernel)) (goodIn_sub (fun _ h => List.mem_cons_of_mem _ (List.mem_append_right _ h)) (by decide +kernel))
set_option maxRecDepth 20000 in
theorem gX8_ceiling_X8_key : GoodIn wsX8_ceiling (wsV RX8 68 RX8 yX8_key wsX8_key) := goodIn_app (goodIn_of _ (by decide +kernel)) ggX8_ceiling_X8_key
theorem dX8_ceiling_0 : decode cX8_ceiling 0 = .ok (.aload_n 0, 1) := by decide +kernel
theorem dX8_ceiling_1 : decode cX8_ceiling 1 = .ok (.iconst 0, 1) := by decide +kernel
theorem dX8_ceiling_2 : decode cX8_ceiling 2 = .ok (.putfield 39, 3) := by decide +kernel
theorem dX8_ceiling_5 : decode cX8_ceiling 5 = .ok (.iload_n 1, 1) := by decide +kernel
theorem dX8_ceiling_6 : decode cX8_ceiling 6 = .ok (.invokestatic 78, 3) := by decide +kernel
theorem dX8_ceiling_9 : decode cX8_ceiling 9 = .ok (.ifCond .ne 9, 3) := by decide +kernel
theorem dX8_ceiling_12 : decode cX8_ceiling 12 = .ok (.aload_n 0, 1) := by decide +kernel
theorem dX8_ceiling_13 : decode cX8_ceiling 13 = .ok (.iconst 1, 1) := by decide +kernel
theorem dX8_ceiling_14 : decode cX8_ceiling 14 = .ok (.invokevirtual 61, 3) := by decide +kernel
theorem dX8_ceiling_17 : decode cX8_ceiling 17 = .ok (.ireturn, 1) := by decide +kernel
theorem dX8_ceiling_18 : decode cX8_ceiling 18 = .ok (.aload_n 0, 1) := by decide +kernel
theorem dX8_ceiling_19 : decode cX8_ceiling 19 = .ok (.iload_n 1, 1) := by decide +kernel
theorem dX8_ceiling_20 : decode cX8_ceiling 20 = .ok (.iconst 0, 1) := by decide +kernel
theorem dX8_ceiling_21 : decode cX8_ceiling 21 = .ok (.invokevirtual 71, 3) := by decide +kernel
theorem dX8_ceiling_24 : decode cX8_ceiling 24 = .ok (.istore_n 2, 1) := by decide +kernel
theorem dX8_ceiling_25 : decode cX8_ceiling 25 = .ok (.iload_n 2, 1) := by decide +kernel
theorem dX8_ceiling_26 : decode cX8_ceiling 26 = .ok (.aload_n 0, 1) := by decide +kernel
theorem dX8_ceiling_27 : decode cX8_ceiling 27 = .ok (.getfield 9, 3) := by decide +kernel
theorem dX8_ceiling_30 : decode cX8_ceiling 30 = .ok (.iconst 0, 1) := by decide +kernel
theorem dX8_ceiling_31 : decode cX8_ceiling 31 = .ok (.iaload, 1) := by decide +kernel
theorem dX8_ceiling_32 : decode cX8_ceiling 32 = .ok (.if_icmp .ne 11, 3) := by decide +kernel
theorem dX8_ceiling_35 : decode cX8_ceiling 35 = .ok (.aload_n 0, 1) := by decide +kernel
theorem dX8_ceiling_36 : decode cX8_ceiling 36 = .ok (.iconst 2, 1) := by decide +kernel
theorem dX8_ceiling_37 : decode cX8_ceiling 37 = .ok (.invokevirtual 61, 3) := by decide +kernel
theorem dX8_ceiling_40 : decode cX8_ceiling 40 = .ok (.goto 8, 3) := by decide +kernel
theorem dX8_ceiling_43 : decode cX8_ceiling 43 = .ok (.aload_n 0, 1) := by decide +kernel
theorem dX8_ceiling_44 : decode cX8_ceiling 44 = .ok (.iload_n 2, 1) := by decide +kernel
theorem dX8_ceiling_45 : decode cX8_ceiling 45 = .ok (.invokevirtual 68, 3) := by decide +kernel
theorem dX8_ceiling_48 : decode cX8_ceiling 48 = .ok (.ireturn, 1) := by decide +kernel
set_option maxRecDepth 20000 in
theorem ggX8_isRange_X8_isKey : GoodIn wsX8_isRange wsX8_isKey := goodIn_r _ [4, 5, 6, 3, 7] (by decide +kernel) (by decide +kernel)
set_option maxRecDepth 20000 in
theorem gX8_isRange_X8_isKey : GoodIn wsX8_isRange (va_wsS RX8 78 yX8_isKey wsX8_isKey) := goodIn_app (goodIn_of _ (by decide +kernel)) ggX8_isRange_X8_isKey
theorem dX8_isRange_0 : decode cX8_isRange 0 = .ok (.iload_n 0, 1) := by decide +kernel
theorem dX8_isRange_1 : decode cX8_isRange 1 = .ok (.invokestatic 78, 3) := by decide +kernel
theorem dX8_isRange_4 : decode cX8_isRange 4 = .ok (.ifCond .eq 19, 3) := by decide +kernel
theorem dX8_isRange_7 : decode cX8_isRange 7 = .ok (.iload_n 1, 1) := by decide +kernel
theorem dX8_isRange_8 : decode cX8_isRange 8 = .ok (.invokestatic 78, 3) := by decide +kernel
theorem dX8_isRange_11 : decode cX8_isRange 11 = .ok (.ifCond .eq 12, 3) := by decide +kernel
theorem dX8_isRange_14 : decode cX8_isRange 14 = .ok (.iload_n 0, 1) := by decide +kernel
theorem dX8_isRange_15 : decode cX8_isRange 15 = .ok (.iload_n 1, 1) := by decide +kernel
theorem dX8_isRange_16 : decode cX8_isRange 16 = .ok (.if_icmp .gt 7, 3) := by decide +kernel
theorem dX8_isRange_19 : decode cX8_isRange 19 = .ok (.iconst 1, 1) := by decide +kernel
theorem dX8_isRange_20 : decode cX8_isRange 20 = .ok (.goto 4, 3) := by decide +kernel
theorem dX8_isRange_23 : decode cX8_isRange 23 = .ok (.iconst 0, 1) := by decide +kernel
theorem dX8_isRange_24 : decode cX8_isRange 24 = .ok (.ireturn, 1) := by decide +kernel
set_option maxRecDepth 20000 in
theorem ggX8_count_X8_isRange : GoodIn wsX8_count wsX8_isRange := goodIn_r _ [5, 6, 7, 4, 8, 9, 10, 11] (by decide +kernel) (by decide +kernel)
set_option maxRecDepth 20000 in
theorem gX8_count_X8_isRange : GoodIn wsX8_count (va_wsS RX8 158 yX8_isRange wsX8_isRange) := goodIn_app (goodIn_of _ (by decide +kernel)) ggX8_count_X8_isRange
set_option maxRecDepth 20000 in
theorem ggX8_count_X8_lower : GoodIn wsX8_count wsX8_lower := goodIn_ca (goodIn_r _ [15, 16, 17, 18, 19, 4, 20, 25, 26, 27, 28, 29, 30, 31, 32, 33, 34, 35, 36, 37, 38, 39, 40, 41, 42, 43, 44, 45, 46] (by decide +kernel) (by decide +kernel)) (goodIn_sub (fun _ h => List.mem_cons_of_mem _ (List.mem_append_right _ h)) (by decide +kernel))
set_option maxRecDepth 20000 in
theorem gX8_count_X8_lower : GoodIn wsX8_count (wsV RX8 71 RX8 yX8_lower wsX8_lower) := goodIn_app (goodIn_of _ (by decide +kernel)) ggX8_count_X8_lower
set_option maxRecDepth 20000 in
theorem ggX8_count_X8_raises : GoodIn wsX8_count wsX8_raises := goodIn_r _ [24, 1, 25, 26, 27, 28, 29, 30, 31, 32, 33, 34, 35, 36, 37, 38, 39, 40, 41, 42, 43, 44, 45, 46] (by decide +kernel) (by decide +kernel)
set_option maxRecDepth 20000 in
theorem gX8_count_X8_raises : GoodIn wsX8_count (wsV RX8 61 RX8 yX8_raises wsX8_raises) := goodIn_app (goodIn_of _ (by decide +kernel)) ggX8_count_X8_raises
theorem dX8_count_0 : decode cX8_count 0 = .ok (.aload_n 0, 1) := by decide +kernel
theorem dX8_count_1 : decode cX8_count 1 = .ok (.iconst 0, 1) := by decide +kernel
theorem dX8_count_2 : decode cX8_count 2 = .ok (.putfield 39, 3) := by decide +kernel
theorem dX8_count_5 : decode cX8_count 5 = .ok (.iload_n 1, 1) := by decide +kernel
theorem dX8_count_6 : decode cX8_count 6 = .ok (.iload_n 2, 1) := by decide +kernel
theorem dX8_count_7 : decode cX8_count 7 = .ok (.invokestatic 158, 3) := by decide +kernel
theorem dX8_count_10 : decode cX8_count 10 = .ok (.ifCond .eq 19, 3) := by decide +kernel
theorem dX8_count_13 : decode cX8_count 13 = .ok (.aload_n 0, 1) := by decide +kernel
theorem dX8_count_14 : decode cX8_count 14 = .ok (.iload_n 2, 1) := by decide +kernel
theorem dX8_count_15 : decode cX8_count 15 = .ok (.iconst 1, 1) := by decide +kernel
theorem dX8_count_16 : decode cX8_count 16 = .ok (.invokevirtual 71, 3) := by decide +kernel
theorem dX8_count_19 : decode cX8_count 19 = .ok (.aload_n 0, 1) := by decide +kernel
theorem dX8_count_20 : decode cX8_count 20 = .ok (.iload_n 1, 1) := by decide +kernel
theorem dX8_count_21 : decode cX8_count 21 = .ok (.iconst 0, 1) := by decide +kernel
theorem dX8_count_22 : decode cX8_count 22 = .ok (.invokevirtual 71, 3) := by decide +kernel
theorem dX8_count_25 : decode cX8_count 25 = .ok (.isub, 1) := by decide +kernel
theorem dX8_count_26 : decode cX8_count 26 = .ok (.goto 8, 3) := by decide +kernel
theorem dX8_count_29 : decode cX8_count 29 = .ok (.aload_n 0, 1) := by decide +kernel
theorem dX8_count_30 : decode cX8_count 30 = .ok (.iconst 1, 1) := by decide +kernel
theorem dX8_count_31 : decode cX8_count 31 = .ok (.invokevirtual 61, 3) := by decide +kernel
theorem dX8_count_34 : decode cX8_count 34 = .ok (.ireturn, 1) := by decide +kernel
set_option maxRecDepth 20000 in
theorem ggX8_countAgain_X8_count : GoodIn wsX8_countAgain wsX8_count := goodIn_ca (goodIn_r _ [5, 6, 7, 8, 4, 9, 10, 11, 12, 13, 14, 15, 16, 17, 18, 19, 20, 21, 22, 23, 24, 25, 26, 27, 28, 29, 30, 31, 32, 33, 34, 35, 36, 37, 38, 39, 40, 41, 42, 43, 44, 45, 46, 47, 48, 49, 50] (by decide +kernel) (by decide +kernel)) (goodIn_sub (fun _ h => List.mem_cons_of_mem _ (List.mem_append_right _ h)) (by decide +kernel))
set_option maxRecDepth 20000 in
theorem gX8_countAgain_X8_count : GoodIn wsX8_countAgain (wsV RX8 161 RX8 yX8_count wsX8_count) := goodIn_app (goodIn_of _ (by decide +kernel)) ggX8_countAgain_X8_count
theorem dX8_countAgain_0 : decode cX8_countAgain 0 = .ok (.aload_n 0, 1) := by decide +kernel
theorem dX8_countAgain_1 : decode cX8_countAgain 1 = .ok (.iload_n 1, 1) := by decide +kernel
theorem dX8_countAgain_2 : decode cX8_countAgain 2 = .ok (.iload_n 2, 1) := by decide +kernel
theorem dX8_countAgain_3 : decode cX8_countAgain 3 = .ok (.invokevirtual 161, 3) := by decide +kernel
theorem dX8_countAgain_6 : decode cX8_countAgain 6 = .ok (.ireturn, 1) := by decide +kernel
set_option maxRecDepth 20000 in
theorem ggX8_weightIn_X8_isRange : GoodIn wsX8_weightIn wsX8_isRange := goodIn_r _ [5, 6, 7, 4, 8, 9, 10, 11] (by decide +kernel) (by decide +kernel)
set_option maxRecDepth 20000 in
theorem gX8_weightIn_X8_isRange : GoodIn wsX8_weightIn (va_wsS RX8 158 yX8_isRange wsX8_isRange) := goodIn_app (goodIn_of _ (by decide +kernel)) ggX8_weightIn_X8_isRange
set_option maxRecDepth 20000 in
theorem ggX8_weightIn_X8_raises : GoodIn wsX8_weightIn wsX8_raises := goodIn_r _ [15, 1, 29, 30, 31, 32, 33, 34, 35, 36, 37, 38, 39, 40, 41, 42, 43, 44, 45, 46, 47, 48, 49, 50] (by decide +kernel) (by decide +kernel)
set_option maxRecDepth 20000 in
theorem gX8_weightIn_X8_raises : GoodIn wsX8_weightIn (wsV RX8 61 RX8 yX8_raises wsX8_raises) := goodIn_app (goodIn_of _ (by decide +kernel)) ggX8_weightIn_X8_raises
set_option maxRecDepth 20000 in
theorem ggX8_weightIn_X8_lower : GoodIn wsX8_weightIn wsX8_lower := goodIn_ca (goodIn_r _ [19, 20, 21, 22, 23, 4, 24, 29, 30, 31, 32, 33, 34, 35, 36, 37, 38, 39, 40, 41, 42, 43, 44, 45, 46, 47, 48, 49, 50] (by decide +kernel) (by decide +kernel)) (goodIn_sub (fun _ h => List.mem_cons_of_mem _ (List.mem_append_right _ h)) (by decide +kernel))
set_option maxRecDepth 20000 in
theorem gX8_weightIn_X8_lower : GoodIn wsX8_weightIn (wsV RX8 71 RX8 yX8_lower wsX8_lower) := goodIn_app (goodIn_of _ (by decide +kernel)) ggX8_weightIn_X8_lower
set_option maxRecDepth 20000 in
theorem ggX8_weightIn_X8_weight : GoodIn wsX8_weightIn wsX8_weight := goodIn_ca (goodIn_r _ [28, 20, 29, 30, 31, 32, 33, 34, 35, 36, 37, 38, 39, 40, 41, 42, 43, 44, 45, 46, 47, 48, 49, 50] (by decide +kernel) (by decide +kernel)) (goodIn_sub (fun _ h => List.mem_cons_of_mem _ (List.mem_append_right _ h)) (by decide +kernel))
set_option maxRecDepth 20000 in
theorem gX8_weightIn_X8_weight : GoodIn wsX8_weightIn (wsV RX8 129 RX8 yX8_weight wsX8_weight) := goodIn_app (goodIn_of _ (by decide +kernel)) ggX8_weightIn_X8_weight
theorem dX8_weightIn_0 : decode cX8_weightIn 0 = .ok (.aload_n 0, 1) := by decide +kernel
theorem dX8_weightIn_1 : decode cX8_weightIn 1 = .ok (.iconst 0, 1) := by decide +kernel
theorem dX8_weightIn_2 : decode cX8_weightIn 2 = .ok (.putfield 39, 3) := by decide +kernel
theorem dX8_weightIn_5 : decode cX8_weightIn 5 = .ok (.iload_n 1, 1) := by decide +kernel
theorem dX8_weightIn_6 : decode cX8_weightIn 6 = .ok (.iload_n 2, 1) := by decide +kernel
theorem dX8_weightIn_7 : decode cX8_weightIn 7 = .ok (.invokestatic 158, 3) := by decide +kernel
theorem dX8_weightIn_10 : decode cX8_weightIn 10 = .ok (.ifCond .ne 9, 3) := by decide +kernel
theorem dX8_weightIn_13 : decode cX8_weightIn 13 = .ok (.aload_n 0, 1) := by decide +kernel
theorem dX8_weightIn_14 : decode cX8_weightIn 14 = .ok (.iconst 1, 1) := by decide +kernel
theorem dX8_weightIn_15 : decode cX8_weightIn 15 = .ok (.invokevirtual 61, 3) := by decide +kernel
theorem dX8_weightIn_18 : decode cX8_weightIn 18 = .ok (.ireturn, 1) := by decide +kernel
theorem dX8_weightIn_19 : decode cX8_weightIn 19 = .ok (.iconst 0, 1) := by decide +kernel
theorem dX8_weightIn_20 : decode cX8_weightIn 20 = .ok (.istore_n 3, 1) := by decide +kernel
theorem dX8_weightIn_21 : decode cX8_weightIn 21 = .ok (.aload_n 0, 1) := by decide +kernel
theorem dX8_weightIn_22 : decode cX8_weightIn 22 = .ok (.iload_n 1, 1) := by decide +kernel
theorem dX8_weightIn_23 : decode cX8_weightIn 23 = .ok (.iconst 0, 1) := by decide +kernel
theorem dX8_weightIn_24 : decode cX8_weightIn 24 = .ok (.invokevirtual 71, 3) := by decide +kernel
theorem dX8_weightIn_27 : decode cX8_weightIn 27 = .ok (.istore 4, 2) := by decide +kernel
theorem dX8_weightIn_29 : decode cX8_weightIn 29 = .ok (.iload 4, 2) := by decide +kernel
theorem dX8_weightIn_31 : decode cX8_weightIn 31 = .ok (.aload_n 0, 1) := by decide +kernel
theorem dX8_weightIn_32 : decode cX8_weightIn 32 = .ok (.iload_n 2, 1) := by decide +kernel
theorem dX8_weightIn_33 : decode cX8_weightIn 33 = .ok (.iconst 1, 1) := by decide +kernel
theorem dX8_weightIn_34 : decode cX8_weightIn 34 = .ok (.invokevirtual 71, 3) := by decide +kernel
theorem dX8_weightIn_37 : decode cX8_weightIn 37 = .ok (.if_icmp .ge 18, 3) := by decide +kernel
theorem dX8_weightIn_40 : decode cX8_weightIn 40 = .ok (.iload_n 3, 1) := by decide +kernel
theorem dX8_weightIn_41 : decode cX8_weightIn 41 = .ok (.aload_n 0, 1) := by decide +kernel
theorem dX8_weightIn_42 : decode cX8_weightIn 42 = .ok (.iload 4, 2) := by decide +kernel
theorem dX8_weightIn_44 : decode cX8_weightIn 44 = .ok (.invokevirtual 129, 3) := by decide +kernel
theorem dX8_weightIn_47 : decode cX8_weightIn 47 = .ok (.iadd, 1) := by decide +kernel
theorem dX8_weightIn_48 : decode cX8_weightIn 48 = .ok (.istore_n 3, 1) := by decide +kernel
theorem dX8_weightIn_49 : decode cX8_weightIn 49 = .ok (.iinc 4 1, 3) := by decide +kernel
theorem dX8_weightIn_52 : decode cX8_weightIn 52 = .ok (.goto (-23), 3) := by decide +kernel
theorem dX8_weightIn_55 : decode cX8_weightIn 55 = .ok (.iload_n 3, 1) := by decide +kernel
theorem dX8_weightIn_56 : decode cX8_weightIn 56 = .ok (.ireturn, 1) := by decide +kernel
set_option maxRecDepth 20000 in
theorem ggX8_heaviestIn_X8_isRange : GoodIn wsX8_heaviestIn wsX8_isRange := goodIn_r _ [5, 6, 7, 4, 8, 9, 10, 11] (by decide +kernel) (by decide +kernel)
set_option maxRecDepth 20000 in
theorem gX8_heaviestIn_X8_isRange : GoodIn wsX8_heaviestIn (va_wsS RX8 158 yX8_isRange wsX8_isRange) := goodIn_app (goodIn_of _ (by decide +kernel)) ggX8_heaviestIn_X8_isRange
set_option maxRecDepth 20000 in
theorem ggX8_heaviestIn_X8_raises : GoodIn wsX8_heaviestIn wsX8_raises := goodIn_r _ [15, 1, 29, 30, 31, 32, 33, 34, 35, 36, 37, 38, 39, 40, 41, 42, 43, 44, 45, 46, 47, 48, 49, 50] (by decide +kernel) (by decide +kernel)
set_option maxRecDepth 20000 in
theorem gX8_heaviestIn_X8_raises : GoodIn wsX8_heaviestIn (wsV RX8 61 RX8 yX8_raises wsX8_raises) := goodIn_app (goodIn_of _ (by decide +kernel)) ggX8_heaviestIn_X8_raises
set_option maxRecDepth 20000 in
theorem ggX8_heaviestIn_X8_lower : GoodIn wsX8_heaviestIn wsX8_lower := goodIn_ca (goodIn_r _ [19, 20, 21, 22, 23, 4, 24, 29, 30, 31, 32, 33, 34, 35, 36, 37, 38, 39, 40, 41, 42, 43, 44, 45, 46, 47, 48, 49, 50] (by decide +kernel) (by decide +kernel)) (goodIn_sub (fun _ h => List.mem_cons_of_mem _ (List.mem_append_right _ h)) (by decide +kernel))
set_option maxRecDepth 20000 in
theorem gX8_heaviestIn_X8_lower : GoodIn wsX8_heaviestIn (wsV RX8 71 RX8 yX8_lower wsX8_lower) := goodIn_app (goodIn_of _ (by decide +kernel)) ggX8_heaviestIn_X8_lower
set_option maxRecDepth 20000 in
theorem ggX8_heaviestIn_X8_weight : GoodIn wsX8_heaviestIn wsX8_weight := goodIn_ca (goodIn_r _ [28, 20, 29, 30, 31, 32, 33, 34, 35, 36, 37, 38, 39, 40, 41, 42, 43, 44, 45, 46, 47, 48, 49, 50] (by decide +kernel) (by decide +kernel)) (goodIn_sub (fun _ h => List.mem_cons_of_mem _ (List.mem_append_right _ h)) (by decide +kernel))
set_option maxRecDepth 20000 in
theorem gX8_heaviestIn_X8_weight : GoodIn wsX8_heaviestIn (wsV RX8 129 RX8 yX8_weight wsX8_weight) := goodIn_app (goodIn_of _ (by decide +kernel)) ggX8_heaviestIn_X8_weight
set_option maxRecDepth 20000 in
theorem ggX8_heaviestIn_X8_key : GoodIn wsX8_heaviestIn wsX8_key := goodIn_ca (goodIn_r _ [24, 20, 29, 30, 31, 32, 33, 34, 35, 36, 37, 38, 39, 40, 41, 42, 43, 44, 45, 46, 47, 48, 49, 50] (by decide +kernel) (by decide +kernel)) (goodIn_sub (fun _ h => List.mem_cons_of_mem _ (List.mem_append_right _ h)) (by decide +kernel))
set_option maxRecDepth 20000 in
theorem gX8_heaviestIn_X8_key : GoodIn wsX8_heaviestIn (wsV RX8 68 RX8 yX8_key wsX8_key) := goodIn_app (goodIn_of _ (by decide +kernel)) ggX8_heaviestIn_X8_key
theorem dX8_heaviestIn_0 : decode cX8_heaviestIn 0 = .ok (.aload_n 0, 1) := by decide +kernel
theorem dX8_heaviestIn_1 : decode cX8_heaviestIn 1 = .ok (.iconst 0, 1) := by decide +kernel
theorem dX8_heaviestIn_2 : decode cX8_heaviestIn 2 = .ok (.putfield 39, 3) := by decide +kernel
theorem dX8_heaviestIn_5 : decode cX8_heaviestIn 5 = .ok (.iload_n 1, 1) := by decide +kernel
theorem dX8_heaviestIn_6 : decode cX8_heaviestIn 6 = .ok (.iload_n 2, 1) := by decide +kernel
theorem dX8_heaviestIn_7 : decode cX8_heaviestIn 7 = .ok (.invokestatic 158, 3) := by decide +kernel
theorem dX8_heaviestIn_10 : decode cX8_heaviestIn 10 = .ok (.ifCond .ne 9, 3) := by decide +kernel
theorem dX8_heaviestIn_13 : decode cX8_heaviestIn 13 = .ok (.aload_n 0, 1) := by decide +kernel
theorem dX8_heaviestIn_14 : decode cX8_heaviestIn 14 = .ok (.iconst 1, 1) := by decide +kernel
theorem dX8_heaviestIn_15 : decode cX8_heaviestIn 15 = .ok (.invokevirtual 61, 3) := by decide +kernel
theorem dX8_heaviestIn_18 : decode cX8_heaviestIn 18 = .ok (.ireturn, 1) := by decide +kernel
theorem dX8_heaviestIn_19 : decode cX8_heaviestIn 19 = .ok (.iconst (-1), 1) := by decide +kernel
theorem dX8_heaviestIn_20 : decode cX8_heaviestIn 20 = .ok (.istore_n 3, 1) := by decide +kernel
theorem dX8_heaviestIn_21 : decode cX8_heaviestIn 21 = .ok (.aload_n 0, 1) := by decide +kernel
theorem dX8_heaviestIn_22 : decode cX8_heaviestIn 22 = .ok (.iload_n 1, 1) := by decide +kernel
theorem dX8_heaviestIn_23 : decode cX8_heaviestIn 23 = .ok (.iconst 0, 1) := by decide +kernel
theorem dX8_heaviestIn_24 : decode cX8_heaviestIn 24 = .ok (.invokevirtual 71, 3) := by decide +kernel
theorem dX8_heaviestIn_27 : decode cX8_heaviestIn 27 = .ok (.istore 4, 2) := by decide +kernel
theorem dX8_heaviestIn_29 : decode cX8_heaviestIn 29 = .ok (.iload 4, 2) := by decide +kernel
theorem dX8_heaviestIn_31 : decode cX8_heaviestIn 31 = .ok (.aload_n 0, 1) := by decide +kernel
theorem dX8_heaviestIn_32 : decode cX8_heaviestIn 32 = .ok (.iload_n 2, 1) := by decide +kernel
theorem dX8_heaviestIn_33 : decode cX8_heaviestIn 33 = .ok (.iconst 1, 1) := by decide +kernel
theorem dX8_heaviestIn_34 : decode cX8_heaviestIn 34 = .ok (.invokevirtual 71, 3) := by decide +kernel
theorem dX8_heaviestIn_37 : decode cX8_heaviestIn 37 = .ok (.if_icmp .ge 30, 3) := by decide +kernel
theorem dX8_heaviestIn_40 : decode cX8_heaviestIn 40 = .ok (.iload_n 3, 1) := by decide +kernel
theorem dX8_heaviestIn_41 : decode cX8_heaviestIn 41 = .ok (.ifCond .lt 17, 3) := by decide +kernel
theorem dX8_heaviestIn_44 : decode cX8_heaviestIn 44 = .ok (.aload_n 0, 1) := by decide +kernel
theorem dX8_heaviestIn_45 : decode cX8_heaviestIn 45 = .ok (.iload 4, 2) := by decide +kernel
theorem dX8_heaviestIn_47 : decode cX8_heaviestIn 47 = .ok (.invokevirtual 129, 3) := by decide +kernel
theorem dX8_heaviestIn_50 : decode cX8_heaviestIn 50 = .ok (.aload_n 0, 1) := by decide +kernel
theorem dX8_heaviestIn_51 : decode cX8_heaviestIn 51 = .ok (.iload_n 3, 1) := by decide +kernel
theorem dX8_heaviestIn_52 : decode cX8_heaviestIn 52 = .ok (.invokevirtual 129, 3) := by decide +kernel
theorem dX8_heaviestIn_55 : decode cX8_heaviestIn 55 = .ok (.if_icmp .le 6, 3) := by decide +kernel
theorem dX8_heaviestIn_58 : decode cX8_heaviestIn 58 = .ok (.iload 4, 2) := by decide +kernel
theorem dX8_heaviestIn_60 : decode cX8_heaviestIn 60 = .ok (.istore_n 3, 1) := by decide +kernel
theorem dX8_heaviestIn_61 : decode cX8_heaviestIn 61 = .ok (.iinc 4 1, 3) := by decide +kernel
theorem dX8_heaviestIn_64 : decode cX8_heaviestIn 64 = .ok (.goto (-35), 3) := by decide +kernel
theorem dX8_heaviestIn_67 : decode cX8_heaviestIn 67 = .ok (.iload_n 3, 1) := by decide +kernel
theorem dX8_heaviestIn_68 : decode cX8_heaviestIn 68 = .ok (.ifCond .ge 11, 3) := by decide +kernel
theorem dX8_heaviestIn_71 : decode cX8_heaviestIn 71 = .ok (.aload_n 0, 1) := by decide +kernel
theorem dX8_heaviestIn_72 : decode cX8_heaviestIn 72 = .ok (.iconst 2, 1) := by decide +kernel
theorem dX8_heaviestIn_73 : decode cX8_heaviestIn 73 = .ok (.invokevirtual 61, 3) := by decide +kernel
theorem dX8_heaviestIn_76 : decode cX8_heaviestIn 76 = .ok (.goto 8, 3) := by decide +kernel
theorem dX8_heaviestIn_79 : decode cX8_heaviestIn 79 = .ok (.aload_n 0, 1) := by decide +kernel
theorem dX8_heaviestIn_80 : decode cX8_heaviestIn 80 = .ok (.iload_n 3, 1) := by decide +kernel
theorem dX8_heaviestIn_81 : decode cX8_heaviestIn 81 = .ok (.invokevirtual 68, 3) := by decide +kernel
theorem dX8_heaviestIn_84 : decode cX8_heaviestIn 84 = .ok (.ireturn, 1) := by decide +kernel
set_option maxRecDepth 20000 in
theorem ggX8_levelSize_X8_isLevel : GoodIn wsX8_levelSize wsX8_isLevel := goodIn_r _ [5, 6, 7, 4, 8] (by decide +kernel) (by decide +kernel)
set_option maxRecDepth 20000 in
theorem gX8_levelSize_X8_isLevel : GoodIn wsX8_levelSize (va_wsS RX8 164 yX8_isLevel wsX8_isLevel) := goodIn_app (goodIn_of _ (by decide +kernel)) ggX8_levelSize_X8_isLevel
set_option maxRecDepth 20000 in
theorem ggX8_levelSize_X8_sizeOf : GoodIn wsX8_levelSize wsX8_sizeOf := goodIn_ca (goodIn_r _ [12, 13, 14, 15, 16, 4, 17, 22, 23, 24, 25, 26, 27, 28, 29, 30, 31, 32, 33, 34, 35, 36, 37, 38, 39, 40, 41, 42, 43] (by decide +kernel) (by decide +kernel)) (goodIn_sub (fun _ h => List.mem_cons_of_mem _ (List.mem_append_right _ h)) (by decide +kernel))
set_option maxRecDepth 20000 in
theorem gX8_levelSize_X8_sizeOf : GoodIn wsX8_levelSize (wsV RX8 122 RX8 yX8_sizeOf wsX8_sizeOf) := goodIn_app (goodIn_of _ (by decide +kernel)) ggX8_levelSize_X8_sizeOf
set_option maxRecDepth 20000 in
theorem ggX8_levelSize_X8_raises : GoodIn wsX8_levelSize wsX8_raises := goodIn_r _ [21, 1, 22, 23, 24, 25, 26, 27, 28, 29, 30, 31, 32, 33, 34, 35, 36, 37, 38, 39, 40, 41, 42, 43] (by decide +kernel) (by decide +kernel)
set_option maxRecDepth 20000 in
theorem gX8_levelSize_X8_raises : GoodIn wsX8_levelSize (wsV RX8 61 RX8 yX8_raises wsX8_raises) := goodIn_app (goodIn_of _ (by decide +kernel)) ggX8_levelSize_X8_raises
theorem dX8_levelSize_0 : decode cX8_levelSize 0 = .ok (.aload_n 0, 1) := by decide +kernel
theorem dX8_levelSize_1 : decode cX8_levelSize 1 = .ok (.iconst 0, 1) := by decide +kernel
theorem dX8_levelSize_2 : decode cX8_levelSize 2 = .ok (.putfield 39, 3) := by decide +kernel
theorem dX8_levelSize_5 : decode cX8_levelSize 5 = .ok (.iload_n 1, 1) := by decide +kernel
theorem dX8_levelSize_6 : decode cX8_levelSize 6 = .ok (.invokestatic 164, 3) := by decide +kernel
theorem dX8_levelSize_9 : decode cX8_levelSize 9 = .ok (.ifCond .eq 11, 3) := by decide +kernel
theorem dX8_levelSize_12 : decode cX8_levelSize 12 = .ok (.aload_n 0, 1) := by decide +kernel
theorem dX8_levelSize_13 : decode cX8_levelSize 13 = .ok (.iload_n 1, 1) := by decide +kernel
theorem dX8_levelSize_14 : decode cX8_levelSize 14 = .ok (.invokevirtual 122, 3) := by decide +kernel
theorem dX8_levelSize_17 : decode cX8_levelSize 17 = .ok (.goto 8, 3) := by decide +kernel
theorem dX8_levelSize_20 : decode cX8_levelSize 20 = .ok (.aload_n 0, 1) := by decide +kernel
theorem dX8_levelSize_21 : decode cX8_levelSize 21 = .ok (.iconst 1, 1) := by decide +kernel
theorem dX8_levelSize_22 : decode cX8_levelSize 22 = .ok (.invokevirtual 61, 3) := by decide +kernel
theorem dX8_levelSize_25 : decode cX8_levelSize 25 = .ok (.ireturn, 1) := by decide +kernel
set_option maxRecDepth 20000 in
theorem ggX8_levelAt_X8_isLevel : GoodIn wsX8_levelAt wsX8_isLevel := goodIn_r _ [5, 6, 7, 4, 8] (by decide +kernel) (by decide +kernel)
set_option maxRecDepth 20000 in
theorem gX8_levelAt_X8_isLevel : GoodIn wsX8_levelAt (va_wsS RX8 164 yX8_isLevel wsX8_isLevel) := goodIn_app (goodIn_of _ (by decide +kernel)) ggX8_levelAt_X8_isLevel
set_option maxRecDepth 20000 in
theorem ggX8_levelAt_X8_raises : GoodIn wsX8_levelAt wsX8_raises := goodIn_r _ [12, 1, 30, 31, 32, 33, 34, 35, 36, 37, 38, 39, 40, 41, 42, 43, 44, 45, 46, 47, 48, 49, 50, 51] (by decide +kernel) (by decide +kernel)
set_option maxRecDepth 20000 in
theorem gX8_levelAt_X8_raises : GoodIn wsX8_levelAt (wsV RX8 61 RX8 yX8_raises wsX8_raises) := goodIn_app (goodIn_of _ (by decide +kernel)) ggX8_levelAt_X8_raises
set_option maxRecDepth 20000 in
theorem ggX8_levelAt_X8_sizeOf : GoodIn wsX8_levelAt wsX8_sizeOf := goodIn_ca (goodIn_r _ [16, 17, 18, 19, 20, 4, 21, 30, 31, 32, 33, 34, 35, 36, 37, 38, 39, 40, 41, 42, 43, 44, 45, 46, 47, 48, 49, 50, 51] (by decide +kernel) (by decide +kernel)) (goodIn_sub (fun _ h => List.mem_cons_of_mem _ (List.mem_append_right _ h)) (by decide +kernel))
set_option maxRecDepth 20000 in
theorem gX8_levelAt_X8_sizeOf : GoodIn wsX8_levelAt (wsV RX8 122 RX8 yX8_sizeOf wsX8_sizeOf) := goodIn_app (goodIn_of _ (by decide +kernel)) ggX8_levelAt_X8_sizeOf
set_option maxRecDepth 20000 in
theorem ggX8_levelAt_X8_in : GoodIn wsX8_levelAt wsX8_in := goodIn_r _ [8] (by decide +kernel) (by decide +kernel)
set_option maxRecDepth 20000 in
theorem gX8_levelAt_X8_in : GoodIn wsX8_levelAt (va_wsS RX8 64 yX8_in wsX8_in) := goodIn_app (goodIn_of _ (by decide +kernel)) ggX8_levelAt_X8_in
set_option maxRecDepth 20000 in
theorem ggX8_levelAt_X8_next : GoodIn wsX8_levelAt wsX8_next := goodIn_ca (goodIn_r _ [25, 17, 18, 19, 20, 4, 21, 30, 31, 32, 33, 34, 35, 36, 37, 38, 39, 40, 41, 42, 43, 44, 45, 46, 47, 48, 49, 50, 51] (by decide +kernel) (by decide +kernel)) (goodIn_sub (fun _ h => List.mem_cons_of_mem _ (List.mem_append_right _ h)) (by decide +kernel))
set_option maxRecDepth 20000 in
theorem gX8_levelAt_X8_next : GoodIn wsX8_levelAt (wsV RX8 145 RX8 yX8_next wsX8_next) := goodIn_app (goodIn_of _ (by decide +kernel)) ggX8_levelAt_X8_next
set_option maxRecDepth 20000 in
theorem ggX8_levelAt_X8_key : GoodIn wsX8_levelAt wsX8_key := goodIn_ca (goodIn_r _ [29, 17, 30, 31, 32, 33, 34, 35, 36, 37, 38, 39, 40, 41, 42, 43, 44, 45, 46, 47, 48, 49, 50, 51] (by decide +kernel) (by decide +kernel)) (goodIn_sub (fun _ h => List.mem_cons_of_mem _ (List.mem_append_right _ h)) (by decide +kernel))
set_option maxRecDepth 20000 in
theorem gX8_levelAt_X8_key : GoodIn wsX8_levelAt (wsV RX8 68 RX8 yX8_key wsX8_key) := goodIn_app (goodIn_of _ (by decide +kernel)) ggX8_levelAt_X8_key
theorem dX8_levelAt_0 : decode cX8_levelAt 0 = .ok (.aload_n 0, 1) := by decide +kernel
theorem dX8_levelAt_1 : decode cX8_levelAt 1 = .ok (.iconst 0, 1) := by decide +kernel
theorem dX8_levelAt_2 : decode cX8_levelAt 2 = .ok (.putfield 39, 3) := by decide +kernel
theorem dX8_levelAt_5 : decode cX8_levelAt 5 = .ok (.iload_n 1, 1) := by decide +kernel
theorem dX8_levelAt_6 : decode cX8_levelAt 6 = .ok (.invokestatic 164, 3) := by decide +kernel
theorem dX8_levelAt_9 : decode cX8_levelAt 9 = .ok (.ifCond .ne 9, 3) := by decide +kernel
theorem dX8_levelAt_12 : decode cX8_levelAt 12 = .ok (.aload_n 0, 1) := by decide +kernel
theorem dX8_levelAt_13 : decode cX8_levelAt 13 = .ok (.iconst 1, 1) := by decide +kernel
theorem dX8_levelAt_14 : decode cX8_levelAt 14 = .ok (.invokevirtual 61, 3) := by decide +kernel
theorem dX8_levelAt_17 : decode cX8_levelAt 17 = .ok (.ireturn, 1) := by decide +kernel
theorem dX8_levelAt_18 : decode cX8_levelAt 18 = .ok (.iload_n 2, 1) := by decide +kernel
theorem dX8_levelAt_19 : decode cX8_levelAt 19 = .ok (.iconst 0, 1) := by decide +kernel
theorem dX8_levelAt_20 : decode cX8_levelAt 20 = .ok (.aload_n 0, 1) := by decide +kernel
theorem dX8_levelAt_21 : decode cX8_levelAt 21 = .ok (.iload_n 1, 1) := by decide +kernel
theorem dX8_levelAt_22 : decode cX8_levelAt 22 = .ok (.invokevirtual 122, 3) := by decide +kernel
theorem dX8_levelAt_25 : decode cX8_levelAt 25 = .ok (.iconst 1, 1) := by decide +kernel
theorem dX8_levelAt_26 : decode cX8_levelAt 26 = .ok (.isub, 1) := by decide +kernel
theorem dX8_levelAt_27 : decode cX8_levelAt 27 = .ok (.invokestatic 64, 3) := by decide +kernel
theorem dX8_levelAt_30 : decode cX8_levelAt 30 = .ok (.ifCond .ne 9, 3) := by decide +kernel
theorem dX8_levelAt_33 : decode cX8_levelAt 33 = .ok (.aload_n 0, 1) := by decide +kernel
theorem dX8_levelAt_34 : decode cX8_levelAt 34 = .ok (.iconst 2, 1) := by decide +kernel
theorem dX8_levelAt_35 : decode cX8_levelAt 35 = .ok (.invokevirtual 61, 3) := by decide +kernel
theorem dX8_levelAt_38 : decode cX8_levelAt 38 = .ok (.ireturn, 1) := by decide +kernel
theorem dX8_levelAt_39 : decode cX8_levelAt 39 = .ok (.aload_n 0, 1) := by decide +kernel
theorem dX8_levelAt_40 : decode cX8_levelAt 40 = .ok (.iconst (-1), 1) := by decide +kernel
theorem dX8_levelAt_41 : decode cX8_levelAt 41 = .ok (.iload_n 1, 1) := by decide +kernel
theorem dX8_levelAt_42 : decode cX8_levelAt 42 = .ok (.invokevirtual 145, 3) := by decide +kernel
theorem dX8_levelAt_45 : decode cX8_levelAt 45 = .ok (.istore_n 3, 1) := by decide +kernel
theorem dX8_levelAt_46 : decode cX8_levelAt 46 = .ok (.iconst 0, 1) := by decide +kernel
theorem dX8_levelAt_47 : decode cX8_levelAt 47 = .ok (.istore 4, 2) := by decide +kernel
theorem dX8_levelAt_49 : decode cX8_levelAt 49 = .ok (.iload 4, 2) := by decide +kernel
theorem dX8_levelAt_51 : decode cX8_levelAt 51 = .ok (.iload_n 2, 1) := by decide +kernel
theorem dX8_levelAt_52 : decode cX8_levelAt 52 = .ok (.if_icmp .ge 16, 3) := by decide +kernel
theorem dX8_levelAt_55 : decode cX8_levelAt 55 = .ok (.aload_n 0, 1) := by decide +kernel
theorem dX8_levelAt_56 : decode cX8_levelAt 56 = .ok (.iload_n 3, 1) := by decide +kernel
theorem dX8_levelAt_57 : decode cX8_levelAt 57 = .ok (.iload_n 1, 1) := by decide +kernel
theorem dX8_levelAt_58 : decode cX8_levelAt 58 = .ok (.invokevirtual 145, 3) := by decide +kernel
theorem dX8_levelAt_61 : decode cX8_levelAt 61 = .ok (.istore_n 3, 1) := by decide +kernel
theorem dX8_levelAt_62 : decode cX8_levelAt 62 = .ok (.iinc 4 1, 3) := by decide +kernel
theorem dX8_levelAt_65 : decode cX8_levelAt 65 = .ok (.goto (-16), 3) := by decide +kernel
theorem dX8_levelAt_68 : decode cX8_levelAt 68 = .ok (.aload_n 0, 1) := by decide +kernel
theorem dX8_levelAt_69 : decode cX8_levelAt 69 = .ok (.iload_n 3, 1) := by decide +kernel
theorem dX8_levelAt_70 : decode cX8_levelAt 70 = .ok (.invokevirtual 68, 3) := by decide +kernel
theorem dX8_levelAt_73 : decode cX8_levelAt 73 = .ok (.ireturn, 1) := by decide +kernel
set_option maxRecDepth 20000 in
theorem ggX8_span_X8_isLevel : GoodIn wsX8_span wsX8_isLevel := goodIn_r _ [5, 6, 7, 4, 8] (by decide +kernel) (by decide +kernel)
set_option maxRecDepth 20000 in
theorem gX8_span_X8_isLevel : GoodIn wsX8_span (va_wsS RX8 164 yX8_isLevel wsX8_isLevel) := goodIn_app (goodIn_of _ (by decide +kernel)) ggX8_span_X8_isLevel
set_option maxRecDepth 20000 in
theorem ggX8_span_X8_raises : GoodIn wsX8_span wsX8_raises := goodIn_r _ [12, 1, 37, 38, 39, 40, 41, 42, 43, 44, 45, 46, 47, 48, 49, 50, 51, 52, 53, 54, 55, 56, 57, 58] (by decide +kernel) (by decide +kernel)
set_option maxRecDepth 20000 in
theorem gX8_span_X8_raises : GoodIn wsX8_span (wsV RX8 61 RX8 yX8_raises wsX8_raises) := goodIn_app (goodIn_of _ (by decide +kernel)) ggX8_span_X8_raises
set_option maxRecDepth 20000 in
theorem ggX8_span_X8_isKey : GoodIn wsX8_span wsX8_isKey := goodIn_r _ [15, 6, 7, 4, 8] (by decide +kernel) (by decide +kernel)
set_option maxRecDepth 20000 in
theorem gX8_span_X8_isKey : GoodIn wsX8_span (va_wsS RX8 78 yX8_isKey wsX8_isKey) := goodIn_app (goodIn_of _ (by decide +kernel)) ggX8_span_X8_isKey
set_option maxRecDepth 20000 in
theorem ggX8_span_X8_find : GoodIn wsX8_span wsX8_find := goodIn_ca (goodIn_r _ [19, 20, 21, 22, 23, 4, 24, 25, 26, 27, 28, 37, 38, 39, 40, 41, 42, 43, 44, 45, 46, 47, 48, 49, 50, 51, 52, 53, 54, 55, 56, 57, 58] (by decide +kernel) (by decide +kernel)) (goodIn_sub (fun _ h => List.mem_cons_of_mem _ (List.mem_append_right _ h)) (by decide +kernel))
set_option maxRecDepth 20000 in
theorem gX8_span_X8_find : GoodIn wsX8_span (wsV RX8 89 RX8 yX8_find wsX8_find) := goodIn_app (goodIn_of _ (by decide +kernel)) ggX8_span_X8_find
set_option maxRecDepth 20000 in
theorem ggX8_span_X8_rungs : GoodIn wsX8_span wsX8_rungs := goodIn_ca (goodIn_r _ [32, 20, 37, 38, 39, 40, 41, 42, 43, 44, 45, 46, 47, 48, 49, 50, 51, 52, 53, 54, 55, 56, 57, 58] (by decide +kernel) (by decide +kernel)) (goodIn_sub (fun _ h => List.mem_cons_of_mem _ (List.mem_append_right _ h)) (by decide +kernel))
set_option maxRecDepth 20000 in
theorem gX8_span_X8_rungs : GoodIn wsX8_span (wsV RX8 75 RX8 yX8_rungs wsX8_rungs) := goodIn_app (goodIn_of _ (by decide +kernel)) ggX8_span_X8_rungs
set_option maxRecDepth 20000 in
theorem ggX8_span_X8_next : GoodIn wsX8_span wsX8_next := goodIn_ca (goodIn_r _ [36, 20, 29, 30, 31, 4, 32, 37, 38, 39, 40, 41, 42, 43, 44, 45, 46, 47, 48, 49, 50, 51, 52, 53, 54, 55, 56, 57, 58] (by decide +kernel) (by decide +kernel)) (goodIn_sub (fun _ h => List.mem_cons_of_mem _ (List.mem_append_right _ h)) (by decide +kernel))
set_option maxRecDepth 20000 in
theorem gX8_span_X8_next : GoodIn wsX8_span (wsV RX8 145 RX8 yX8_next wsX8_next) := goodIn_app (goodIn_of _ (by decide +kernel)) ggX8_span_X8_next
theorem dX8_span_0 : decode cX8_span 0 = .ok (.aload_n 0, 1) := by decide +kernel
theorem dX8_span_1 : decode cX8_span 1 = .ok (.iconst 0, 1) := by decide +kernel
theorem dX8_span_2 : decode cX8_span 2 = .ok (.putfield 39, 3) := by decide +kernel
theorem dX8_span_5 : decode cX8_span 5 = .ok (.iload_n 2, 1) := by decide +kernel
theorem dX8_span_6 : decode cX8_span 6 = .ok (.invokestatic 164, 3) := by decide +kernel
theorem dX8_span_9 : decode cX8_span 9 = .ok (.ifCond .ne 9, 3) := by decide +kernel
theorem dX8_span_12 : decode cX8_span 12 = .ok (.aload_n 0, 1) := by decide +kernel
theorem dX8_span_13 : decode cX8_span 13 = .ok (.iconst 1, 1) := by decide +kernel
theorem dX8_span_14 : decode cX8_span 14 = .ok (.invokevirtual 61, 3) := by decide +kernel
theorem dX8_span_17 : decode cX8_span 17 = .ok (.ireturn, 1) := by decide +kernel
theorem dX8_span_18 : decode cX8_span 18 = .ok (.iload_n 1, 1) := by decide +kernel
theorem dX8_span_19 : decode cX8_span 19 = .ok (.invokestatic 78, 3) := by decide +kernel
theorem dX8_span_22 : decode cX8_span 22 = .ok (.ifCond .ne 9, 3) := by decide +kernel
theorem dX8_span_25 : decode cX8_span 25 = .ok (.aload_n 0, 1) := by decide +kernel
theorem dX8_span_26 : decode cX8_span 26 = .ok (.iconst 2, 1) := by decide +kernel
theorem dX8_span_27 : decode cX8_span 27 = .ok (.invokevirtual 61, 3) := by decide +kernel
theorem dX8_span_30 : decode cX8_span 30 = .ok (.ireturn, 1) := by decide +kernel
theorem dX8_span_31 : decode cX8_span 31 = .ok (.aload_n 0, 1) := by decide +kernel
theorem dX8_span_32 : decode cX8_span 32 = .ok (.iload_n 1, 1) := by decide +kernel
theorem dX8_span_33 : decode cX8_span 33 = .ok (.invokevirtual 89, 3) := by decide +kernel
theorem dX8_span_36 : decode cX8_span 36 = .ok (.istore_n 3, 1) := by decide +kernel
theorem dX8_span_37 : decode cX8_span 37 = .ok (.iload_n 3, 1) := by decide +kernel
theorem dX8_span_38 : decode cX8_span 38 = .ok (.ifCond .lt 12, 3) := by decide +kernel
theorem dX8_span_41 : decode cX8_span 41 = .ok (.aload_n 0, 1) := by decide +kernel
theorem dX8_span_42 : decode cX8_span 42 = .ok (.iload_n 3, 1) := by decide +kernel
theorem dX8_span_43 : decode cX8_span 43 = .ok (.invokevirtual 75, 3) := by decide +kernel
theorem dX8_span_46 : decode cX8_span 46 = .ok (.iload_n 2, 1) := by decide +kernel
theorem dX8_span_47 : decode cX8_span 47 = .ok (.if_icmp .gt 11, 3) := by decide +kernel
theorem dX8_span_50 : decode cX8_span 50 = .ok (.aload_n 0, 1) := by decide +kernel
theorem dX8_span_51 : decode cX8_span 51 = .ok (.iconst 3, 1) := by decide +kernel
theorem dX8_span_52 : decode cX8_span 52 = .ok (.invokevirtual 61, 3) := by decide +kernel
theorem dX8_span_55 : decode cX8_span 55 = .ok (.goto 11, 3) := by decide +kernel
theorem dX8_span_58 : decode cX8_span 58 = .ok (.aload_n 0, 1) := by decide +kernel
theorem dX8_span_59 : decode cX8_span 59 = .ok (.iload_n 3, 1) := by decide +kernel
theorem dX8_span_60 : decode cX8_span 60 = .ok (.iload_n 2, 1) := by decide +kernel
theorem dX8_span_61 : decode cX8_span 61 = .ok (.invokevirtual 145, 3) := by decide +kernel
theorem dX8_span_64 : decode cX8_span 64 = .ok (.iload_n 3, 1) := by decide +kernel
theorem dX8_span_65 : decode cX8_span 65 = .ok (.isub, 1) := by decide +kernel
theorem dX8_span_66 : decode cX8_span 66 = .ok (.ireturn, 1) := by decide +kernel
set_option maxRecDepth 20000 in
theorem ggX8_headSpan_X8_isLevel : GoodIn wsX8_headSpan wsX8_isLevel := goodIn_r _ [5, 6, 7, 4, 8] (by decide +kernel) (by decide +kernel)
set_option maxRecDepth 20000 in
theorem gX8_headSpan_X8_isLevel : GoodIn wsX8_headSpan (va_wsS RX8 164 yX8_isLevel wsX8_isLevel) := goodIn_app (goodIn_of _ (by decide +kernel)) ggX8_headSpan_X8_isLevel
set_option maxRecDepth 20000 in
theorem ggX8_headSpan_X8_next : GoodIn wsX8_headSpan wsX8_next := goodIn_ca (goodIn_r _ [12, 13, 14, 15, 16, 4, 17, 22, 23, 24, 25, 26, 27, 28, 29, 30, 31, 32, 33, 34, 35, 36, 37, 38, 39, 40, 41, 42, 43] (by decide +kernel) (by decide +kernel)) (goodIn_sub (fun _ h => List.mem_cons_of_mem _ (List.mem_append_right _ h)) (by decide +kernel))
set_option maxRecDepth 20000 in
theorem gX8_headSpan_X8_next : GoodIn wsX8_headSpan (wsV RX8 145 RX8 yX8_next wsX8_next) := goodIn_app (goodIn_of _ (by decide +kernel)) ggX8_headSpan_X8_next
set_option maxRecDepth 20000 in
theorem ggX8_headSpan_X8_raises : GoodIn wsX8_headSpan wsX8_raises := goodIn_r _ [21, 1, 22, 23, 24, 25, 26, 27, 28, 29, 30, 31, 32, 33, 34, 35, 36, 37, 38, 39, 40, 41, 42, 43] (by decide +kernel) (by decide +kernel)
set_option maxRecDepth 20000 in
theorem gX8_headSpan_X8_raises : GoodIn wsX8_headSpan (wsV RX8 61 RX8 yX8_raises wsX8_raises) := goodIn_app (goodIn_of _ (by decide +kernel)) ggX8_headSpan_X8_raises
theorem dX8_headSpan_0 : decode cX8_headSpan 0 = .ok (.aload_n 0, 1) := by decide +kernel
theorem dX8_headSpan_1 : decode cX8_headSpan 1 = .ok (.iconst 0, 1) := by decide +kernel
theorem dX8_headSpan_2 : decode cX8_headSpan 2 = .ok (.putfield 39, 3) := by decide +kernel
theorem dX8_headSpan_5 : decode cX8_headSpan 5 = .ok (.iload_n 1, 1) := by decide +kernel
theorem dX8_headSpan_6 : decode cX8_headSpan 6 = .ok (.invokestatic 164, 3) := by decide +kernel
theorem dX8_headSpan_9 : decode cX8_headSpan 9 = .ok (.ifCond .eq 14, 3) := by decide +kernel
theorem dX8_headSpan_12 : decode cX8_headSpan 12 = .ok (.aload_n 0, 1) := by decide +kernel
theorem dX8_headSpan_13 : decode cX8_headSpan 13 = .ok (.iconst (-1), 1) := by decide +kernel
theorem dX8_headSpan_14 : decode cX8_headSpan 14 = .ok (.iload_n 1, 1) := by decide +kernel
theorem dX8_headSpan_15 : decode cX8_headSpan 15 = .ok (.invokevirtual 145, 3) := by decide +kernel
theorem dX8_headSpan_18 : decode cX8_headSpan 18 = .ok (.iconst 1, 1) := by decide +kernel
theorem dX8_headSpan_19 : decode cX8_headSpan 19 = .ok (.iadd, 1) := by decide +kernel
theorem dX8_headSpan_20 : decode cX8_headSpan 20 = .ok (.goto 8, 3) := by decide +kernel
theorem dX8_headSpan_23 : decode cX8_headSpan 23 = .ok (.aload_n 0, 1) := by decide +kernel
theorem dX8_headSpan_24 : decode cX8_headSpan 24 = .ok (.iconst 1, 1) := by decide +kernel
theorem dX8_headSpan_25 : decode cX8_headSpan 25 = .ok (.invokevirtual 61, 3) := by decide +kernel
theorem dX8_headSpan_28 : decode cX8_headSpan 28 = .ok (.ireturn, 1) := by decide +kernel
set_option maxRecDepth 20000 in
theorem ggX8_isForgotten_X8_isLevel : GoodIn wsX8_isForgotten wsX8_isLevel := goodIn_r _ [5, 6, 7, 4, 8] (by decide +kernel) (by decide +kernel)
set_option maxRecDepth 20000 in
theorem gX8_isForgotten_X8_isLevel : GoodIn wsX8_isForgotten (va_wsS RX8 164 yX8_isLevel wsX8_isLevel) := goodIn_app (goodIn_of _ (by decide +kernel)) ggX8_isForgotten_X8_isLevel
set_option maxRecDepth 20000 in
theorem ggX8_isForgotten_X8_isOut : GoodIn wsX8_isForgotten wsX8_isOut := goodIn_ca (goodIn_r _ [12, 13, 14, 15, 16, 17, 18, 19, 20, 21, 22, 23, 24, 25, 26, 27, 28, 29, 30, 31, 32, 33, 34, 35] (by decide +kernel) (by decide +kernel)) (goodIn_sub (fun _ h => List.mem_cons_of_mem _ (List.mem_append_right _ h)) (by decide +kernel))
set_option maxRecDepth 20000 in
theorem gX8_isForgotten_X8_isOut : GoodIn wsX8_isForgotten (wsV RX8 119 RX8 yX8_isOut wsX8_isOut) := goodIn_app (goodIn_of _ (by decide +kernel)) ggX8_isForgotten_X8_isOut
theorem dX8_isForgotten_0 : decode cX8_isForgotten 0 = .ok (.aload_n 0, 1) := by decide +kernel
theorem dX8_isForgotten_1 : decode cX8_isForgotten 1 = .ok (.iload_n 1, 1) := by decide +kernel
theorem dX8_isForgotten_2 : decode cX8_isForgotten 2 = .ok (.invokestatic 164, 3) := by decide +kernel
theorem dX8_isForgotten_5 : decode cX8_isForgotten 5 = .ok (.ifCond .eq 7, 3) := by decide +kernel
theorem dX8_isForgotten_8 : decode cX8_isForgotten 8 = .ok (.iconst 0, 1) := by decide +kernel
theorem dX8_isForgotten_9 : decode cX8_isForgotten 9 = .ok (.goto 4, 3) := by decide +kernel
theorem dX8_isForgotten_12 : decode cX8_isForgotten 12 = .ok (.iconst 1, 1) := by decide +kernel
theorem dX8_isForgotten_13 : decode cX8_isForgotten 13 = .ok (.putfield 39, 3) := by decide +kernel
theorem dX8_isForgotten_16 : decode cX8_isForgotten 16 = .ok (.aload_n 0, 1) := by decide +kernel
theorem dX8_isForgotten_17 : decode cX8_isForgotten 17 = .ok (.getfield 39, 3) := by decide +kernel
theorem dX8_isForgotten_20 : decode cX8_isForgotten 20 = .ok (.ifCond .ne 15, 3) := by decide +kernel
theorem dX8_isForgotten_23 : decode cX8_isForgotten 23 = .ok (.aload_n 0, 1) := by decide +kernel
theorem dX8_isForgotten_24 : decode cX8_isForgotten 24 = .ok (.iload_n 1, 1) := by decide +kernel
theorem dX8_isForgotten_25 : decode cX8_isForgotten 25 = .ok (.invokevirtual 119, 3) := by decide +kernel
theorem dX8_isForgotten_28 : decode cX8_isForgotten 28 = .ok (.ifCond .eq 7, 3) := by decide +kernel
theorem dX8_isForgotten_31 : decode cX8_isForgotten 31 = .ok (.iconst 1, 1) := by decide +kernel
theorem dX8_isForgotten_32 : decode cX8_isForgotten 32 = .ok (.goto 4, 3) := by decide +kernel
theorem dX8_isForgotten_35 : decode cX8_isForgotten 35 = .ok (.iconst 0, 1) := by decide +kernel
theorem dX8_isForgotten_36 : decode cX8_isForgotten 36 = .ok (.ireturn, 1) := by decide +kernel
set_option maxRecDepth 20000 in
theorem ggX8_longestSearch_X8_raises : GoodIn wsX8_longestSearch wsX8_raises := goodIn_r _ [7, 1, 39, 40, 41, 42, 43, 44, 45, 46, 47, 48, 49, 50, 51, 52, 53, 54, 55, 56, 57, 58, 59, 60] (by decide +kernel) (by decide +kernel)
set_option maxRecDepth 20000 in
theorem gX8_longestSearch_X8_raises : GoodIn wsX8_longestSearch (wsV RX8 61 RX8 yX8_raises wsX8_raises) := goodIn_app (goodIn_of _ (by decide +kernel)) ggX8_longestSearch_X8_raises
set_option maxRecDepth 20000 in
theorem ggX8_longestSearch_X8_key : GoodIn wsX8_longestSearch wsX8_key := goodIn_ca (goodIn_r _ [11, 2, 39, 40, 41, 42, 43, 44, 45, 46, 47, 48, 49, 50, 51, 52, 53, 54, 55, 56, 57, 58, 59, 60] (by decide +kernel) (by decide +kernel)) (goodIn_sub (fun _ h => List.mem_cons_of_mem _ (List.mem_append_right _ h)) (by decide +kernel))
set_option maxRecDepth 20000 in
theorem gX8_longestSearch_X8_key : GoodIn wsX8_longestSearch (wsV RX8 68 RX8 yX8_key wsX8_key) := goodIn_app (goodIn_of _ (by decide +kernel)) ggX8_longestSearch_X8_key
set_option maxRecDepth 20000 in
theorem ggX8_longestSearch_X8_searches : GoodIn wsX8_longestSearch wsX8_searches := goodIn_ca (goodIn_r _ [15, 16, 17, 2, 18, 19, 20, 21, 6, 22, 23, 24, 25, 26, 27, 28, 29, 30, 31, 32, 33, 34, 35, 36, 37, 38, 8, 9, 10, 11, 39, 40, 41, 42, 43, 44, 45, 46, 47, 48, 49, 50, 51, 52, 53, 54, 55, 56, 57, 58, 59, 60] (by decide +kernel) (by decide +kernel)) (goodIn_sub (fun _ h => List.mem_cons_of_mem _ (List.mem_append_right _ h)) (by decide +kernel))
set_option maxRecDepth 20000 in
theorem gX8_longestSearch_X8_searches : GoodIn wsX8_longestSearch (wsV RX8 149 RX8 yX8_searches wsX8_searches) := goodIn_app (goodIn_of _ (by decide +kernel)) ggX8_longestSearch_X8_searches
theorem dX8_longestSearch_0 : decode cX8_longestSearch 0 = .ok (.aload_n 0, 1) := by decide +kernel
theorem dX8_longestSearch_1 : decode cX8_longestSearch 1 = .ok (.iconst 0, 1) := by decide +kernel
theorem dX8_longestSearch_2 : decode cX8_longestSearch 2 = .ok (.putfield 39, 3) := by decide +kernel
theorem dX8_longestSearch_5 : decode cX8_longestSearch 5 = .ok (.aload_n 0, 1) := by decide +kernel
theorem dX8_longestSearch_6 : decode cX8_longestSearch 6 = .ok (.getfield 9, 3) := by decide +kernel
theorem dX8_longestSearch_9 : decode cX8_longestSearch 9 = .ok (.iconst 0, 1) := by decide +kernel
theorem dX8_longestSearch_10 : decode cX8_longestSearch 10 = .ok (.iaload, 1) := by decide +kernel
theorem dX8_longestSearch_11 : decode cX8_longestSearch 11 = .ok (.ifCond .ne 9, 3) := by decide +kernel
theorem dX8_longestSearch_14 : decode cX8_longestSearch 14 = .ok (.aload_n 0, 1) := by decide +kernel
theorem dX8_longestSearch_15 : decode cX8_longestSearch 15 = .ok (.iconst 1, 1) := by decide +kernel
theorem dX8_longestSearch_16 : decode cX8_longestSearch 16 = .ok (.invokevirtual 61, 3) := by decide +kernel
theorem dX8_longestSearch_19 : decode cX8_longestSearch 19 = .ok (.ireturn, 1) := by decide +kernel
theorem dX8_longestSearch_20 : decode cX8_longestSearch 20 = .ok (.iconst 0, 1) := by decide +kernel
theorem dX8_longestSearch_21 : decode cX8_longestSearch 21 = .ok (.istore_n 1, 1) := by decide +kernel
theorem dX8_longestSearch_22 : decode cX8_longestSearch 22 = .ok (.iconst 1, 1) := by decide +kernel
theorem dX8_longestSearch_23 : decode cX8_longestSearch 23 = .ok (.istore_n 2, 1) := by decide +kernel
theorem dX8_longestSearch_24 : decode cX8_longestSearch 24 = .ok (.iload_n 2, 1) := by decide +kernel
theorem dX8_longestSearch_25 : decode cX8_longestSearch 25 = .ok (.aload_n 0, 1) := by decide +kernel
theorem dX8_longestSearch_26 : decode cX8_longestSearch 26 = .ok (.getfield 9, 3) := by decide +kernel
theorem dX8_longestSearch_29 : decode cX8_longestSearch 29 = .ok (.iconst 0, 1) := by decide +kernel
theorem dX8_longestSearch_30 : decode cX8_longestSearch 30 = .ok (.iaload, 1) := by decide +kernel
theorem dX8_longestSearch_31 : decode cX8_longestSearch 31 = .ok (.if_icmp .ge 32, 3) := by decide +kernel
theorem dX8_longestSearch_34 : decode cX8_longestSearch 34 = .ok (.aload_n 0, 1) := by decide +kernel
theorem dX8_longestSearch_35 : decode cX8_longestSearch 35 = .ok (.aload_n 0, 1) := by decide +kernel
theorem dX8_longestSearch_36 : decode cX8_longestSearch 36 = .ok (.iload_n 2, 1) := by decide +kernel
theorem dX8_longestSearch_37 : decode cX8_longestSearch 37 = .ok (.invokevirtual 68, 3) := by decide +kernel
theorem dX8_longestSearch_40 : decode cX8_longestSearch 40 = .ok (.invokevirtual 149, 3) := by decide +kernel
theorem dX8_longestSearch_43 : decode cX8_longestSearch 43 = .ok (.aload_n 0, 1) := by decide +kernel
theorem dX8_longestSearch_44 : decode cX8_longestSearch 44 = .ok (.aload_n 0, 1) := by decide +kernel
theorem dX8_longestSearch_45 : decode cX8_longestSearch 45 = .ok (.iload_n 1, 1) := by decide +kernel
theorem dX8_longestSearch_46 : decode cX8_longestSearch 46 = .ok (.invokevirtual 68, 3) := by decide +kernel
theorem dX8_longestSearch_49 : decode cX8_longestSearch 49 = .ok (.invokevirtual 149, 3) := by decide +kernel
theorem dX8_longestSearch_52 : decode cX8_longestSearch 52 = .ok (.if_icmp .le 5, 3) := by decide +kernel
theorem dX8_longestSearch_55 : decode cX8_longestSearch 55 = .ok (.iload_n 2, 1) := by decide +kernel
theorem dX8_longestSearch_56 : decode cX8_longestSearch 56 = .ok (.istore_n 1, 1) := by decide +kernel
theorem dX8_longestSearch_57 : decode cX8_longestSearch 57 = .ok (.iinc 2 1, 3) := by decide +kernel
theorem dX8_longestSearch_60 : decode cX8_longestSearch 60 = .ok (.goto (-36), 3) := by decide +kernel
theorem dX8_longestSearch_63 : decode cX8_longestSearch 63 = .ok (.aload_n 0, 1) := by decide +kernel
theorem dX8_longestSearch_64 : decode cX8_longestSearch 64 = .ok (.iload_n 1, 1) := by decide +kernel
theorem dX8_longestSearch_65 : decode cX8_longestSearch 65 = .ok (.invokevirtual 68, 3) := by decide +kernel
theorem dX8_longestSearch_68 : decode cX8_longestSearch 68 = .ok (.ireturn, 1) := by decide +kernel
set_option maxRecDepth 20000 in
theorem ggX8_nextRungs_X8_tosses : GoodIn wsX8_nextRungs wsX8_tosses := goodIn_ca (goodIn_r _ [7, 2, 8, 9, 10, 11, 12, 13, 14, 15, 16, 17, 18, 19, 20, 21, 22, 23, 24, 25, 26, 27, 28, 29] (by decide +kernel) (by decide +kernel)) (goodIn_sub (fun _ h => List.mem_cons_of_mem _ (List.mem_append_right _ h)) (by decide +kernel))
set_option maxRecDepth 20000 in
theorem gX8_nextRungs_X8_tosses : GoodIn wsX8_nextRungs (wsV RX8 92 RX8 yX8_tosses wsX8_tosses) := goodIn_app (goodIn_of _ (by decide +kernel)) ggX8_nextRungs_X8_tosses
theorem dX8_nextRungs_0 : decode cX8_nextRungs 0 = .ok (.aload_n 0, 1) := by decide +kernel
theorem dX8_nextRungs_1 : decode cX8_nextRungs 1 = .ok (.iconst 0, 1) := by decide +kernel
theorem dX8_nextRungs_2 : decode cX8_nextRungs 2 = .ok (.putfield 39, 3) := by decide +kernel
theorem dX8_nextRungs_5 : decode cX8_nextRungs 5 = .ok (.aload_n 0, 1) := by decide +kernel
theorem dX8_nextRungs_6 : decode cX8_nextRungs 6 = .ok (.getfield 9, 3) := by decide +kernel
theorem dX8_nextRungs_9 : decode cX8_nextRungs 9 = .ok (.iconst 1, 1) := by decide +kernel
theorem dX8_nextRungs_10 : decode cX8_nextRungs 10 = .ok (.iaload, 1) := by decide +kernel
theorem dX8_nextRungs_11 : decode cX8_nextRungs 11 = .ok (.istore_n 1, 1) := by decide +kernel
theorem dX8_nextRungs_12 : decode cX8_nextRungs 12 = .ok (.aload_n 0, 1) := by decide +kernel
theorem dX8_nextRungs_13 : decode cX8_nextRungs 13 = .ok (.getfield 9, 3) := by decide +kernel
theorem dX8_nextRungs_16 : decode cX8_nextRungs 16 = .ok (.iconst 2, 1) := by decide +kernel
theorem dX8_nextRungs_17 : decode cX8_nextRungs 17 = .ok (.iaload, 1) := by decide +kernel
theorem dX8_nextRungs_18 : decode cX8_nextRungs 18 = .ok (.istore_n 2, 1) := by decide +kernel
theorem dX8_nextRungs_19 : decode cX8_nextRungs 19 = .ok (.aload_n 0, 1) := by decide +kernel
theorem dX8_nextRungs_20 : decode cX8_nextRungs 20 = .ok (.getfield 9, 3) := by decide +kernel
theorem dX8_nextRungs_23 : decode cX8_nextRungs 23 = .ok (.iconst 3, 1) := by decide +kernel
theorem dX8_nextRungs_24 : decode cX8_nextRungs 24 = .ok (.iaload, 1) := by decide +kernel
theorem dX8_nextRungs_25 : decode cX8_nextRungs 25 = .ok (.istore_n 3, 1) := by decide +kernel
theorem dX8_nextRungs_26 : decode cX8_nextRungs 26 = .ok (.iconst 1, 1) := by decide +kernel
theorem dX8_nextRungs_27 : decode cX8_nextRungs 27 = .ok (.istore 4, 2) := by decide +kernel
theorem dX8_nextRungs_29 : decode cX8_nextRungs 29 = .ok (.iload 4, 2) := by decide +kernel
theorem dX8_nextRungs_31 : decode cX8_nextRungs 31 = .ok (.iconst 5, 1) := by decide +kernel
theorem dX8_nextRungs_32 : decode cX8_nextRungs 32 = .ok (.if_icmp .ge 16, 3) := by decide +kernel
theorem dX8_nextRungs_35 : decode cX8_nextRungs 35 = .ok (.aload_n 0, 1) := by decide +kernel
theorem dX8_nextRungs_36 : decode cX8_nextRungs 36 = .ok (.invokevirtual 92, 3) := by decide +kernel
theorem dX8_nextRungs_39 : decode cX8_nextRungs 39 = .ok (.ifCond .eq 9, 3) := by decide +kernel
theorem dX8_nextRungs_42 : decode cX8_nextRungs 42 = .ok (.iinc 4 1, 3) := by decide +kernel
theorem dX8_nextRungs_45 : decode cX8_nextRungs 45 = .ok (.goto (-16), 3) := by decide +kernel
theorem dX8_nextRungs_48 : decode cX8_nextRungs 48 = .ok (.aload_n 0, 1) := by decide +kernel
theorem dX8_nextRungs_49 : decode cX8_nextRungs 49 = .ok (.getfield 9, 3) := by decide +kernel
theorem dX8_nextRungs_52 : decode cX8_nextRungs 52 = .ok (.iconst 1, 1) := by decide +kernel
theorem dX8_nextRungs_53 : decode cX8_nextRungs 53 = .ok (.iload_n 1, 1) := by decide +kernel
theorem dX8_nextRungs_54 : decode cX8_nextRungs 54 = .ok (.iastore, 1) := by decide +kernel
theorem dX8_nextRungs_55 : decode cX8_nextRungs 55 = .ok (.aload_n 0, 1) := by decide +kernel
theorem dX8_nextRungs_56 : decode cX8_nextRungs 56 = .ok (.getfield 9, 3) := by decide +kernel
theorem dX8_nextRungs_59 : decode cX8_nextRungs 59 = .ok (.iconst 2, 1) := by decide +kernel
theorem dX8_nextRungs_60 : decode cX8_nextRungs 60 = .ok (.iload_n 2, 1) := by decide +kernel
theorem dX8_nextRungs_61 : decode cX8_nextRungs 61 = .ok (.iastore, 1) := by decide +kernel
theorem dX8_nextRungs_62 : decode cX8_nextRungs 62 = .ok (.aload_n 0, 1) := by decide +kernel
theorem dX8_nextRungs_63 : decode cX8_nextRungs 63 = .ok (.getfield 9, 3) := by decide +kernel
theorem dX8_nextRungs_66 : decode cX8_nextRungs 66 = .ok (.iconst 3, 1) := by decide +kernel
theorem dX8_nextRungs_67 : decode cX8_nextRungs 67 = .ok (.iload_n 3, 1) := by decide +kernel
theorem dX8_nextRungs_68 : decode cX8_nextRungs 68 = .ok (.iastore, 1) := by decide +kernel
theorem dX8_nextRungs_69 : decode cX8_nextRungs 69 = .ok (.iload 4, 2) := by decide +kernel
theorem dX8_nextRungs_71 : decode cX8_nextRungs 71 = .ok (.ireturn, 1) := by decide +kernel
set_option maxRecDepth 20000 in
theorem ggX8_append_X8_raises : GoodIn wsX8_append wsX8_raises := goodIn_r _ [8, 1, 9, 10, 11, 12, 13, 14, 15, 16, 17, 18, 19, 20, 21, 22, 23, 24, 25, 26, 27, 28, 29, 30] (by decide +kernel) (by decide +kernel)
set_option maxRecDepth 20000 in
theorem gX8_append_X8_raises : GoodIn wsX8_append (wsV RX8 61 RX8 yX8_raises wsX8_raises) := goodIn_app (goodIn_of _ (by decide +kernel)) ggX8_append_X8_raises
theorem dX8_append_0 : decode cX8_append 0 = .ok (.aload_n 0, 1) := by decide +kernel
theorem dX8_append_1 : decode cX8_append 1 = .ok (.iconst 0, 1) := by decide +kernel
theorem dX8_append_2 : decode cX8_append 2 = .ok (.putfield 39, 3) := by decide +kernel
theorem dX8_append_5 : decode cX8_append 5 = .ok (.aload_n 0, 1) := by decide +kernel
theorem dX8_append_6 : decode cX8_append 6 = .ok (.getfield 167, 3) := by decide +kernel
theorem dX8_append_9 : decode cX8_append 9 = .ok (.bipush 60, 2) := by decide +kernel
theorem dX8_append_11 : decode cX8_append 11 = .ok (.if_icmp .ne 9, 3) := by decide +kernel
theorem dX8_append_14 : decode cX8_append 14 = .ok (.aload_n 0, 1) := by decide +kernel
theorem dX8_append_15 : decode cX8_append 15 = .ok (.iconst 1, 1) := by decide +kernel
theorem dX8_append_16 : decode cX8_append 16 = .ok (.invokevirtual 61, 3) := by decide +kernel
theorem dX8_append_19 : decode cX8_append 19 = .ok (.ireturn, 1) := by decide +kernel
theorem dX8_append_20 : decode cX8_append 20 = .ok (.aload_n 0, 1) := by decide +kernel
theorem dX8_append_21 : decode cX8_append 21 = .ok (.getfield 26, 3) := by decide +kernel
theorem dX8_append_24 : decode cX8_append 24 = .ok (.aload_n 0, 1) := by decide +kernel
theorem dX8_append_25 : decode cX8_append 25 = .ok (.dup, 1) := by decide +kernel
theorem dX8_append_26 : decode cX8_append 26 = .ok (.getfield 167, 3) := by decide +kernel
theorem dX8_append_29 : decode cX8_append 29 = .ok (.dup_x1, 1) := by decide +kernel
theorem dX8_append_30 : decode cX8_append 30 = .ok (.iconst 1, 1) := by decide +kernel
theorem dX8_append_31 : decode cX8_append 31 = .ok (.iadd, 1) := by decide +kernel
theorem dX8_append_32 : decode cX8_append 32 = .ok (.putfield 167, 3) := by decide +kernel
theorem dX8_append_35 : decode cX8_append 35 = .ok (.iload_n 1, 1) := by decide +kernel
theorem dX8_append_36 : decode cX8_append 36 = .ok (.castore, 1) := by decide +kernel
theorem dX8_append_37 : decode cX8_append 37 = .ok (.aload_n 0, 1) := by decide +kernel
theorem dX8_append_38 : decode cX8_append 38 = .ok (.getfield 167, 3) := by decide +kernel
theorem dX8_append_41 : decode cX8_append 41 = .ok (.ireturn, 1) := by decide +kernel
theorem dX8_sign_0 : decode cX8_sign 0 = .ok (.aload_n 0, 1) := by decide +kernel
theorem dX8_sign_1 : decode cX8_sign 1 = .ok (.getfield 170, 3) := by decide +kernel
theorem dX8_sign_4 : decode cX8_sign 4 = .ok (.aload_n 0, 1) := by decide +kernel
theorem dX8_sign_5 : decode cX8_sign 5 = .ok (.getfield 167, 3) := by decide +kernel
theorem dX8_sign_8 : decode cX8_sign 8 = .ok (.if_icmp .eq 16, 3) := by decide +kernel
theorem dX8_sign_11 : decode cX8_sign 11 = .ok (.aload_n 0, 1) := by decide +kernel
theorem dX8_sign_12 : decode cX8_sign 12 = .ok (.getfield 26, 3) := by decide +kernel
theorem dX8_sign_15 : decode cX8_sign 15 = .ok (.aload_n 0, 1) := by decide +kernel
theorem dX8_sign_16 : decode cX8_sign 16 = .ok (.getfield 170, 3) := by decide +kernel
theorem dX8_sign_19 : decode cX8_sign 19 = .ok (.caload, 1) := by decide +kernel
theorem dX8_sign_20 : decode cX8_sign 20 = .ok (.iload_n 1, 1) := by decide +kernel
theorem dX8_sign_21 : decode cX8_sign 21 = .ok (.if_icmp .eq 5, 3) := by decide +kernel
theorem dX8_sign_24 : decode cX8_sign 24 = .ok (.iconst 0, 1) := by decide +kernel
theorem dX8_sign_25 : decode cX8_sign 25 = .ok (.ireturn, 1) := by decide +kernel
theorem dX8_sign_26 : decode cX8_sign 26 = .ok (.aload_n 0, 1) := by decide +kernel
theorem dX8_sign_27 : decode cX8_sign 27 = .ok (.dup, 1) := by decide +kernel
theorem dX8_sign_28 : decode cX8_sign 28 = .ok (.getfield 170, 3) := by decide +kernel
theorem dX8_sign_31 : decode cX8_sign 31 = .ok (.iconst 1, 1) := by decide +kernel
theorem dX8_sign_32 : decode cX8_sign 32 = .ok (.iadd, 1) := by decide +kernel
theorem dX8_sign_33 : decode cX8_sign 33 = .ok (.putfield 170, 3) := by decide +kernel
theorem dX8_sign_36 : decode cX8_sign 36 = .ok (.iconst 1, 1) := by decide +kernel
theorem dX8_sign_37 : decode cX8_sign 37 = .ok (.ireturn, 1) := by decide +kernel
set_option maxRecDepth 20000 in
theorem ggX8_number_X8_in : GoodIn wsX8_number wsX8_in := goodIn_r _ [8] (by decide +kernel) (by decide +kernel)
set_option maxRecDepth 20000 in
theorem gX8_number_X8_in : GoodIn wsX8_number (va_wsS RX8 64 yX8_in wsX8_in) := goodIn_app (goodIn_of _ (by decide +kernel)) ggX8_number_X8_in
theorem dX8_number_0 : decode cX8_number 0 = .ok (.iconst 0, 1) := by decide +kernel
theorem dX8_number_1 : decode cX8_number 1 = .ok (.istore_n 3, 1) := by decide +kernel
theorem dX8_number_2 : decode cX8_number 2 = .ok (.aload_n 0, 1) := by decide +kernel
theorem dX8_number_3 : decode cX8_number 3 = .ok (.getfield 29, 3) := by decide +kernel
theorem dX8_number_6 : decode cX8_number 6 = .ok (.iload_n 1, 1) := by decide +kernel
theorem dX8_number_7 : decode cX8_number 7 = .ok (.iconst 0, 1) := by decide +kernel
theorem dX8_number_8 : decode cX8_number 8 = .ok (.iastore, 1) := by decide +kernel
theorem dX8_number_9 : decode cX8_number 9 = .ok (.iload_n 3, 1) := by decide +kernel
theorem dX8_number_10 : decode cX8_number 10 = .ok (.iload_n 2, 1) := by decide +kernel
theorem dX8_number_11 : decode cX8_number 11 = .ok (.if_icmp .ge 74, 3) := by decide +kernel
theorem dX8_number_14 : decode cX8_number 14 = .ok (.aload_n 0, 1) := by decide +kernel
theorem dX8_number_15 : decode cX8_number 15 = .ok (.getfield 170, 3) := by decide +kernel
theorem dX8_number_18 : decode cX8_number 18 = .ok (.aload_n 0, 1) := by decide +kernel
theorem dX8_number_19 : decode cX8_number 19 = .ok (.getfield 167, 3) := by decide +kernel
theorem dX8_number_22 : decode cX8_number 22 = .ok (.if_icmp .ge 63, 3) := by decide +kernel
theorem dX8_number_25 : decode cX8_number 25 = .ok (.aload_n 0, 1) := by decide +kernel
theorem dX8_number_26 : decode cX8_number 26 = .ok (.getfield 26, 3) := by decide +kernel
theorem dX8_number_29 : decode cX8_number 29 = .ok (.aload_n 0, 1) := by decide +kernel
theorem dX8_number_30 : decode cX8_number 30 = .ok (.getfield 170, 3) := by decide +kernel
theorem dX8_number_33 : decode cX8_number 33 = .ok (.caload, 1) := by decide +kernel
theorem dX8_number_34 : decode cX8_number 34 = .ok (.bipush 48, 2) := by decide +kernel
theorem dX8_number_36 : decode cX8_number 36 = .ok (.bipush 57, 2) := by decide +kernel
theorem dX8_number_38 : decode cX8_number 38 = .ok (.invokestatic 64, 3) := by decide +kernel
theorem dX8_number_41 : decode cX8_number 41 = .ok (.ifCond .eq 44, 3) := by decide +kernel
theorem dX8_number_44 : decode cX8_number 44 = .ok (.aload_n 0, 1) := by decide +kernel
theorem dX8_number_45 : decode cX8_number 45 = .ok (.getfield 29, 3) := by decide +kernel
theorem dX8_number_48 : decode cX8_number 48 = .ok (.iload_n 1, 1) := by decide +kernel
theorem dX8_number_49 : decode cX8_number 49 = .ok (.bipush 10, 2) := by decide +kernel
theorem dX8_number_51 : decode cX8_number 51 = .ok (.aload_n 0, 1) := by decide +kernel
theorem dX8_number_52 : decode cX8_number 52 = .ok (.getfield 29, 3) := by decide +kernel
theorem dX8_number_55 : decode cX8_number 55 = .ok (.iload_n 1, 1) := by decide +kernel
theorem dX8_number_56 : decode cX8_number 56 = .ok (.iaload, 1) := by decide +kernel
theorem dX8_number_57 : decode cX8_number 57 = .ok (.imul, 1) := by decide +kernel
theorem dX8_number_58 : decode cX8_number 58 = .ok (.aload_n 0, 1) := by decide +kernel
theorem dX8_number_59 : decode cX8_number 59 = .ok (.getfield 26, 3) := by decide +kernel
theorem dX8_number_62 : decode cX8_number 62 = .ok (.aload_n 0, 1) := by decide +kernel
theorem dX8_number_63 : decode cX8_number 63 = .ok (.dup, 1) := by decide +kernel
theorem dX8_number_64 : decode cX8_number 64 = .ok (.getfield 170, 3) := by decide +kernel
theorem dX8_number_67 : decode cX8_number 67 = .ok (.dup_x1, 1) := by decide +kernel
theorem dX8_number_68 : decode cX8_number 68 = .ok (.iconst 1, 1) := by decide +kernel
theorem dX8_number_69 : decode cX8_number 69 = .ok (.iadd, 1) := by decide +kernel
theorem dX8_number_70 : decode cX8_number 70 = .ok (.putfield 170, 3) := by decide +kernel
theorem dX8_number_73 : decode cX8_number 73 = .ok (.caload, 1) := by decide +kernel
theorem dX8_number_74 : decode cX8_number 74 = .ok (.iadd, 1) := by decide +kernel
theorem dX8_number_75 : decode cX8_number 75 = .ok (.bipush 48, 2) := by decide +kernel
theorem dX8_number_77 : decode cX8_number 77 = .ok (.isub, 1) := by decide +kernel
theorem dX8_number_78 : decode cX8_number 78 = .ok (.iastore, 1) := by decide +kernel
theorem dX8_number_79 : decode cX8_number 79 = .ok (.iinc 3 1, 3) := by decide +kernel
theorem dX8_number_82 : decode cX8_number 82 = .ok (.goto (-73), 3) := by decide +kernel
theorem dX8_number_85 : decode cX8_number 85 = .ok (.iload_n 3, 1) := by decide +kernel
theorem dX8_number_86 : decode cX8_number 86 = .ok (.ifCond .le 7, 3) := by decide +kernel
theorem dX8_number_89 : decode cX8_number 89 = .ok (.iconst 1, 1) := by decide +kernel
theorem dX8_number_90 : decode cX8_number 90 = .ok (.goto 4, 3) := by decide +kernel
theorem dX8_number_93 : decode cX8_number 93 = .ok (.iconst 0, 1) := by decide +kernel
theorem dX8_number_94 : decode cX8_number 94 = .ok (.ireturn, 1) := by decide +kernel
set_option maxRecDepth 20000 in
theorem ggX8_isCommand_X8_number : GoodIn wsX8_isCommand wsX8_number := goodIn_ca (goodIn_r _ [10, 5, 1, 2, 3, 11, 12, 9, 13, 18, 19, 20, 21, 22, 23, 24, 25, 26, 27, 28, 29, 30, 31, 32, 33, 34, 35, 36, 37, 38, 39] (by decide +kernel) (by decide +kernel)) (goodIn_sub (fun _ h => List.mem_cons_of_mem _ (List.mem_append_right _ h)) (by decide +kernel))
set_option maxRecDepth 20000 in
theorem gX8_isCommand_X8_number : GoodIn wsX8_isCommand (wsV RX8 177 RX8 yX8_number wsX8_number) := goodIn_app (goodIn_of _ (by decide +kernel)) ggX8_isCommand_X8_number
set_option maxRecDepth 20000 in
theorem ggX8_isCommand_X8_sign : GoodIn wsX8_isCommand wsX8_sign := goodIn_ca (goodIn_r _ [17, 1, 2, 3, 18, 19, 20, 21, 22, 23, 24, 25, 26, 27, 28, 29, 30, 31, 32, 33, 34, 35, 36, 37, 38, 39] (by decide +kernel) (by decide +kernel)) (goodIn_sub (fun _ h => List.mem_cons_of_mem _ (List.mem_append_right _ h)) (by decide +kernel))
set_option maxRecDepth 20000 in
theorem gX8_isCommand_X8_sign : GoodIn wsX8_isCommand (wsV RX8 180 RX8 yX8_sign wsX8_sign) := goodIn_app (goodIn_of _ (by decide +kernel)) ggX8_isCommand_X8_sign
theorem dX8_isCommand_0 : decode cX8_isCommand 0 = .ok (.aload_n 0, 1) := by decide +kernel
theorem dX8_isCommand_1 : decode cX8_isCommand 1 = .ok (.getfield 170, 3) := by decide +kernel
theorem dX8_isCommand_4 : decode cX8_isCommand 4 = .ok (.aload_n 0, 1) := by decide +kernel
theorem dX8_isCommand_5 : decode cX8_isCommand 5 = .ok (.getfield 167, 3) := by decide +kernel
theorem dX8_isCommand_8 : decode cX8_isCommand 8 = .ok (.if_icmp .ne 5, 3) := by decide +kernel
theorem dX8_isCommand_11 : decode cX8_isCommand 11 = .ok (.iconst 0, 1) := by decide +kernel
theorem dX8_isCommand_12 : decode cX8_isCommand 12 = .ok (.ireturn, 1) := by decide +kernel
theorem dX8_isCommand_13 : decode cX8_isCommand 13 = .ok (.aload_n 0, 1) := by decide +kernel
theorem dX8_isCommand_14 : decode cX8_isCommand 14 = .ok (.aload_n 0, 1) := by decide +kernel
theorem dX8_isCommand_15 : decode cX8_isCommand 15 = .ok (.getfield 26, 3) := by decide +kernel
theorem dX8_isCommand_18 : decode cX8_isCommand 18 = .ok (.aload_n 0, 1) := by decide +kernel
theorem dX8_isCommand_19 : decode cX8_isCommand 19 = .ok (.getfield 170, 3) := by decide +kernel
theorem dX8_isCommand_22 : decode cX8_isCommand 22 = .ok (.caload, 1) := by decide +kernel
theorem dX8_isCommand_23 : decode cX8_isCommand 23 = .ok (.putfield 173, 3) := by decide +kernel
theorem dX8_isCommand_26 : decode cX8_isCommand 26 = .ok (.aload_n 0, 1) := by decide +kernel
theorem dX8_isCommand_27 : decode cX8_isCommand 27 = .ok (.getfield 29, 3) := by decide +kernel
theorem dX8_isCommand_30 : decode cX8_isCommand 30 = .ok (.iconst 2, 1) := by decide +kernel
theorem dX8_isCommand_31 : decode cX8_isCommand 31 = .ok (.iconst (-1), 1) := by decide +kernel
theorem dX8_isCommand_32 : decode cX8_isCommand 32 = .ok (.iastore, 1) := by decide +kernel
theorem dX8_isCommand_33 : decode cX8_isCommand 33 = .ok (.aload_n 0, 1) := by decide +kernel
theorem dX8_isCommand_34 : decode cX8_isCommand 34 = .ok (.getfield 173, 3) := by decide +kernel
theorem dX8_isCommand_37 : decode cX8_isCommand 37 = .ok (.lookupswitch 225 #[(43, 75), (45, 136), (100, 136), (102, 153), (114, 153), (116, 213), (117, 136), (119, 170)], 75) := by decide +kernel
theorem dX8_isCommand_112 : decode cX8_isCommand 112 = .ok (.aload_n 0, 1) := by decide +kernel
theorem dX8_isCommand_113 : decode cX8_isCommand 113 = .ok (.dup, 1) := by decide +kernel
theorem dX8_isCommand_114 : decode cX8_isCommand 114 = .ok (.getfield 170, 3) := by decide +kernel
theorem dX8_isCommand_117 : decode cX8_isCommand 117 = .ok (.iconst 1, 1) := by decide +kernel
theorem dX8_isCommand_118 : decode cX8_isCommand 118 = .ok (.iadd, 1) := by decide +kernel
theorem dX8_isCommand_119 : decode cX8_isCommand 119 = .ok (.putfield 170, 3) := by decide +kernel
theorem dX8_isCommand_122 : decode cX8_isCommand 122 = .ok (.aload_n 0, 1) := by decide +kernel
theorem dX8_isCommand_123 : decode cX8_isCommand 123 = .ok (.iconst 0, 1) := by decide +kernel
theorem dX8_isCommand_124 : decode cX8_isCommand 124 = .ok (.iconst 3, 1) := by decide +kernel
theorem dX8_isCommand_125 : decode cX8_isCommand 125 = .ok (.invokevirtual 177, 3) := by decide +kernel
theorem dX8_isCommand_128 : decode cX8_isCommand 128 = .ok (.ifCond .eq 43, 3) := by decide +kernel
theorem dX8_isCommand_131 : decode cX8_isCommand 131 = .ok (.aload_n 0, 1) := by decide +kernel
theorem dX8_isCommand_132 : decode cX8_isCommand 132 = .ok (.bipush 61, 2) := by decide +kernel
theorem dX8_isCommand_134 : decode cX8_isCommand 134 = .ok (.invokevirtual 180, 3) := by decide +kernel
theorem dX8_isCommand_137 : decode cX8_isCommand 137 = .ok (.ifCond .eq 34, 3) := by decide +kernel
theorem dX8_isCommand_140 : decode cX8_isCommand 140 = .ok (.aload_n 0, 1) := by decide +kernel
theorem dX8_isCommand_141 : decode cX8_isCommand 141 = .ok (.iconst 1, 1) := by decide +kernel
theorem dX8_isCommand_142 : decode cX8_isCommand 142 = .ok (.iconst 2, 1) := by decide +kernel
theorem dX8_isCommand_143 : decode cX8_isCommand 143 = .ok (.invokevirtual 177, 3) := by decide +kernel
theorem dX8_isCommand_146 : decode cX8_isCommand 146 = .ok (.ifCond .eq 25, 3) := by decide +kernel
theorem dX8_isCommand_149 : decode cX8_isCommand 149 = .ok (.aload_n 0, 1) := by decide +kernel
theorem dX8_isCommand_150 : decode cX8_isCommand 150 = .ok (.bipush 94, 2) := by decide +kernel
theorem dX8_isCommand_152 : decode cX8_isCommand 152 = .ok (.invokevirtual 180, 3) := by decide +kernel
theorem dX8_isCommand_155 : decode cX8_isCommand 155 = .ok (.ifCond .eq 12, 3) := by decide +kernel
theorem dX8_isCommand_158 : decode cX8_isCommand 158 = .ok (.aload_n 0, 1) := by decide +kernel
theorem dX8_isCommand_159 : decode cX8_isCommand 159 = .ok (.iconst 2, 1) := by decide +kernel
theorem dX8_isCommand_160 : decode cX8_isCommand 160 = .ok (.iconst 1, 1) := by decide +kernel
theorem dX8_isCommand_161 : decode cX8_isCommand 161 = .ok (.invokevirtual 177, 3) := by decide +kernel
theorem dX8_isCommand_164 : decode cX8_isCommand 164 = .ok (.ifCond .eq 7, 3) := by decide +kernel
theorem dX8_isCommand_167 : decode cX8_isCommand 167 = .ok (.iconst 1, 1) := by decide +kernel
theorem dX8_isCommand_168 : decode cX8_isCommand 168 = .ok (.goto 4, 3) := by decide +kernel
theorem dX8_isCommand_171 : decode cX8_isCommand 171 = .ok (.iconst 0, 1) := by decide +kernel
theorem dX8_isCommand_172 : decode cX8_isCommand 172 = .ok (.ireturn, 1) := by decide +kernel
theorem dX8_isCommand_173 : decode cX8_isCommand 173 = .ok (.aload_n 0, 1) := by decide +kernel
theorem dX8_isCommand_174 : decode cX8_isCommand 174 = .ok (.dup, 1) := by decide +kernel
theorem dX8_isCommand_175 : decode cX8_isCommand 175 = .ok (.getfield 170, 3) := by decide +kernel
theorem dX8_isCommand_178 : decode cX8_isCommand 178 = .ok (.iconst 1, 1) := by decide +kernel
theorem dX8_isCommand_179 : decode cX8_isCommand 179 = .ok (.iadd, 1) := by decide +kernel
theorem dX8_isCommand_180 : decode cX8_isCommand 180 = .ok (.putfield 170, 3) := by decide +kernel
theorem dX8_isCommand_183 : decode cX8_isCommand 183 = .ok (.aload_n 0, 1) := by decide +kernel
theorem dX8_isCommand_184 : decode cX8_isCommand 184 = .ok (.iconst 0, 1) := by decide +kernel
theorem dX8_isCommand_185 : decode cX8_isCommand 185 = .ok (.iconst 3, 1) := by decide +kernel
theorem dX8_isCommand_186 : decode cX8_isCommand 186 = .ok (.invokevirtual 177, 3) := by decide +kernel
theorem dX8_isCommand_189 : decode cX8_isCommand 189 = .ok (.ireturn, 1) := by decide +kernel
theorem dX8_isCommand_190 : decode cX8_isCommand 190 = .ok (.aload_n 0, 1) := by decide +kernel
theorem dX8_isCommand_191 : decode cX8_isCommand 191 = .ok (.dup, 1) := by decide +kernel
theorem dX8_isCommand_192 : decode cX8_isCommand 192 = .ok (.getfield 170, 3) := by decide +kernel
theorem dX8_isCommand_195 : decode cX8_isCommand 195 = .ok (.iconst 1, 1) := by decide +kernel
theorem dX8_isCommand_196 : decode cX8_isCommand 196 = .ok (.iadd, 1) := by decide +kernel
theorem dX8_isCommand_197 : decode cX8_isCommand 197 = .ok (.putfield 170, 3) := by decide +kernel
theorem dX8_isCommand_200 : decode cX8_isCommand 200 = .ok (.aload_n 0, 1) := by decide +kernel
theorem dX8_isCommand_201 : decode cX8_isCommand 201 = .ok (.iconst 0, 1) := by decide +kernel
theorem dX8_isCommand_202 : decode cX8_isCommand 202 = .ok (.iconst 1, 1) := by decide +kernel
theorem dX8_isCommand_203 : decode cX8_isCommand 203 = .ok (.invokevirtual 177, 3) := by decide +kernel
theorem dX8_isCommand_206 : decode cX8_isCommand 206 = .ok (.ireturn, 1) := by decide +kernel
theorem dX8_isCommand_207 : decode cX8_isCommand 207 = .ok (.aload_n 0, 1) := by decide +kernel
theorem dX8_isCommand_208 : decode cX8_isCommand 208 = .ok (.dup, 1) := by decide +kernel
theorem dX8_isCommand_209 : decode cX8_isCommand 209 = .ok (.getfield 170, 3) := by decide +kernel
theorem dX8_isCommand_212 : decode cX8_isCommand 212 = .ok (.iconst 1, 1) := by decide +kernel
theorem dX8_isCommand_213 : decode cX8_isCommand 213 = .ok (.iadd, 1) := by decide +kernel
theorem dX8_isCommand_214 : decode cX8_isCommand 214 = .ok (.putfield 170, 3) := by decide +kernel
theorem dX8_isCommand_217 : decode cX8_isCommand 217 = .ok (.aload_n 0, 1) := by decide +kernel
theorem dX8_isCommand_218 : decode cX8_isCommand 218 = .ok (.iconst 0, 1) := by decide +kernel
theorem dX8_isCommand_219 : decode cX8_isCommand 219 = .ok (.iconst 3, 1) := by decide +kernel
theorem dX8_isCommand_220 : decode cX8_isCommand 220 = .ok (.invokevirtual 177, 3) := by decide +kernel
theorem dX8_isCommand_223 : decode cX8_isCommand 223 = .ok (.ifCond .eq 25, 3) := by decide +kernel
theorem dX8_isCommand_226 : decode cX8_isCommand 226 = .ok (.aload_n 0, 1) := by decide +kernel
theorem dX8_isCommand_227 : decode cX8_isCommand 227 = .ok (.bipush 61, 2) := by decide +kernel
theorem dX8_isCommand_229 : decode cX8_isCommand 229 = .ok (.invokevirtual 180, 3) := by decide +kernel
theorem dX8_isCommand_232 : decode cX8_isCommand 232 = .ok (.ifCond .eq 16, 3) := by decide +kernel
theorem dX8_isCommand_235 : decode cX8_isCommand 235 = .ok (.aload_n 0, 1) := by decide +kernel
theorem dX8_isCommand_236 : decode cX8_isCommand 236 = .ok (.iconst 1, 1) := by decide +kernel
theorem dX8_isCommand_237 : decode cX8_isCommand 237 = .ok (.iconst 2, 1) := by decide +kernel
theorem dX8_isCommand_238 : decode cX8_isCommand 238 = .ok (.invokevirtual 177, 3) := by decide +kernel
theorem dX8_isCommand_241 : decode cX8_isCommand 241 = .ok (.ifCond .eq 7, 3) := by decide +kernel
theorem dX8_isCommand_244 : decode cX8_isCommand 244 = .ok (.iconst 1, 1) := by decide +kernel
theorem dX8_isCommand_245 : decode cX8_isCommand 245 = .ok (.goto 4, 3) := by decide +kernel
theorem dX8_isCommand_248 : decode cX8_isCommand 248 = .ok (.iconst 0, 1) := by decide +kernel
theorem dX8_isCommand_249 : decode cX8_isCommand 249 = .ok (.ireturn, 1) := by decide +kernel
theorem dX8_isCommand_250 : decode cX8_isCommand 250 = .ok (.aload_n 0, 1) := by decide +kernel
theorem dX8_isCommand_251 : decode cX8_isCommand 251 = .ok (.dup, 1) := by decide +kernel
theorem dX8_isCommand_252 : decode cX8_isCommand 252 = .ok (.getfield 170, 3) := by decide +kernel
theorem dX8_isCommand_255 : decode cX8_isCommand 255 = .ok (.iconst 1, 1) := by decide +kernel
theorem dX8_isCommand_256 : decode cX8_isCommand 256 = .ok (.iadd, 1) := by decide +kernel
theorem dX8_isCommand_257 : decode cX8_isCommand 257 = .ok (.putfield 170, 3) := by decide +kernel
theorem dX8_isCommand_260 : decode cX8_isCommand 260 = .ok (.iconst 1, 1) := by decide +kernel
theorem dX8_isCommand_261 : decode cX8_isCommand 261 = .ok (.ireturn, 1) := by decide +kernel
theorem dX8_isCommand_262 : decode cX8_isCommand 262 = .ok (.iconst 0, 1) := by decide +kernel
theorem dX8_isCommand_263 : decode cX8_isCommand 263 = .ok (.ireturn, 1) := by decide +kernel
set_option maxRecDepth 20000 in
theorem ggX8_carries_X8_files : GoodIn wsX8_carries wsX8_files := goodIn_ca (goodIn_r _ [7, 8, 9, 10, 6, 11, 12, 13, 14, 15, 16, 17, 18, 19, 20, 21, 22, 23, 24, 25, 26, 27, 28, 29, 30, 31, 32, 33, 34, 35, 36, 37, 38, 39, 40, 41, 42, 43, 44, 45, 82, 83, 84, 85, 86, 87, 88, 89, 90, 91, 92, 93, 94, 95, 96, 97, 98, 99, 100, 101, 102, 103] (by decide +kernel) (by decide +kernel)) (goodIn_sub (fun _ h => List.mem_cons_of_mem _ (List.mem_append_right _ h)) (by decide +kernel))
set_option maxRecDepth 20000 in
theorem gX8_carries_X8_files : GoodIn wsX8_carries (wsV RX8 102 RX8 yX8_files wsX8_files) := goodIn_app (goodIn_of _ (by decide +kernel)) ggX8_carries_X8_files
set_option maxRecDepth 20000 in
theorem ggX8_carries_X8_drops : GoodIn wsX8_carries wsX8_drops := goodIn_ca (goodIn_r _ [49, 8, 50, 51, 52, 6, 53, 9, 10, 11, 12, 13, 14, 18, 19, 20, 21, 22, 23, 24, 25, 26, 27, 28, 29, 30, 31, 32, 33, 34, 35, 36, 41, 42, 43, 44, 45, 82, 83, 84, 85, 86, 87, 88, 89, 90, 91, 92, 93, 94, 95, 96, 97, 98, 99, 100, 101, 102, 103] (by decide +kernel) (by decide +kernel)) (goodIn_sub (fun _ h => List.mem_cons_of_mem _ (List.mem_append_right _ h)) (by decide +kernel))
set_option maxRecDepth 20000 in
theorem gX8_carries_X8_drops : GoodIn wsX8_carries (wsV RX8 113 RX8 yX8_drops wsX8_drops) := goodIn_app (goodIn_of _ (by decide +kernel)) ggX8_carries_X8_drops
set_option maxRecDepth 20000 in
theorem ggX8_carries_X8_turns : GoodIn wsX8_carries wsX8_turns := goodIn_ca (goodIn_r _ [57, 8, 50, 51, 52, 6, 53, 9, 10, 11, 12, 13, 14, 18, 19, 20, 21, 22, 23, 24, 25, 26, 27, 28, 29, 30, 31, 32, 33, 34, 35, 36, 58, 59, 60, 61, 41, 42, 43, 44, 45, 82, 83, 84, 85, 86, 87, 88, 89, 90, 91, 92, 93, 94, 95, 96, 97, 98, 99, 100, 101, 102, 103] (by decide +kernel) (by decide +kernel)) (goodIn_sub (fun _ h => List.mem_cons_of_mem _ (List.mem_append_right _ h)) (by decide +kernel))
set_option maxRecDepth 20000 in
theorem gX8_carries_X8_turns : GoodIn wsX8_carries (wsV RX8 116 RX8 yX8_turns wsX8_turns) := goodIn_app (goodIn_of _ (by decide +kernel)) ggX8_carries_X8_turns
set_option maxRecDepth 20000 in
theorem ggX8_carries_X8_puts : GoodIn wsX8_carries wsX8_puts := goodIn_ca (goodIn_r _ [65, 8, 12, 13, 6, 14, 18, 19, 20, 21, 22, 23, 24, 66, 67, 68, 69, 70, 71, 72, 73, 58, 59, 60, 61, 41, 42, 43, 44, 45, 82, 83, 84, 85, 86, 87, 88, 89, 90, 91, 92, 93, 94, 95, 96, 97, 98, 99, 100, 101, 102, 103] (by decide +kernel) (by decide +kernel)) (goodIn_sub (fun _ h => List.mem_cons_of_mem _ (List.mem_append_right _ h)) (by decide +kernel))
set_option maxRecDepth 20000 in
theorem gX8_carries_X8_puts : GoodIn wsX8_carries (wsV RX8 125 RX8 yX8_puts wsX8_puts) := goodIn_app (goodIn_of _ (by decide +kernel)) ggX8_carries_X8_puts
set_option maxRecDepth 20000 in
theorem ggX8_carries_X8_weighs : GoodIn wsX8_carries wsX8_weighs := goodIn_ca (goodIn_r _ [77, 8, 9, 10, 6, 11, 12, 13, 14, 15, 16, 17, 18, 19, 20, 21, 22, 23, 24, 50, 51, 52, 53, 25, 26, 27, 28, 29, 30, 31, 32, 33, 34, 35, 36, 78, 79, 80, 81, 41, 42, 43, 44, 45, 82, 83, 84, 85, 86, 87, 88, 89, 90, 91, 92, 93, 94, 95, 96, 97, 98, 99, 100, 101, 102, 103] (by decide +kernel) (by decide +kernel)) (goodIn_sub (fun _ h => List.mem_cons_of_mem _ (List.mem_append_right _ h)) (by decide +kernel))
set_option maxRecDepth 20000 in
theorem gX8_carries_X8_weighs : GoodIn wsX8_carries (wsV RX8 132 RX8 yX8_weighs wsX8_weighs) := goodIn_app (goodIn_of _ (by decide +kernel)) ggX8_carries_X8_weighs
set_option maxRecDepth 20000 in
theorem ggX8_carries_X8_tosses : GoodIn wsX8_carries wsX8_tosses := goodIn_ca (goodIn_r _ [40, 8, 82, 83, 84, 85, 86, 87, 88, 89, 90, 91, 92, 93, 94, 95, 96, 97, 98, 99, 100, 101, 102, 103] (by decide +kernel) (by decide +kernel)) (goodIn_sub (fun _ h => List.mem_cons_of_mem _ (List.mem_append_right _ h)) (by decide +kernel))
set_option maxRecDepth 20000 in
theorem gX8_carries_X8_tosses : GoodIn wsX8_carries (wsV RX8 92 RX8 yX8_tosses wsX8_tosses) := goodIn_app (goodIn_of _ (by decide +kernel)) ggX8_carries_X8_tosses
set_option maxRecDepth 20000 in
theorem ggX8_carries_X8_does : GoodIn wsX8_carries wsX8_does := goodIn_r _ [44, 45, 82, 83, 84, 85, 86, 87, 88, 89, 90, 91, 92, 93, 94, 95, 96, 97, 98, 99, 100, 101, 102, 103] (by decide +kernel) (by decide +kernel)
set_option maxRecDepth 20000 in
theorem gX8_carries_X8_does : GoodIn wsX8_carries (wsV RX8 96 RX8 yX8_does wsX8_does) := goodIn_app (goodIn_of _ (by decide +kernel)) ggX8_carries_X8_does
theorem dX8_carries_0 : decode cX8_carries 0 = .ok (.aload_n 0, 1) := by decide +kernel
theorem dX8_carries_1 : decode cX8_carries 1 = .ok (.getfield 173, 3) := by decide +kernel
theorem dX8_carries_4 : decode cX8_carries 4 = .ok (.lookupswitch 181 #[(43, 68), (45, 105), (100, 128), (102, 140), (114, 152), (117, 116), (119, 164)], 68) := by decide +kernel
theorem dX8_carries_72 : decode cX8_carries 72 = .ok (.aload_n 0, 1) := by decide +kernel
theorem dX8_carries_73 : decode cX8_carries 73 = .ok (.aload_n 0, 1) := by decide +kernel
theorem dX8_carries_74 : decode cX8_carries 74 = .ok (.getfield 29, 3) := by decide +kernel
theorem dX8_carries_77 : decode cX8_carries 77 = .ok (.iconst 0, 1) := by decide +kernel
theorem dX8_carries_78 : decode cX8_carries 78 = .ok (.iaload, 1) := by decide +kernel
theorem dX8_carries_79 : decode cX8_carries 79 = .ok (.aload_n 0, 1) := by decide +kernel
theorem dX8_carries_80 : decode cX8_carries 80 = .ok (.getfield 29, 3) := by decide +kernel
theorem dX8_carries_83 : decode cX8_carries 83 = .ok (.iconst 1, 1) := by decide +kernel
theorem dX8_carries_84 : decode cX8_carries 84 = .ok (.iaload, 1) := by decide +kernel
theorem dX8_carries_85 : decode cX8_carries 85 = .ok (.aload_n 0, 1) := by decide +kernel
theorem dX8_carries_86 : decode cX8_carries 86 = .ok (.getfield 29, 3) := by decide +kernel
theorem dX8_carries_89 : decode cX8_carries 89 = .ok (.iconst 2, 1) := by decide +kernel
theorem dX8_carries_90 : decode cX8_carries 90 = .ok (.iaload, 1) := by decide +kernel
theorem dX8_carries_91 : decode cX8_carries 91 = .ok (.aload_n 0, 1) := by decide +kernel
theorem dX8_carries_92 : decode cX8_carries 92 = .ok (.getfield 29, 3) := by decide +kernel
theorem dX8_carries_95 : decode cX8_carries 95 = .ok (.iconst 2, 1) := by decide +kernel
theorem dX8_carries_96 : decode cX8_carries 96 = .ok (.iaload, 1) := by decide +kernel
theorem dX8_carries_97 : decode cX8_carries 97 = .ok (.ifCond .lt 7, 3) := by decide +kernel
theorem dX8_carries_100 : decode cX8_carries 100 = .ok (.iconst 1, 1) := by decide +kernel
theorem dX8_carries_101 : decode cX8_carries 101 = .ok (.goto 4, 3) := by decide +kernel
theorem dX8_carries_104 : decode cX8_carries 104 = .ok (.iconst 0, 1) := by decide +kernel
theorem dX8_carries_105 : decode cX8_carries 105 = .ok (.invokevirtual 102, 3) := by decide +kernel
theorem dX8_carries_108 : decode cX8_carries 108 = .ok (.ireturn, 1) := by decide +kernel
theorem dX8_carries_109 : decode cX8_carries 109 = .ok (.aload_n 0, 1) := by decide +kernel
theorem dX8_carries_110 : decode cX8_carries 110 = .ok (.aload_n 0, 1) := by decide +kernel
theorem dX8_carries_111 : decode cX8_carries 111 = .ok (.getfield 29, 3) := by decide +kernel
theorem dX8_carries_114 : decode cX8_carries 114 = .ok (.iconst 0, 1) := by decide +kernel
theorem dX8_carries_115 : decode cX8_carries 115 = .ok (.iaload, 1) := by decide +kernel
theorem dX8_carries_116 : decode cX8_carries 116 = .ok (.invokevirtual 113, 3) := by decide +kernel
theorem dX8_carries_119 : decode cX8_carries 119 = .ok (.ireturn, 1) := by decide +kernel
theorem dX8_carries_120 : decode cX8_carries 120 = .ok (.aload_n 0, 1) := by decide +kernel
theorem dX8_carries_121 : decode cX8_carries 121 = .ok (.aload_n 0, 1) := by decide +kernel
theorem dX8_carries_122 : decode cX8_carries 122 = .ok (.getfield 29, 3) := by decide +kernel
theorem dX8_carries_125 : decode cX8_carries 125 = .ok (.iconst 0, 1) := by decide +kernel
theorem dX8_carries_126 : decode cX8_carries 126 = .ok (.iaload, 1) := by decide +kernel
theorem dX8_carries_127 : decode cX8_carries 127 = .ok (.iconst 1, 1) := by decide +kernel
theorem dX8_carries_128 : decode cX8_carries 128 = .ok (.invokevirtual 116, 3) := by decide +kernel
theorem dX8_carries_131 : decode cX8_carries 131 = .ok (.ireturn, 1) := by decide +kernel
theorem dX8_carries_132 : decode cX8_carries 132 = .ok (.aload_n 0, 1) := by decide +kernel
theorem dX8_carries_133 : decode cX8_carries 133 = .ok (.aload_n 0, 1) := by decide +kernel
theorem dX8_carries_134 : decode cX8_carries 134 = .ok (.getfield 29, 3) := by decide +kernel
theorem dX8_carries_137 : decode cX8_carries 137 = .ok (.iconst 0, 1) := by decide +kernel
theorem dX8_carries_138 : decode cX8_carries 138 = .ok (.iaload, 1) := by decide +kernel
theorem dX8_carries_139 : decode cX8_carries 139 = .ok (.iconst (-1), 1) := by decide +kernel
theorem dX8_carries_140 : decode cX8_carries 140 = .ok (.invokevirtual 116, 3) := by decide +kernel
theorem dX8_carries_143 : decode cX8_carries 143 = .ok (.ireturn, 1) := by decide +kernel
theorem dX8_carries_144 : decode cX8_carries 144 = .ok (.aload_n 0, 1) := by decide +kernel
theorem dX8_carries_145 : decode cX8_carries 145 = .ok (.aload_n 0, 1) := by decide +kernel
theorem dX8_carries_146 : decode cX8_carries 146 = .ok (.getfield 29, 3) := by decide +kernel
theorem dX8_carries_149 : decode cX8_carries 149 = .ok (.iconst 0, 1) := by decide +kernel
theorem dX8_carries_150 : decode cX8_carries 150 = .ok (.iaload, 1) := by decide +kernel
theorem dX8_carries_151 : decode cX8_carries 151 = .ok (.iconst 1, 1) := by decide +kernel
theorem dX8_carries_152 : decode cX8_carries 152 = .ok (.invokevirtual 125, 3) := by decide +kernel
theorem dX8_carries_155 : decode cX8_carries 155 = .ok (.ireturn, 1) := by decide +kernel
theorem dX8_carries_156 : decode cX8_carries 156 = .ok (.aload_n 0, 1) := by decide +kernel
theorem dX8_carries_157 : decode cX8_carries 157 = .ok (.aload_n 0, 1) := by decide +kernel
theorem dX8_carries_158 : decode cX8_carries 158 = .ok (.getfield 29, 3) := by decide +kernel
theorem dX8_carries_161 : decode cX8_carries 161 = .ok (.iconst 0, 1) := by decide +kernel
theorem dX8_carries_162 : decode cX8_carries 162 = .ok (.iaload, 1) := by decide +kernel
theorem dX8_carries_163 : decode cX8_carries 163 = .ok (.iconst 0, 1) := by decide +kernel
theorem dX8_carries_164 : decode cX8_carries 164 = .ok (.invokevirtual 125, 3) := by decide +kernel
theorem dX8_carries_167 : decode cX8_carries 167 = .ok (.ireturn, 1) := by decide +kernel
theorem dX8_carries_168 : decode cX8_carries 168 = .ok (.aload_n 0, 1) := by decide +kernel
theorem dX8_carries_169 : decode cX8_carries 169 = .ok (.aload_n 0, 1) := by decide +kernel
theorem dX8_carries_170 : decode cX8_carries 170 = .ok (.getfield 29, 3) := by decide +kernel
theorem dX8_carries_173 : decode cX8_carries 173 = .ok (.iconst 0, 1) := by decide +kernel
theorem dX8_carries_174 : decode cX8_carries 174 = .ok (.iaload, 1) := by decide +kernel
theorem dX8_carries_175 : decode cX8_carries 175 = .ok (.aload_n 0, 1) := by decide +kernel
theorem dX8_carries_176 : decode cX8_carries 176 = .ok (.getfield 29, 3) := by decide +kernel
theorem dX8_carries_179 : decode cX8_carries 179 = .ok (.iconst 1, 1) := by decide +kernel
theorem dX8_carries_180 : decode cX8_carries 180 = .ok (.iaload, 1) := by decide +kernel
theorem dX8_carries_181 : decode cX8_carries 181 = .ok (.invokevirtual 132, 3) := by decide +kernel
theorem dX8_carries_184 : decode cX8_carries 184 = .ok (.ireturn, 1) := by decide +kernel
theorem dX8_carries_185 : decode cX8_carries 185 = .ok (.aload_n 0, 1) := by decide +kernel
theorem dX8_carries_186 : decode cX8_carries 186 = .ok (.aload_n 0, 1) := by decide +kernel
theorem dX8_carries_187 : decode cX8_carries 187 = .ok (.invokevirtual 92, 3) := by decide +kernel
theorem dX8_carries_190 : decode cX8_carries 190 = .ok (.ifCond .eq 7, 3) := by decide +kernel
theorem dX8_carries_193 : decode cX8_carries 193 = .ok (.iconst 1, 1) := by decide +kernel
theorem dX8_carries_194 : decode cX8_carries 194 = .ok (.goto 4, 3) := by decide +kernel
theorem dX8_carries_197 : decode cX8_carries 197 = .ok (.iconst 0, 1) := by decide +kernel
theorem dX8_carries_198 : decode cX8_carries 198 = .ok (.invokevirtual 96, 3) := by decide +kernel
theorem dX8_carries_201 : decode cX8_carries 201 = .ok (.ireturn, 1) := by decide +kernel
set_option maxRecDepth 20000 in
theorem ggX8_commands_X8_tries : GoodIn wsX8_commands wsX8_tries := goodIn_ca (goodIn_r _ [9, 10, 11, 12, 122, 123, 124, 125, 126, 127, 128, 129, 130, 131, 132, 133, 134, 135, 136, 137, 138, 139, 140, 141, 142, 143] (by decide +kernel) (by decide +kernel)) (goodIn_sub (fun _ h => List.mem_cons_of_mem _ (List.mem_append_right _ h)) (by decide +kernel))
set_option maxRecDepth 20000 in
theorem gX8_commands_X8_tries : GoodIn wsX8_commands (wsV RX8 99 RX8 yX8_tries wsX8_tries) := goodIn_app (goodIn_of _ (by decide +kernel)) ggX8_commands_X8_tries
set_option maxRecDepth 20000 in
theorem ggX8_commands_X8_isCommand : GoodIn wsX8_commands wsX8_isCommand := goodIn_ca (goodIn_r _ [16, 1, 3, 17, 18, 19, 20, 21, 22, 8, 23, 24, 25, 26, 27, 28, 29, 30, 122, 123, 124, 125, 126, 127, 128, 129, 130, 131, 132, 133, 134, 135, 136, 137, 138, 139, 140, 141, 142, 143] (by decide +kernel) (by decide +kernel)) (goodIn_sub (fun _ h => List.mem_cons_of_mem _ (List.mem_append_right _ h)) (by decide +kernel))
set_option maxRecDepth 20000 in
theorem gX8_commands_X8_isCommand : GoodIn wsX8_commands (wsV RX8 184 RX8 yX8_isCommand wsX8_isCommand) := goodIn_app (goodIn_of _ (by decide +kernel)) ggX8_commands_X8_isCommand
set_option maxRecDepth 20000 in
theorem ggX8_commands_X8_sign : GoodIn wsX8_commands wsX8_sign := goodIn_ca (goodIn_r _ [30, 1, 3, 17, 122, 123, 124, 125, 126, 127, 128, 129, 130, 131, 132, 133, 134, 135, 136, 137, 138, 139, 140, 141, 142, 143] (by decide +kernel) (by decide +kernel)) (goodIn_sub (fun _ h => List.mem_cons_of_mem _ (List.mem_append_right _ h)) (by decide +kernel))
set_option maxRecDepth 20000 in
theorem gX8_commands_X8_sign : GoodIn wsX8_commands (wsV RX8 180 RX8 yX8_sign wsX8_sign) := goodIn_app (goodIn_of _ (by decide +kernel)) ggX8_commands_X8_sign
set_option maxRecDepth 20000 in
theorem ggX8_commands_X8_raises : GoodIn wsX8_commands wsX8_raises := goodIn_r _ [34, 10, 122, 123, 124, 125, 126, 127, 128, 129, 130, 131, 132, 133, 134, 135, 136, 137, 138, 139, 140, 141, 142, 143] (by decide +kernel) (by decide +kernel)
set_option maxRecDepth 20000 in
theorem gX8_commands_X8_raises : GoodIn wsX8_commands (wsV RX8 61 RX8 yX8_raises wsX8_raises) := goodIn_app (goodIn_of _ (by decide +kernel)) ggX8_commands_X8_raises
set_option maxRecDepth 20000 in
theorem ggX8_commands_X8_carries : GoodIn wsX8_commands wsX8_carries := goodIn_ca (goodIn_r _ [38, 18, 19, 39, 40, 41, 8, 42, 12, 43, 44, 45, 24, 25, 26, 46, 47, 48, 49, 50, 51, 52, 53, 54, 4, 55, 56, 57, 58, 59, 60, 61, 62, 63, 64, 65, 66, 67, 68, 69, 70, 71, 72, 73, 74, 75, 76, 77, 78, 79, 80, 81, 82, 83, 84, 85, 86, 87, 88, 89, 90, 91, 92, 93, 94, 95, 96, 97, 98, 99, 100, 101, 102, 103, 104, 105, 106, 107, 108, 109, 110, 111, 122, 123, 124, 125, 126, 127, 128, 129, 130, 131, 132, 133, 134, 135, 136, 137, 138, 139, 140, 141, 142, 143] (by decide +kernel) (by decide +kernel)) (goodIn_sub (fun _ h => List.mem_cons_of_mem _ (List.mem_append_right _ h)) (by decide +kernel))
set_option maxRecDepth 20000 in
theorem gX8_commands_X8_carries : GoodIn wsX8_commands (wsV RX8 187 RX8 yX8_carries wsX8_carries) := goodIn_app (goodIn_of _ (by decide +kernel)) ggX8_commands_X8_carries
set_option maxRecDepth 20000 in
theorem ggX8_commands_X8_keeps : GoodIn wsX8_commands wsX8_keeps := goodIn_ca (goodIn_r _ [115, 116, 117, 11, 122, 123, 124, 125, 126, 127, 128, 129, 130, 131, 132, 133, 134, 135, 136, 137, 138, 139, 140, 141, 142, 143] (by decide +kernel) (by decide +kernel)) (goodIn_sub (fun _ h => List.mem_cons_of_mem _ (List.mem_append_right _ h)) (by decide +kernel))
set_option maxRecDepth 20000 in
theorem gX8_commands_X8_keeps : GoodIn wsX8_commands (wsV RX8 57 RX8 yX8_keeps wsX8_keeps) := goodIn_app (goodIn_of _ (by decide +kernel)) ggX8_commands_X8_keeps
set_option maxRecDepth 20000 in
theorem ggX8_commands_X8_comesBack : GoodIn wsX8_commands wsX8_comesBack := goodIn_ca (goodIn_r _ [121, 12, 11, 122, 123, 124, 125, 126, 127, 128, 129, 130, 131, 132, 133, 134, 135, 136, 137, 138, 139, 140, 141, 142, 143] (by decide +kernel) (by decide +kernel)) (goodIn_sub (fun _ h => List.mem_cons_of_mem _ (List.mem_append_right _ h)) (by decide +kernel))
set_option maxRecDepth 20000 in
theorem gX8_commands_X8_comesBack : GoodIn wsX8_commands (wsV RX8 190 RX8 yX8_comesBack wsX8_comesBack) := goodIn_app (goodIn_of _ (by decide +kernel)) ggX8_commands_X8_comesBack
theorem dX8_commands_0 : decode cX8_commands 0 = .ok (.aload_n 0, 1) := by decide +kernel
theorem dX8_commands_1 : decode cX8_commands 1 = .ok (.invokevirtual 99, 3) := by decide +kernel
theorem dX8_commands_4 : decode cX8_commands 4 = .ok (.aload_n 0, 1) := by decide +kernel
theorem dX8_commands_5 : decode cX8_commands 5 = .ok (.iconst 0, 1) := by decide +kernel
theorem dX8_commands_6 : decode cX8_commands 6 = .ok (.putfield 170, 3) := by decide +kernel
theorem dX8_commands_9 : decode cX8_commands 9 = .ok (.aload_n 0, 1) := by decide +kernel
theorem dX8_commands_10 : decode cX8_commands 10 = .ok (.iconst (-1), 1) := by decide +kernel
theorem dX8_commands_11 : decode cX8_commands 11 = .ok (.putfield 32, 3) := by decide +kernel
theorem dX8_commands_14 : decode cX8_commands 14 = .ok (.aload_n 0, 1) := by decide +kernel
theorem dX8_commands_15 : decode cX8_commands 15 = .ok (.invokevirtual 184, 3) := by decide +kernel
theorem dX8_commands_18 : decode cX8_commands 18 = .ok (.istore_n 1, 1) := by decide +kernel
theorem dX8_commands_19 : decode cX8_commands 19 = .ok (.iload_n 1, 1) := by decide +kernel
theorem dX8_commands_20 : decode cX8_commands 20 = .ok (.ifCond .eq 39, 3) := by decide +kernel
theorem dX8_commands_23 : decode cX8_commands 23 = .ok (.aload_n 0, 1) := by decide +kernel
theorem dX8_commands_24 : decode cX8_commands 24 = .ok (.getfield 170, 3) := by decide +kernel
theorem dX8_commands_27 : decode cX8_commands 27 = .ok (.aload_n 0, 1) := by decide +kernel
theorem dX8_commands_28 : decode cX8_commands 28 = .ok (.getfield 167, 3) := by decide +kernel
theorem dX8_commands_31 : decode cX8_commands 31 = .ok (.if_icmp .ge 28, 3) := by decide +kernel
theorem dX8_commands_34 : decode cX8_commands 34 = .ok (.aload_n 0, 1) := by decide +kernel
theorem dX8_commands_35 : decode cX8_commands 35 = .ok (.bipush 59, 2) := by decide +kernel
theorem dX8_commands_37 : decode cX8_commands 37 = .ok (.invokevirtual 180, 3) := by decide +kernel
theorem dX8_commands_40 : decode cX8_commands 40 = .ok (.ifCond .eq 14, 3) := by decide +kernel
theorem dX8_commands_43 : decode cX8_commands 43 = .ok (.aload_n 0, 1) := by decide +kernel
theorem dX8_commands_44 : decode cX8_commands 44 = .ok (.invokevirtual 184, 3) := by decide +kernel
theorem dX8_commands_47 : decode cX8_commands 47 = .ok (.ifCond .eq 7, 3) := by decide +kernel
theorem dX8_commands_50 : decode cX8_commands 50 = .ok (.iconst 1, 1) := by decide +kernel
theorem dX8_commands_51 : decode cX8_commands 51 = .ok (.goto 4, 3) := by decide +kernel
theorem dX8_commands_54 : decode cX8_commands 54 = .ok (.iconst 0, 1) := by decide +kernel
theorem dX8_commands_55 : decode cX8_commands 55 = .ok (.istore_n 1, 1) := by decide +kernel
theorem dX8_commands_56 : decode cX8_commands 56 = .ok (.goto (-37), 3) := by decide +kernel
theorem dX8_commands_59 : decode cX8_commands 59 = .ok (.iload_n 1, 1) := by decide +kernel
theorem dX8_commands_60 : decode cX8_commands 60 = .ok (.ifCond .ne 22, 3) := by decide +kernel
theorem dX8_commands_63 : decode cX8_commands 63 = .ok (.aload_n 0, 1) := by decide +kernel
theorem dX8_commands_64 : decode cX8_commands 64 = .ok (.aload_n 0, 1) := by decide +kernel
theorem dX8_commands_65 : decode cX8_commands 65 = .ok (.getfield 170, 3) := by decide +kernel
theorem dX8_commands_68 : decode cX8_commands 68 = .ok (.putfield 32, 3) := by decide +kernel
theorem dX8_commands_71 : decode cX8_commands 71 = .ok (.aload_n 0, 1) := by decide +kernel
theorem dX8_commands_72 : decode cX8_commands 72 = .ok (.iconst 0, 1) := by decide +kernel
theorem dX8_commands_73 : decode cX8_commands 73 = .ok (.putfield 167, 3) := by decide +kernel
theorem dX8_commands_76 : decode cX8_commands 76 = .ok (.aload_n 0, 1) := by decide +kernel
theorem dX8_commands_77 : decode cX8_commands 77 = .ok (.iconst 1, 1) := by decide +kernel
theorem dX8_commands_78 : decode cX8_commands 78 = .ok (.invokevirtual 61, 3) := by decide +kernel
theorem dX8_commands_81 : decode cX8_commands 81 = .ok (.ireturn, 1) := by decide +kernel
theorem dX8_commands_82 : decode cX8_commands 82 = .ok (.aload_n 0, 1) := by decide +kernel
theorem dX8_commands_83 : decode cX8_commands 83 = .ok (.iconst 0, 1) := by decide +kernel
theorem dX8_commands_84 : decode cX8_commands 84 = .ok (.putfield 170, 3) := by decide +kernel
theorem dX8_commands_87 : decode cX8_commands 87 = .ok (.iconst 0, 1) := by decide +kernel
theorem dX8_commands_88 : decode cX8_commands 88 = .ok (.istore_n 2, 1) := by decide +kernel
theorem dX8_commands_89 : decode cX8_commands 89 = .ok (.iconst 1, 1) := by decide +kernel
theorem dX8_commands_90 : decode cX8_commands 90 = .ok (.istore_n 3, 1) := by decide +kernel
theorem dX8_commands_91 : decode cX8_commands 91 = .ok (.iload_n 3, 1) := by decide +kernel
theorem dX8_commands_92 : decode cX8_commands 92 = .ok (.ifCond .eq 52, 3) := by decide +kernel
theorem dX8_commands_95 : decode cX8_commands 95 = .ok (.aload_n 0, 1) := by decide +kernel
theorem dX8_commands_96 : decode cX8_commands 96 = .ok (.invokevirtual 184, 3) := by decide +kernel
theorem dX8_commands_99 : decode cX8_commands 99 = .ok (.ifCond .eq 14, 3) := by decide +kernel
theorem dX8_commands_102 : decode cX8_commands 102 = .ok (.aload_n 0, 1) := by decide +kernel
theorem dX8_commands_103 : decode cX8_commands 103 = .ok (.invokevirtual 187, 3) := by decide +kernel
theorem dX8_commands_106 : decode cX8_commands 106 = .ok (.ifCond .eq 7, 3) := by decide +kernel
theorem dX8_commands_109 : decode cX8_commands 109 = .ok (.iconst 1, 1) := by decide +kernel
theorem dX8_commands_110 : decode cX8_commands 110 = .ok (.goto 4, 3) := by decide +kernel
theorem dX8_commands_113 : decode cX8_commands 113 = .ok (.iconst 0, 1) := by decide +kernel
theorem dX8_commands_114 : decode cX8_commands 114 = .ok (.istore_n 1, 1) := by decide +kernel
theorem dX8_commands_115 : decode cX8_commands 115 = .ok (.iload_n 1, 1) := by decide +kernel
theorem dX8_commands_116 : decode cX8_commands 116 = .ok (.ifCond .eq 6, 3) := by decide +kernel
theorem dX8_commands_119 : decode cX8_commands 119 = .ok (.iinc 2 1, 3) := by decide +kernel
theorem dX8_commands_122 : decode cX8_commands 122 = .ok (.iload_n 1, 1) := by decide +kernel
theorem dX8_commands_123 : decode cX8_commands 123 = .ok (.ifCond .eq 16, 3) := by decide +kernel
theorem dX8_commands_126 : decode cX8_commands 126 = .ok (.aload_n 0, 1) := by decide +kernel
theorem dX8_commands_127 : decode cX8_commands 127 = .ok (.bipush 59, 2) := by decide +kernel
theorem dX8_commands_129 : decode cX8_commands 129 = .ok (.invokevirtual 180, 3) := by decide +kernel
theorem dX8_commands_132 : decode cX8_commands 132 = .ok (.ifCond .eq 7, 3) := by decide +kernel
theorem dX8_commands_135 : decode cX8_commands 135 = .ok (.iconst 1, 1) := by decide +kernel
theorem dX8_commands_136 : decode cX8_commands 136 = .ok (.goto 4, 3) := by decide +kernel
theorem dX8_commands_139 : decode cX8_commands 139 = .ok (.iconst 0, 1) := by decide +kernel
theorem dX8_commands_140 : decode cX8_commands 140 = .ok (.istore_n 3, 1) := by decide +kernel
theorem dX8_commands_141 : decode cX8_commands 141 = .ok (.goto (-50), 3) := by decide +kernel
theorem dX8_commands_144 : decode cX8_commands 144 = .ok (.aload_n 0, 1) := by decide +kernel
theorem dX8_commands_145 : decode cX8_commands 145 = .ok (.iconst 0, 1) := by decide +kernel
theorem dX8_commands_146 : decode cX8_commands 146 = .ok (.putfield 167, 3) := by decide +kernel
theorem dX8_commands_149 : decode cX8_commands 149 = .ok (.iload_n 1, 1) := by decide +kernel
theorem dX8_commands_150 : decode cX8_commands 150 = .ok (.ifCond .eq 9, 3) := by decide +kernel
theorem dX8_commands_153 : decode cX8_commands 153 = .ok (.aload_n 0, 1) := by decide +kernel
theorem dX8_commands_154 : decode cX8_commands 154 = .ok (.iload_n 2, 1) := by decide +kernel
theorem dX8_commands_155 : decode cX8_commands 155 = .ok (.invokevirtual 57, 3) := by decide +kernel
theorem dX8_commands_158 : decode cX8_commands 158 = .ok (.ireturn, 1) := by decide +kernel
theorem dX8_commands_159 : decode cX8_commands 159 = .ok (.aload_n 0, 1) := by decide +kernel
theorem dX8_commands_160 : decode cX8_commands 160 = .ok (.iload_n 2, 1) := by decide +kernel
theorem dX8_commands_161 : decode cX8_commands 161 = .ok (.putfield 54, 3) := by decide +kernel
theorem dX8_commands_164 : decode cX8_commands 164 = .ok (.aload_n 0, 1) := by decide +kernel
theorem dX8_commands_165 : decode cX8_commands 165 = .ok (.invokevirtual 190, 3) := by decide +kernel
theorem dX8_commands_168 : decode cX8_commands 168 = .ok (.aload_n 0, 1) := by decide +kernel
theorem dX8_commands_169 : decode cX8_commands 169 = .ok (.iconst 2, 1) := by decide +kernel
theorem dX8_commands_170 : decode cX8_commands 170 = .ok (.invokevirtual 61, 3) := by decide +kernel
theorem dX8_commands_173 : decode cX8_commands 173 = .ok (.ireturn, 1) := by decide +kernel
theorem dX8_faultPosition_0 : decode cX8_faultPosition 0 = .ok (.aload_n 0, 1) := by decide +kernel
theorem dX8_faultPosition_1 : decode cX8_faultPosition 1 = .ok (.iconst 0, 1) := by decide +kernel
theorem dX8_faultPosition_2 : decode cX8_faultPosition 2 = .ok (.putfield 39, 3) := by decide +kernel
theorem dX8_faultPosition_5 : decode cX8_faultPosition 5 = .ok (.aload_n 0, 1) := by decide +kernel
theorem dX8_faultPosition_6 : decode cX8_faultPosition 6 = .ok (.getfield 32, 3) := by decide +kernel
theorem dX8_faultPosition_9 : decode cX8_faultPosition 9 = .ok (.ireturn, 1) := by decide +kernel
set_option maxRecDepth 20000 in
theorem ggX8_reason_X8_in : GoodIn wsX8_reason wsX8_in := goodIn_r _ [8] (by decide +kernel) (by decide +kernel)
set_option maxRecDepth 20000 in
theorem gX8_reason_X8_in : GoodIn wsX8_reason (va_wsS RX8 64 yX8_in wsX8_in) := goodIn_app (goodIn_of _ (by decide +kernel)) ggX8_reason_X8_in
set_option maxRecDepth 20000 in
theorem ggX8_reason_X8_raises : GoodIn wsX8_reason wsX8_raises := goodIn_r _ [12, 1, 13, 14, 15, 16, 17, 18, 19, 20, 21, 22, 23, 24, 25, 26, 27, 28, 29, 30, 31, 32, 33, 34] (by decide +kernel) (by decide +kernel)
set_option maxRecDepth 20000 in
theorem gX8_reason_X8_raises : GoodIn wsX8_reason (wsV RX8 61 RX8 yX8_raises wsX8_raises) := goodIn_app (goodIn_of _ (by decide +kernel)) ggX8_reason_X8_raises
theorem dX8_reason_0 : decode cX8_reason 0 = .ok (.aload_n 0, 1) := by decide +kernel
theorem dX8_reason_1 : decode cX8_reason 1 = .ok (.iconst 0, 1) := by decide +kernel
theorem dX8_reason_2 : decode cX8_reason 2 = .ok (.putfield 39, 3) := by decide +kernel
theorem dX8_reason_5 : decode cX8_reason 5 = .ok (.iload_n 1, 1) := by decide +kernel
theorem dX8_reason_6 : decode cX8_reason 6 = .ok (.iconst 0, 1) := by decide +kernel
theorem dX8_reason_7 : decode cX8_reason 7 = .ok (.iconst 2, 1) := by decide +kernel
theorem dX8_reason_8 : decode cX8_reason 8 = .ok (.invokestatic 64, 3) := by decide +kernel
theorem dX8_reason_11 : decode cX8_reason 11 = .ok (.ifCond .ne 9, 3) := by decide +kernel
theorem dX8_reason_14 : decode cX8_reason 14 = .ok (.aload_n 0, 1) := by decide +kernel
theorem dX8_reason_15 : decode cX8_reason 15 = .ok (.iconst 1, 1) := by decide +kernel
theorem dX8_reason_16 : decode cX8_reason 16 = .ok (.invokevirtual 61, 3) := by decide +kernel
theorem dX8_reason_19 : decode cX8_reason 19 = .ok (.ireturn, 1) := by decide +kernel
theorem dX8_reason_20 : decode cX8_reason 20 = .ok (.aload_n 0, 1) := by decide +kernel
theorem dX8_reason_21 : decode cX8_reason 21 = .ok (.getfield 48, 3) := by decide +kernel
theorem dX8_reason_24 : decode cX8_reason 24 = .ok (.ifCond .ne 9, 3) := by decide +kernel
theorem dX8_reason_27 : decode cX8_reason 27 = .ok (.aload_n 0, 1) := by decide +kernel
theorem dX8_reason_28 : decode cX8_reason 28 = .ok (.iconst 2, 1) := by decide +kernel
theorem dX8_reason_29 : decode cX8_reason 29 = .ok (.invokevirtual 61, 3) := by decide +kernel
theorem dX8_reason_32 : decode cX8_reason 32 = .ok (.ireturn, 1) := by decide +kernel
theorem dX8_reason_33 : decode cX8_reason 33 = .ok (.iload_n 1, 1) := by decide +kernel
theorem dX8_reason_34 : decode cX8_reason 34 = .ok (.ifCond .ne 10, 3) := by decide +kernel
theorem dX8_reason_37 : decode cX8_reason 37 = .ok (.aload_n 0, 1) := by decide +kernel
theorem dX8_reason_38 : decode cX8_reason 38 = .ok (.getfield 48, 3) := by decide +kernel
theorem dX8_reason_41 : decode cX8_reason 41 = .ok (.goto 19, 3) := by decide +kernel
theorem dX8_reason_44 : decode cX8_reason 44 = .ok (.iload_n 1, 1) := by decide +kernel
theorem dX8_reason_45 : decode cX8_reason 45 = .ok (.iconst 1, 1) := by decide +kernel
theorem dX8_reason_46 : decode cX8_reason 46 = .ok (.if_icmp .ne 10, 3) := by decide +kernel
theorem dX8_reason_49 : decode cX8_reason 49 = .ok (.aload_n 0, 1) := by decide +kernel
theorem dX8_reason_50 : decode cX8_reason 50 = .ok (.getfield 51, 3) := by decide +kernel
theorem dX8_reason_53 : decode cX8_reason 53 = .ok (.goto 7, 3) := by decide +kernel
theorem dX8_reason_56 : decode cX8_reason 56 = .ok (.aload_n 0, 1) := by decide +kernel
theorem dX8_reason_57 : decode cX8_reason 57 = .ok (.getfield 54, 3) := by decide +kernel
theorem dX8_reason_60 : decode cX8_reason 60 = .ok (.ireturn, 1) := by decide +kernel
set_option maxRecDepth 20000 in
theorem ggX8_writesNumber_X8_writesNumber : GoodIn wsX8_writesNumber wsX8_writesNumber := goodIn_ca (goodIn_r _ [0, 1, 2, 3, 4, 5, 6, 7, 8, 9, 10, 11, 12, 13, 14, 15, 16, 17, 18, 19, 20, 21, 22, 23, 24, 25, 26, 27, 28] (by decide +kernel) (by decide +kernel)) (goodIn_sub (fun _ h => List.mem_cons_of_mem _ (List.mem_append_right _ h)) (by decide +kernel))
set_option maxRecDepth 20000 in
theorem gX8_writesNumber_X8_writesNumber : GoodIn wsX8_writesNumber (wsV RX8 193 RX8 yX8_writesNumber wsX8_writesNumber) := goodIn_app (goodIn_of _ (by decide +kernel)) ggX8_writesNumber_X8_writesNumber
theorem dX8_writesNumber_0 : decode cX8_writesNumber 0 = .ok (.iload_n 1, 1) := by decide +kernel
theorem dX8_writesNumber_1 : decode cX8_writesNumber 1 = .ok (.bipush 9, 2) := by decide +kernel
theorem dX8_writesNumber_3 : decode cX8_writesNumber 3 = .ok (.if_icmp .le 11, 3) := by decide +kernel
theorem dX8_writesNumber_6 : decode cX8_writesNumber 6 = .ok (.aload_n 0, 1) := by decide +kernel
theorem dX8_writesNumber_7 : decode cX8_writesNumber 7 = .ok (.iload_n 1, 1) := by decide +kernel
theorem dX8_writesNumber_8 : decode cX8_writesNumber 8 = .ok (.bipush 10, 2) := by decide +kernel
theorem dX8_writesNumber_10 : decode cX8_writesNumber 10 = .ok (.idiv, 1) := by decide +kernel
theorem dX8_writesNumber_11 : decode cX8_writesNumber 11 = .ok (.invokevirtual 193, 3) := by decide +kernel
theorem dX8_writesNumber_14 : decode cX8_writesNumber 14 = .ok (.aload_n 0, 1) := by decide +kernel
theorem dX8_writesNumber_15 : decode cX8_writesNumber 15 = .ok (.getfield 22, 3) := by decide +kernel
theorem dX8_writesNumber_18 : decode cX8_writesNumber 18 = .ok (.aload_n 0, 1) := by decide +kernel
theorem dX8_writesNumber_19 : decode cX8_writesNumber 19 = .ok (.dup, 1) := by decide +kernel
theorem dX8_writesNumber_20 : decode cX8_writesNumber 20 = .ok (.getfield 197, 3) := by decide +kernel
theorem dX8_writesNumber_23 : decode cX8_writesNumber 23 = .ok (.dup_x1, 1) := by decide +kernel
theorem dX8_writesNumber_24 : decode cX8_writesNumber 24 = .ok (.iconst 1, 1) := by decide +kernel
theorem dX8_writesNumber_25 : decode cX8_writesNumber 25 = .ok (.iadd, 1) := by decide +kernel
theorem dX8_writesNumber_26 : decode cX8_writesNumber 26 = .ok (.putfield 197, 3) := by decide +kernel
theorem dX8_writesNumber_29 : decode cX8_writesNumber 29 = .ok (.bipush 48, 2) := by decide +kernel
theorem dX8_writesNumber_31 : decode cX8_writesNumber 31 = .ok (.iload_n 1, 1) := by decide +kernel
theorem dX8_writesNumber_32 : decode cX8_writesNumber 32 = .ok (.bipush 10, 2) := by decide +kernel
theorem dX8_writesNumber_34 : decode cX8_writesNumber 34 = .ok (.irem, 1) := by decide +kernel
theorem dX8_writesNumber_35 : decode cX8_writesNumber 35 = .ok (.iadd, 1) := by decide +kernel
theorem dX8_writesNumber_36 : decode cX8_writesNumber 36 = .ok (.i2c, 1) := by decide +kernel
theorem dX8_writesNumber_37 : decode cX8_writesNumber 37 = .ok (.castore, 1) := by decide +kernel
theorem dX8_writesNumber_38 : decode cX8_writesNumber 38 = .ok (.return_, 1) := by decide +kernel
set_option maxRecDepth 20000 in
theorem ggX8_line_X8_isLevel : GoodIn wsX8_line wsX8_isLevel := goodIn_r _ [8, 9, 10, 7, 11] (by decide +kernel) (by decide +kernel)
set_option maxRecDepth 20000 in
theorem gX8_line_X8_isLevel : GoodIn wsX8_line (va_wsS RX8 164 yX8_isLevel wsX8_isLevel) := goodIn_app (goodIn_of _ (by decide +kernel)) ggX8_line_X8_isLevel
set_option maxRecDepth 20000 in
theorem ggX8_line_X8_raises : GoodIn wsX8_line wsX8_raises := goodIn_r _ [15, 1, 36, 37, 38, 39, 40, 41, 42, 43, 44, 45, 46, 47, 48, 49, 50, 51, 52, 53, 54, 55, 56, 57] (by decide +kernel) (by decide +kernel)
set_option maxRecDepth 20000 in
theorem gX8_line_X8_raises : GoodIn wsX8_line (wsV RX8 61 RX8 yX8_raises wsX8_raises) := goodIn_app (goodIn_of _ (by decide +kernel)) ggX8_line_X8_raises
set_option maxRecDepth 20000 in
theorem ggX8_line_X8_writesNumber : GoodIn wsX8_line wsX8_writesNumber := goodIn_ca (goodIn_r _ [19, 3, 2, 16, 17, 18, 7, 36, 37, 38, 39, 40, 41, 42, 43, 44, 45, 46, 47, 48, 49, 50, 51, 52, 53, 54, 55, 56, 57] (by decide +kernel) (by decide +kernel)) (goodIn_sub (fun _ h => List.mem_cons_of_mem _ (List.mem_append_right _ h)) (by decide +kernel))
set_option maxRecDepth 20000 in
theorem gX8_line_X8_writesNumber : GoodIn wsX8_line (wsV RX8 193 RX8 yX8_writesNumber wsX8_writesNumber) := goodIn_app (goodIn_of _ (by decide +kernel)) ggX8_line_X8_writesNumber
set_option maxRecDepth 20000 in
theorem ggX8_line_X8_isOut : GoodIn wsX8_line wsX8_isOut := goodIn_ca (goodIn_r _ [23, 4, 36, 37, 38, 39, 40, 41, 42, 43, 44, 45, 46, 47, 48, 49, 50, 51, 52, 53, 54, 55, 56, 57] (by decide +kernel) (by decide +kernel)) (goodIn_sub (fun _ h => List.mem_cons_of_mem _ (List.mem_append_right _ h)) (by decide +kernel))
set_option maxRecDepth 20000 in
theorem gX8_line_X8_isOut : GoodIn wsX8_line (wsV RX8 119 RX8 yX8_isOut wsX8_isOut) := goodIn_app (goodIn_of _ (by decide +kernel)) ggX8_line_X8_isOut
set_option maxRecDepth 20000 in
theorem ggX8_line_X8_next : GoodIn wsX8_line wsX8_next := goodIn_ca (goodIn_r _ [27, 4, 28, 29, 30, 7, 31, 36, 37, 38, 39, 40, 41, 42, 43, 44, 45, 46, 47, 48, 49, 50, 51, 52, 53, 54, 55, 56, 57] (by decide +kernel) (by decide +kernel)) (goodIn_sub (fun _ h => List.mem_cons_of_mem _ (List.mem_append_right _ h)) (by decide +kernel))
set_option maxRecDepth 20000 in
theorem gX8_line_X8_next : GoodIn wsX8_line (wsV RX8 145 RX8 yX8_next wsX8_next) := goodIn_app (goodIn_of _ (by decide +kernel)) ggX8_line_X8_next
set_option maxRecDepth 20000 in
theorem ggX8_line_X8_key : GoodIn wsX8_line wsX8_key := goodIn_ca (goodIn_r _ [35, 4, 36, 37, 38, 39, 40, 41, 42, 43, 44, 45, 46, 47, 48, 49, 50, 51, 52, 53, 54, 55, 56, 57] (by decide +kernel) (by decide +kernel)) (goodIn_sub (fun _ h => List.mem_cons_of_mem _ (List.mem_append_right _ h)) (by decide +kernel))
set_option maxRecDepth 20000 in
theorem gX8_line_X8_key : GoodIn wsX8_line (wsV RX8 68 RX8 yX8_key wsX8_key) := goodIn_app (goodIn_of _ (by decide +kernel)) ggX8_line_X8_key
theorem dX8_line_0 : decode cX8_line 0 = .ok (.aload_n 0, 1) := by decide +kernel
theorem dX8_line_1 : decode cX8_line 1 = .ok (.iconst 0, 1) := by decide +kernel
theorem dX8_line_2 : decode cX8_line 2 = .ok (.putfield 39, 3) := by decide +kernel
theorem dX8_line_5 : decode cX8_line 5 = .ok (.iload_n 1, 1) := by decide +kernel
theorem dX8_line_6 : decode cX8_line 6 = .ok (.invokestatic 164, 3) := by decide +kernel
theorem dX8_line_9 : decode cX8_line 9 = .ok (.ifCond .ne 9, 3) := by decide +kernel
theorem dX8_line_12 : decode cX8_line 12 = .ok (.aload_n 0, 1) := by decide +kernel
theorem dX8_line_13 : decode cX8_line 13 = .ok (.iconst 1, 1) := by decide +kernel
theorem dX8_line_14 : decode cX8_line 14 = .ok (.invokevirtual 61, 3) := by decide +kernel
theorem dX8_line_17 : decode cX8_line 17 = .ok (.ireturn, 1) := by decide +kernel
theorem dX8_line_18 : decode cX8_line 18 = .ok (.aload_n 0, 1) := by decide +kernel
theorem dX8_line_19 : decode cX8_line 19 = .ok (.iconst 0, 1) := by decide +kernel
theorem dX8_line_20 : decode cX8_line 20 = .ok (.putfield 197, 3) := by decide +kernel
theorem dX8_line_23 : decode cX8_line 23 = .ok (.aload_n 0, 1) := by decide +kernel
theorem dX8_line_24 : decode cX8_line 24 = .ok (.iload_n 1, 1) := by decide +kernel
theorem dX8_line_25 : decode cX8_line 25 = .ok (.invokevirtual 193, 3) := by decide +kernel
theorem dX8_line_28 : decode cX8_line 28 = .ok (.aload_n 0, 1) := by decide +kernel
theorem dX8_line_29 : decode cX8_line 29 = .ok (.iload_n 1, 1) := by decide +kernel
theorem dX8_line_30 : decode cX8_line 30 = .ok (.invokevirtual 119, 3) := by decide +kernel
theorem dX8_line_33 : decode cX8_line 33 = .ok (.ifCond .eq 21, 3) := by decide +kernel
theorem dX8_line_36 : decode cX8_line 36 = .ok (.aload_n 0, 1) := by decide +kernel
theorem dX8_line_37 : decode cX8_line 37 = .ok (.getfield 22, 3) := by decide +kernel
theorem dX8_line_40 : decode cX8_line 40 = .ok (.aload_n 0, 1) := by decide +kernel
theorem dX8_line_41 : decode cX8_line 41 = .ok (.dup, 1) := by decide +kernel
theorem dX8_line_42 : decode cX8_line 42 = .ok (.getfield 197, 3) := by decide +kernel
theorem dX8_line_45 : decode cX8_line 45 = .ok (.dup_x1, 1) := by decide +kernel
theorem dX8_line_46 : decode cX8_line 46 = .ok (.iconst 1, 1) := by decide +kernel
theorem dX8_line_47 : decode cX8_line 47 = .ok (.iadd, 1) := by decide +kernel
theorem dX8_line_48 : decode cX8_line 48 = .ok (.putfield 197, 3) := by decide +kernel
theorem dX8_line_51 : decode cX8_line 51 = .ok (.bipush 33, 2) := by decide +kernel
theorem dX8_line_53 : decode cX8_line 53 = .ok (.castore, 1) := by decide +kernel
theorem dX8_line_54 : decode cX8_line 54 = .ok (.aload_n 0, 1) := by decide +kernel
theorem dX8_line_55 : decode cX8_line 55 = .ok (.getfield 22, 3) := by decide +kernel
theorem dX8_line_58 : decode cX8_line 58 = .ok (.aload_n 0, 1) := by decide +kernel
theorem dX8_line_59 : decode cX8_line 59 = .ok (.dup, 1) := by decide +kernel
theorem dX8_line_60 : decode cX8_line 60 = .ok (.getfield 197, 3) := by decide +kernel
theorem dX8_line_63 : decode cX8_line 63 = .ok (.dup_x1, 1) := by decide +kernel
theorem dX8_line_64 : decode cX8_line 64 = .ok (.iconst 1, 1) := by decide +kernel
theorem dX8_line_65 : decode cX8_line 65 = .ok (.iadd, 1) := by decide +kernel
theorem dX8_line_66 : decode cX8_line 66 = .ok (.putfield 197, 3) := by decide +kernel
theorem dX8_line_69 : decode cX8_line 69 = .ok (.bipush 58, 2) := by decide +kernel
theorem dX8_line_71 : decode cX8_line 71 = .ok (.castore, 1) := by decide +kernel
theorem dX8_line_72 : decode cX8_line 72 = .ok (.aload_n 0, 1) := by decide +kernel
theorem dX8_line_73 : decode cX8_line 73 = .ok (.iconst (-1), 1) := by decide +kernel
theorem dX8_line_74 : decode cX8_line 74 = .ok (.iload_n 1, 1) := by decide +kernel
theorem dX8_line_75 : decode cX8_line 75 = .ok (.invokevirtual 145, 3) := by decide +kernel
theorem dX8_line_78 : decode cX8_line 78 = .ok (.istore_n 2, 1) := by decide +kernel
theorem dX8_line_79 : decode cX8_line 79 = .ok (.iload_n 2, 1) := by decide +kernel
theorem dX8_line_80 : decode cX8_line 80 = .ok (.aload_n 0, 1) := by decide +kernel
theorem dX8_line_81 : decode cX8_line 81 = .ok (.getfield 9, 3) := by decide +kernel
theorem dX8_line_84 : decode cX8_line 84 = .ok (.iconst 0, 1) := by decide +kernel
theorem dX8_line_85 : decode cX8_line 85 = .ok (.iaload, 1) := by decide +kernel
theorem dX8_line_86 : decode cX8_line 86 = .ok (.if_icmp .ge 40, 3) := by decide +kernel
theorem dX8_line_89 : decode cX8_line 89 = .ok (.aload_n 0, 1) := by decide +kernel
theorem dX8_line_90 : decode cX8_line 90 = .ok (.getfield 22, 3) := by decide +kernel
theorem dX8_line_93 : decode cX8_line 93 = .ok (.aload_n 0, 1) := by decide +kernel
theorem dX8_line_94 : decode cX8_line 94 = .ok (.dup, 1) := by decide +kernel
theorem dX8_line_95 : decode cX8_line 95 = .ok (.getfield 197, 3) := by decide +kernel
theorem dX8_line_98 : decode cX8_line 98 = .ok (.dup_x1, 1) := by decide +kernel
theorem dX8_line_99 : decode cX8_line 99 = .ok (.iconst 1, 1) := by decide +kernel
theorem dX8_line_100 : decode cX8_line 100 = .ok (.iadd, 1) := by decide +kernel
theorem dX8_line_101 : decode cX8_line 101 = .ok (.putfield 197, 3) := by decide +kernel
theorem dX8_line_104 : decode cX8_line 104 = .ok (.bipush 32, 2) := by decide +kernel
theorem dX8_line_106 : decode cX8_line 106 = .ok (.castore, 1) := by decide +kernel
theorem dX8_line_107 : decode cX8_line 107 = .ok (.aload_n 0, 1) := by decide +kernel
theorem dX8_line_108 : decode cX8_line 108 = .ok (.aload_n 0, 1) := by decide +kernel
theorem dX8_line_109 : decode cX8_line 109 = .ok (.iload_n 2, 1) := by decide +kernel
theorem dX8_line_110 : decode cX8_line 110 = .ok (.invokevirtual 68, 3) := by decide +kernel
theorem dX8_line_113 : decode cX8_line 113 = .ok (.invokevirtual 193, 3) := by decide +kernel
theorem dX8_line_116 : decode cX8_line 116 = .ok (.aload_n 0, 1) := by decide +kernel
theorem dX8_line_117 : decode cX8_line 117 = .ok (.iload_n 2, 1) := by decide +kernel
theorem dX8_line_118 : decode cX8_line 118 = .ok (.iload_n 1, 1) := by decide +kernel
theorem dX8_line_119 : decode cX8_line 119 = .ok (.invokevirtual 145, 3) := by decide +kernel
theorem dX8_line_122 : decode cX8_line 122 = .ok (.istore_n 2, 1) := by decide +kernel
theorem dX8_line_123 : decode cX8_line 123 = .ok (.goto (-44), 3) := by decide +kernel
theorem dX8_line_126 : decode cX8_line 126 = .ok (.aload_n 0, 1) := by decide +kernel
theorem dX8_line_127 : decode cX8_line 127 = .ok (.getfield 197, 3) := by decide +kernel
theorem dX8_line_130 : decode cX8_line 130 = .ok (.ireturn, 1) := by decide +kernel
set_option maxRecDepth 20000 in
theorem ggX8_character_X8_in : GoodIn wsX8_character wsX8_in := goodIn_r _ [7] (by decide +kernel) (by decide +kernel)
set_option maxRecDepth 20000 in
theorem gX8_character_X8_in : GoodIn wsX8_character (va_wsS RX8 64 yX8_in wsX8_in) := goodIn_app (goodIn_of _ (by decide +kernel)) ggX8_character_X8_in
theorem dX8_character_0 : decode cX8_character 0 = .ok (.aload_n 0, 1) := by decide +kernel
theorem dX8_character_1 : decode cX8_character 1 = .ok (.iload_n 1, 1) := by decide +kernel
theorem dX8_character_2 : decode cX8_character 2 = .ok (.iconst 0, 1) := by decide +kernel
theorem dX8_character_3 : decode cX8_character 3 = .ok (.aload_n 0, 1) := by decide +kernel
theorem dX8_character_4 : decode cX8_character 4 = .ok (.getfield 197, 3) := by decide +kernel
theorem dX8_character_7 : decode cX8_character 7 = .ok (.iconst 1, 1) := by decide +kernel
theorem dX8_character_8 : decode cX8_character 8 = .ok (.isub, 1) := by decide +kernel
theorem dX8_character_9 : decode cX8_character 9 = .ok (.invokestatic 64, 3) := by decide +kernel
theorem dX8_character_12 : decode cX8_character 12 = .ok (.ifCond .eq 7, 3) := by decide +kernel
theorem dX8_character_15 : decode cX8_character 15 = .ok (.iconst 0, 1) := by decide +kernel
theorem dX8_character_16 : decode cX8_character 16 = .ok (.goto 4, 3) := by decide +kernel
theorem dX8_character_19 : decode cX8_character 19 = .ok (.iconst 1, 1) := by decide +kernel
theorem dX8_character_20 : decode cX8_character 20 = .ok (.putfield 39, 3) := by decide +kernel
theorem dX8_character_23 : decode cX8_character 23 = .ok (.aload_n 0, 1) := by decide +kernel
theorem dX8_character_24 : decode cX8_character 24 = .ok (.getfield 39, 3) := by decide +kernel
theorem dX8_character_27 : decode cX8_character 27 = .ok (.ifCond .ne 12, 3) := by decide +kernel
theorem dX8_character_30 : decode cX8_character 30 = .ok (.aload_n 0, 1) := by decide +kernel
theorem dX8_character_31 : decode cX8_character 31 = .ok (.getfield 22, 3) := by decide +kernel
theorem dX8_character_34 : decode cX8_character 34 = .ok (.iload_n 1, 1) := by decide +kernel
theorem dX8_character_35 : decode cX8_character 35 = .ok (.caload, 1) := by decide +kernel
theorem dX8_character_36 : decode cX8_character 36 = .ok (.goto 5, 3) := by decide +kernel
theorem dX8_character_39 : decode cX8_character 39 = .ok (.bipush 97, 2) := by decide +kernel
theorem dX8_character_41 : decode cX8_character 41 = .ok (.ireturn, 1) := by decide +kernel
set_option maxRecDepth 20000 in
theorem ggX8_allRungs_X8_rungs : GoodIn wsX8_allRungs wsX8_rungs := goodIn_ca (goodIn_r _ [6, 1, 7, 8, 9, 10, 11, 12, 13, 14, 15, 16, 17, 18, 19, 20, 21, 22, 23, 24, 25, 26, 27, 28] (by decide +kernel) (by decide +kernel)) (goodIn_sub (fun _ h => List.mem_cons_of_mem _ (List.mem_append_right _ h)) (by decide +kernel))
set_option maxRecDepth 20000 in
theorem gX8_allRungs_X8_rungs : GoodIn wsX8_allRungs (wsV RX8 75 RX8 yX8_rungs wsX8_rungs) := goodIn_app (goodIn_of _ (by decide +kernel)) ggX8_allRungs_X8_rungs
theorem dX8_allRungs_0 : decode cX8_allRungs 0 = .ok (.iconst 0, 1) := by decide +kernel
theorem dX8_allRungs_1 : decode cX8_allRungs 1 = .ok (.istore_n 1, 1) := by decide +kernel
theorem dX8_allRungs_2 : decode cX8_allRungs 2 = .ok (.iconst 0, 1) := by decide +kernel
theorem dX8_allRungs_3 : decode cX8_allRungs 3 = .ok (.istore_n 2, 1) := by decide +kernel
theorem dX8_allRungs_4 : decode cX8_allRungs 4 = .ok (.iload_n 2, 1) := by decide +kernel
theorem dX8_allRungs_5 : decode cX8_allRungs 5 = .ok (.aload_n 0, 1) := by decide +kernel
theorem dX8_allRungs_6 : decode cX8_allRungs 6 = .ok (.getfield 9, 3) := by decide +kernel
theorem dX8_allRungs_9 : decode cX8_allRungs 9 = .ok (.iconst 0, 1) := by decide +kernel
theorem dX8_allRungs_10 : decode cX8_allRungs 10 = .ok (.iaload, 1) := by decide +kernel
theorem dX8_allRungs_11 : decode cX8_allRungs 11 = .ok (.if_icmp .ge 17, 3) := by decide +kernel
theorem dX8_allRungs_14 : decode cX8_allRungs 14 = .ok (.iload_n 1, 1) := by decide +kernel
theorem dX8_allRungs_15 : decode cX8_allRungs 15 = .ok (.aload_n 0, 1) := by decide +kernel
theorem dX8_allRungs_16 : decode cX8_allRungs 16 = .ok (.iload_n 2, 1) := by decide +kernel
theorem dX8_allRungs_17 : decode cX8_allRungs 17 = .ok (.invokevirtual 75, 3) := by decide +kernel
theorem dX8_allRungs_20 : decode cX8_allRungs 20 = .ok (.iadd, 1) := by decide +kernel
theorem dX8_allRungs_21 : decode cX8_allRungs 21 = .ok (.istore_n 1, 1) := by decide +kernel
theorem dX8_allRungs_22 : decode cX8_allRungs 22 = .ok (.iinc 2 1, 3) := by decide +kernel
theorem dX8_allRungs_25 : decode cX8_allRungs 25 = .ok (.goto (-21), 3) := by decide +kernel
theorem dX8_allRungs_28 : decode cX8_allRungs 28 = .ok (.iload_n 1, 1) := by decide +kernel
theorem dX8_allRungs_29 : decode cX8_allRungs 29 = .ok (.ireturn, 1) := by decide +kernel
set_option maxRecDepth 20000 in
theorem ggX8_meanSteps_X8_key : GoodIn wsX8_meanSteps wsX8_key := goodIn_ca (goodIn_r _ [7, 2, 39, 40, 41, 42, 43, 44, 45, 46, 47, 48, 49, 50, 51, 52, 53, 54, 55, 56, 57, 58, 59, 60] (by decide +kernel) (by decide +kernel)) (goodIn_sub (fun _ h => List.mem_cons_of_mem _ (List.mem_append_right _ h)) (by decide +kernel))
set_option maxRecDepth 20000 in
theorem gX8_meanSteps_X8_key : GoodIn wsX8_meanSteps (wsV RX8 68 RX8 yX8_key wsX8_key) := goodIn_app (goodIn_of _ (by decide +kernel)) ggX8_meanSteps_X8_key
set_option maxRecDepth 20000 in
theorem ggX8_meanSteps_X8_searches : GoodIn wsX8_meanSteps wsX8_searches := goodIn_ca (goodIn_r _ [11, 12, 13, 2, 14, 15, 16, 17, 6, 18, 19, 20, 21, 22, 23, 24, 25, 26, 27, 28, 29, 30, 31, 32, 33, 34, 3, 4, 5, 7, 39, 40, 41, 42, 43, 44, 45, 46, 47, 48, 49, 50, 51, 52, 53, 54, 55, 56, 57, 58, 59, 60] (by decide +kernel) (by decide +kernel)) (goodIn_sub (fun _ h => List.mem_cons_of_mem _ (List.mem_append_right _ h)) (by decide +kernel))
set_option maxRecDepth 20000 in
theorem gX8_meanSteps_X8_searches : GoodIn wsX8_meanSteps (wsV RX8 149 RX8 yX8_searches wsX8_searches) := goodIn_app (goodIn_of _ (by decide +kernel)) ggX8_meanSteps_X8_searches
set_option maxRecDepth 20000 in
theorem ggX8_meanSteps_X8_raises : GoodIn wsX8_meanSteps wsX8_raises := goodIn_r _ [38, 1, 39, 40, 41, 42, 43, 44, 45, 46, 47, 48, 49, 50, 51, 52, 53, 54, 55, 56, 57, 58, 59, 60] (by decide +kernel) (by decide +kernel)
set_option maxRecDepth 20000 in
theorem gX8_meanSteps_X8_raises : GoodIn wsX8_meanSteps (wsV RX8 61 RX8 yX8_raises wsX8_raises) := goodIn_app (goodIn_of _ (by decide +kernel)) ggX8_meanSteps_X8_raises
theorem dX8_meanSteps_0 : decode cX8_meanSteps 0 = .ok (.aload_n 0, 1) := by decide +kernel
theorem dX8_meanSteps_1 : decode cX8_meanSteps 1 = .ok (.iconst 0, 1) := by decide +kernel
theorem dX8_meanSteps_2 : decode cX8_meanSteps 2 = .ok (.putfield 39, 3) := by decide +kernel
theorem dX8_meanSteps_5 : decode cX8_meanSteps 5 = .ok (.iconst 0, 1) := by decide +kernel
theorem dX8_meanSteps_6 : decode cX8_meanSteps 6 = .ok (.istore_n 1, 1) := by decide +kernel
theorem dX8_meanSteps_7 : decode cX8_meanSteps 7 = .ok (.iconst 0, 1) := by decide +kernel
theorem dX8_meanSteps_8 : decode cX8_meanSteps 8 = .ok (.istore_n 2, 1) := by decide +kernel
theorem dX8_meanSteps_9 : decode cX8_meanSteps 9 = .ok (.iload_n 2, 1) := by decide +kernel
theorem dX8_meanSteps_10 : decode cX8_meanSteps 10 = .ok (.aload_n 0, 1) := by decide +kernel
theorem dX8_meanSteps_11 : decode cX8_meanSteps 11 = .ok (.getfield 9, 3) := by decide +kernel
theorem dX8_meanSteps_14 : decode cX8_meanSteps 14 = .ok (.iconst 0, 1) := by decide +kernel
theorem dX8_meanSteps_15 : decode cX8_meanSteps 15 = .ok (.iaload, 1) := by decide +kernel
theorem dX8_meanSteps_16 : decode cX8_meanSteps 16 = .ok (.if_icmp .ge 21, 3) := by decide +kernel
theorem dX8_meanSteps_19 : decode cX8_meanSteps 19 = .ok (.iload_n 1, 1) := by decide +kernel
theorem dX8_meanSteps_20 : decode cX8_meanSteps 20 = .ok (.aload_n 0, 1) := by decide +kernel
theorem dX8_meanSteps_21 : decode cX8_meanSteps 21 = .ok (.aload_n 0, 1) := by decide +kernel
theorem dX8_meanSteps_22 : decode cX8_meanSteps 22 = .ok (.iload_n 2, 1) := by decide +kernel
theorem dX8_meanSteps_23 : decode cX8_meanSteps 23 = .ok (.invokevirtual 68, 3) := by decide +kernel
theorem dX8_meanSteps_26 : decode cX8_meanSteps 26 = .ok (.invokevirtual 149, 3) := by decide +kernel
theorem dX8_meanSteps_29 : decode cX8_meanSteps 29 = .ok (.iadd, 1) := by decide +kernel
theorem dX8_meanSteps_30 : decode cX8_meanSteps 30 = .ok (.istore_n 1, 1) := by decide +kernel
theorem dX8_meanSteps_31 : decode cX8_meanSteps 31 = .ok (.iinc 2 1, 3) := by decide +kernel
theorem dX8_meanSteps_34 : decode cX8_meanSteps 34 = .ok (.goto (-25), 3) := by decide +kernel
theorem dX8_meanSteps_37 : decode cX8_meanSteps 37 = .ok (.aload_n 0, 1) := by decide +kernel
theorem dX8_meanSteps_38 : decode cX8_meanSteps 38 = .ok (.getfield 9, 3) := by decide +kernel
theorem dX8_meanSteps_41 : decode cX8_meanSteps 41 = .ok (.iconst 0, 1) := by decide +kernel
theorem dX8_meanSteps_42 : decode cX8_meanSteps 42 = .ok (.iaload, 1) := by decide +kernel
theorem dX8_meanSteps_43 : decode cX8_meanSteps 43 = .ok (.ifCond .ne 12, 3) := by decide +kernel
theorem dX8_meanSteps_46 : decode cX8_meanSteps 46 = .ok (.aload_n 0, 1) := by decide +kernel
theorem dX8_meanSteps_47 : decode cX8_meanSteps 47 = .ok (.iconst 1, 1) := by decide +kernel
theorem dX8_meanSteps_48 : decode cX8_meanSteps 48 = .ok (.invokevirtual 61, 3) := by decide +kernel
theorem dX8_meanSteps_51 : decode cX8_meanSteps 51 = .ok (.i2d, 1) := by decide +kernel
theorem dX8_meanSteps_52 : decode cX8_meanSteps 52 = .ok (.goto 13, 3) := by decide +kernel
theorem dX8_meanSteps_55 : decode cX8_meanSteps 55 = .ok (.iload_n 1, 1) := by decide +kernel
theorem dX8_meanSteps_56 : decode cX8_meanSteps 56 = .ok (.i2d, 1) := by decide +kernel
theorem dX8_meanSteps_57 : decode cX8_meanSteps 57 = .ok (.aload_n 0, 1) := by decide +kernel
theorem dX8_meanSteps_58 : decode cX8_meanSteps 58 = .ok (.getfield 9, 3) := by decide +kernel
theorem dX8_meanSteps_61 : decode cX8_meanSteps 61 = .ok (.iconst 0, 1) := by decide +kernel
theorem dX8_meanSteps_62 : decode cX8_meanSteps 62 = .ok (.iaload, 1) := by decide +kernel
theorem dX8_meanSteps_63 : decode cX8_meanSteps 63 = .ok (.i2d, 1) := by decide +kernel
theorem dX8_meanSteps_64 : decode cX8_meanSteps 64 = .ok (.ddiv, 1) := by decide +kernel
theorem dX8_meanSteps_65 : decode cX8_meanSteps 65 = .ok (.dreturn, 1) := by decide +kernel
set_option maxRecDepth 20000 in
theorem ggX8_meanRungs_X8_raises : GoodIn wsX8_meanRungs wsX8_raises := goodIn_r _ [7, 1, 16, 17, 18, 19, 20, 21, 22, 23, 24, 25, 26, 27, 28, 29, 30, 31, 32, 33, 34, 35, 36, 37] (by decide +kernel) (by decide +kernel)
set_option maxRecDepth 20000 in
theorem gX8_meanRungs_X8_raises : GoodIn wsX8_meanRungs (wsV RX8 61 RX8 yX8_raises wsX8_raises) := goodIn_app (goodIn_of _ (by decide +kernel)) ggX8_meanRungs_X8_raises
set_option maxRecDepth 20000 in
theorem ggX8_meanRungs_X8_allRungs : GoodIn wsX8_meanRungs wsX8_allRungs := goodIn_ca (goodIn_r _ [11, 2, 12, 13, 14, 6, 15, 16, 17, 18, 19, 20, 21, 22, 23, 24, 25, 26, 27, 28, 29, 30, 31, 32, 33, 34, 35, 36, 37] (by decide +kernel) (by decide +kernel)) (goodIn_sub (fun _ h => List.mem_cons_of_mem _ (List.mem_append_right _ h)) (by decide +kernel))
set_option maxRecDepth 20000 in
theorem gX8_meanRungs_X8_allRungs : GoodIn wsX8_meanRungs (wsV RX8 200 RX8 yX8_allRungs wsX8_allRungs) := goodIn_app (goodIn_of _ (by decide +kernel)) ggX8_meanRungs_X8_allRungs
theorem dX8_meanRungs_0 : decode cX8_meanRungs 0 = .ok (.aload_n 0, 1) := by decide +kernel
theorem dX8_meanRungs_1 : decode cX8_meanRungs 1 = .ok (.iconst 0, 1) := by decide +kernel
theorem dX8_meanRungs_2 : decode cX8_meanRungs 2 = .ok (.putfield 39, 3) := by decide +kernel
theorem dX8_meanRungs_5 : decode cX8_meanRungs 5 = .ok (.aload_n 0, 1) := by decide +kernel
theorem dX8_meanRungs_6 : decode cX8_meanRungs 6 = .ok (.getfield 9, 3) := by decide +kernel
theorem dX8_meanRungs_9 : decode cX8_meanRungs 9 = .ok (.iconst 0, 1) := by decide +kernel
theorem dX8_meanRungs_10 : decode cX8_meanRungs 10 = .ok (.iaload, 1) := by decide +kernel
theorem dX8_meanRungs_11 : decode cX8_meanRungs 11 = .ok (.ifCond .ne 12, 3) := by decide +kernel
theorem dX8_meanRungs_14 : decode cX8_meanRungs 14 = .ok (.aload_n 0, 1) := by decide +kernel
theorem dX8_meanRungs_15 : decode cX8_meanRungs 15 = .ok (.iconst 1, 1) := by decide +kernel
theorem dX8_meanRungs_16 : decode cX8_meanRungs 16 = .ok (.invokevirtual 61, 3) := by decide +kernel
theorem dX8_meanRungs_19 : decode cX8_meanRungs 19 = .ok (.i2f, 1) := by decide +kernel
theorem dX8_meanRungs_20 : decode cX8_meanRungs 20 = .ok (.goto 16, 3) := by decide +kernel
theorem dX8_meanRungs_23 : decode cX8_meanRungs 23 = .ok (.aload_n 0, 1) := by decide +kernel
theorem dX8_meanRungs_24 : decode cX8_meanRungs 24 = .ok (.invokevirtual 200, 3) := by decide +kernel
theorem dX8_meanRungs_27 : decode cX8_meanRungs 27 = .ok (.i2f, 1) := by decide +kernel
theorem dX8_meanRungs_28 : decode cX8_meanRungs 28 = .ok (.aload_n 0, 1) := by decide +kernel
theorem dX8_meanRungs_29 : decode cX8_meanRungs 29 = .ok (.getfield 9, 3) := by decide +kernel
theorem dX8_meanRungs_32 : decode cX8_meanRungs 32 = .ok (.iconst 0, 1) := by decide +kernel
theorem dX8_meanRungs_33 : decode cX8_meanRungs 33 = .ok (.iaload, 1) := by decide +kernel
theorem dX8_meanRungs_34 : decode cX8_meanRungs 34 = .ok (.i2f, 1) := by decide +kernel
theorem dX8_meanRungs_35 : decode cX8_meanRungs 35 = .ok (.fdiv, 1) := by decide +kernel
theorem dX8_meanRungs_36 : decode cX8_meanRungs 36 = .ok (.freturn, 1) := by decide +kernel
set_option maxRecDepth 20000 in
theorem ggX8_account_X8_allRungs : GoodIn wsX8_account wsX8_allRungs := goodIn_ca (goodIn_r _ [13, 2, 14, 15, 16, 12, 17, 33, 34, 35, 36, 37, 38, 39, 40, 41, 42, 43, 44, 45, 46, 47, 48, 49, 50, 51, 52, 53, 54] (by decide +kernel) (by decide +kernel)) (goodIn_sub (fun _ h => List.mem_cons_of_mem _ (List.mem_append_right _ h)) (by decide +kernel))
set_option maxRecDepth 20000 in
theorem gX8_account_X8_allRungs : GoodIn wsX8_account (wsV RX8 200 RX8 yX8_allRungs wsX8_allRungs) := goodIn_app (goodIn_of _ (by decide +kernel)) ggX8_account_X8_allRungs
set_option maxRecDepth 20000 in
theorem ggX8_account_X8_weight : GoodIn wsX8_account wsX8_weight := goodIn_ca (goodIn_r _ [21, 2, 33, 34, 35, 36, 37, 38, 39, 40, 41, 42, 43, 44, 45, 46, 47, 48, 49, 50, 51, 52, 53, 54] (by decide +kernel) (by decide +kernel)) (goodIn_sub (fun _ h => List.mem_cons_of_mem _ (List.mem_append_right _ h)) (by decide +kernel))
set_option maxRecDepth 20000 in
theorem gX8_account_X8_weight : GoodIn wsX8_account (wsV RX8 129 RX8 yX8_weight wsX8_weight) := goodIn_app (goodIn_of _ (by decide +kernel)) ggX8_account_X8_weight
set_option maxRecDepth 20000 in
theorem ggX8_account_J6_bitCount_0f7a4 : GoodIn wsX8_account wsJ6_bitCount_0f7a4 := goodIn_r _ [25, 26, 27, 28] (by decide +kernel) (by decide +kernel)
set_option maxRecDepth 20000 in
theorem gX8_account_J6_bitCount_0f7a4 : GoodIn wsX8_account (va_wsS RX8 203 yJ6_bitCount_0f7a4 wsJ6_bitCount_0f7a4) := goodIn_app (goodIn_of _ (by decide +kernel)) ggX8_account_J6_bitCount_0f7a4
set_option maxRecDepth 20000 in
theorem ggX8_account_X8_rungs : GoodIn wsX8_account wsX8_rungs := goodIn_ca (goodIn_r _ [17, 2, 33, 34, 35, 36, 37, 38, 39, 40, 41, 42, 43, 44, 45, 46, 47, 48, 49, 50, 51, 52, 53, 54] (by decide +kernel) (by decide +kernel)) (goodIn_sub (fun _ h => List.mem_cons_of_mem _ (List.mem_append_right _ h)) (by decide +kernel))
set_option maxRecDepth 20000 in
theorem gX8_account_X8_rungs : GoodIn wsX8_account (wsV RX8 75 RX8 yX8_rungs wsX8_rungs) := goodIn_app (goodIn_of _ (by decide +kernel)) ggX8_account_X8_rungs
set_option maxRecDepth 20000 in
theorem ggX8_account_X8_raises : GoodIn wsX8_account wsX8_raises := goodIn_r _ [32, 1, 33, 34, 35, 36, 37, 38, 39, 40, 41, 42, 43, 44, 45, 46, 47, 48, 49, 50, 51, 52, 53, 54] (by decide +kernel) (by decide +kernel)
set_option maxRecDepth 20000 in
theorem gX8_account_X8_raises : GoodIn wsX8_account (wsV RX8 61 RX8 yX8_raises wsX8_raises) := goodIn_app (goodIn_of _ (by decide +kernel)) ggX8_account_X8_raises
theorem dX8_account_0 : decode cX8_account 0 = .ok (.aload_n 0, 1) := by decide +kernel
theorem dX8_account_1 : decode cX8_account 1 = .ok (.iconst 0, 1) := by decide +kernel
theorem dX8_account_2 : decode cX8_account 2 = .ok (.putfield 39, 3) := by decide +kernel
theorem dX8_account_5 : decode cX8_account 5 = .ok (.iconst 0, 1) := by decide +kernel
theorem dX8_account_6 : decode cX8_account 6 = .ok (.istore_n 2, 1) := by decide +kernel
theorem dX8_account_7 : decode cX8_account 7 = .ok (.iload_n 1, 1) := by decide +kernel
theorem dX8_account_8 : decode cX8_account 8 = .ok (.tableswitch 169 0 9 #[56, 63, 68, 96, 103, 110, 117, 127, 159, 164], 56) := by decide +kernel
theorem dX8_account_64 : decode cX8_account 64 = .ok (.aload_n 0, 1) := by decide +kernel
theorem dX8_account_65 : decode cX8_account 65 = .ok (.getfield 9, 3) := by decide +kernel
theorem dX8_account_68 : decode cX8_account 68 = .ok (.iconst 0, 1) := by decide +kernel
theorem dX8_account_69 : decode cX8_account 69 = .ok (.iaload, 1) := by decide +kernel
theorem dX8_account_70 : decode cX8_account 70 = .ok (.ireturn, 1) := by decide +kernel
theorem dX8_account_71 : decode cX8_account 71 = .ok (.aload_n 0, 1) := by decide +kernel
theorem dX8_account_72 : decode cX8_account 72 = .ok (.invokevirtual 200, 3) := by decide +kernel
theorem dX8_account_75 : decode cX8_account 75 = .ok (.ireturn, 1) := by decide +kernel
theorem dX8_account_76 : decode cX8_account 76 = .ok (.iconst 0, 1) := by decide +kernel
theorem dX8_account_77 : decode cX8_account 77 = .ok (.istore_n 3, 1) := by decide +kernel
theorem dX8_account_78 : decode cX8_account 78 = .ok (.iload_n 3, 1) := by decide +kernel
theorem dX8_account_79 : decode cX8_account 79 = .ok (.aload_n 0, 1) := by decide +kernel
theorem dX8_account_80 : decode cX8_account 80 = .ok (.getfield 9, 3) := by decide +kernel
theorem dX8_account_83 : decode cX8_account 83 = .ok (.iconst 0, 1) := by decide +kernel
theorem dX8_account_84 : decode cX8_account 84 = .ok (.iaload, 1) := by decide +kernel
theorem dX8_account_85 : decode cX8_account 85 = .ok (.if_icmp .ge 17, 3) := by decide +kernel
theorem dX8_account_88 : decode cX8_account 88 = .ok (.iload_n 2, 1) := by decide +kernel
theorem dX8_account_89 : decode cX8_account 89 = .ok (.aload_n 0, 1) := by decide +kernel
theorem dX8_account_90 : decode cX8_account 90 = .ok (.iload_n 3, 1) := by decide +kernel
theorem dX8_account_91 : decode cX8_account 91 = .ok (.invokevirtual 129, 3) := by decide +kernel
theorem dX8_account_94 : decode cX8_account 94 = .ok (.iadd, 1) := by decide +kernel
theorem dX8_account_95 : decode cX8_account 95 = .ok (.istore_n 2, 1) := by decide +kernel
theorem dX8_account_96 : decode cX8_account 96 = .ok (.iinc 3 1, 3) := by decide +kernel
theorem dX8_account_99 : decode cX8_account 99 = .ok (.goto (-21), 3) := by decide +kernel
theorem dX8_account_102 : decode cX8_account 102 = .ok (.iload_n 2, 1) := by decide +kernel
theorem dX8_account_103 : decode cX8_account 103 = .ok (.ireturn, 1) := by decide +kernel
theorem dX8_account_104 : decode cX8_account 104 = .ok (.aload_n 0, 1) := by decide +kernel
theorem dX8_account_105 : decode cX8_account 105 = .ok (.getfield 9, 3) := by decide +kernel
theorem dX8_account_108 : decode cX8_account 108 = .ok (.iconst 1, 1) := by decide +kernel
theorem dX8_account_109 : decode cX8_account 109 = .ok (.iaload, 1) := by decide +kernel
theorem dX8_account_110 : decode cX8_account 110 = .ok (.ireturn, 1) := by decide +kernel
theorem dX8_account_111 : decode cX8_account 111 = .ok (.aload_n 0, 1) := by decide +kernel
theorem dX8_account_112 : decode cX8_account 112 = .ok (.getfield 9, 3) := by decide +kernel
theorem dX8_account_115 : decode cX8_account 115 = .ok (.iconst 2, 1) := by decide +kernel
theorem dX8_account_116 : decode cX8_account 116 = .ok (.iaload, 1) := by decide +kernel
theorem dX8_account_117 : decode cX8_account 117 = .ok (.ireturn, 1) := by decide +kernel
theorem dX8_account_118 : decode cX8_account 118 = .ok (.aload_n 0, 1) := by decide +kernel
theorem dX8_account_119 : decode cX8_account 119 = .ok (.getfield 9, 3) := by decide +kernel
theorem dX8_account_122 : decode cX8_account 122 = .ok (.iconst 3, 1) := by decide +kernel
theorem dX8_account_123 : decode cX8_account 123 = .ok (.iaload, 1) := by decide +kernel
theorem dX8_account_124 : decode cX8_account 124 = .ok (.ireturn, 1) := by decide +kernel
theorem dX8_account_125 : decode cX8_account 125 = .ok (.aload_n 0, 1) := by decide +kernel
theorem dX8_account_126 : decode cX8_account 126 = .ok (.getfield 9, 3) := by decide +kernel
theorem dX8_account_129 : decode cX8_account 129 = .ok (.iconst 4, 1) := by decide +kernel
theorem dX8_account_130 : decode cX8_account 130 = .ok (.iaload, 1) := by decide +kernel
theorem dX8_account_131 : decode cX8_account 131 = .ok (.invokestatic 203, 3) := by decide +kernel
theorem dX8_account_134 : decode cX8_account 134 = .ok (.ireturn, 1) := by decide +kernel
theorem dX8_account_135 : decode cX8_account 135 = .ok (.iconst 0, 1) := by decide +kernel
theorem dX8_account_136 : decode cX8_account 136 = .ok (.istore_n 3, 1) := by decide +kernel
theorem dX8_account_137 : decode cX8_account 137 = .ok (.iload_n 3, 1) := by decide +kernel
theorem dX8_account_138 : decode cX8_account 138 = .ok (.aload_n 0, 1) := by decide +kernel
theorem dX8_account_139 : decode cX8_account 139 = .ok (.getfield 9, 3) := by decide +kernel
theorem dX8_account_142 : decode cX8_account 142 = .ok (.iconst 0, 1) := by decide +kernel
theorem dX8_account_143 : decode cX8_account 143 = .ok (.iaload, 1) := by decide +kernel
theorem dX8_account_144 : decode cX8_account 144 = .ok (.if_icmp .ge 19, 3) := by decide +kernel
theorem dX8_account_147 : decode cX8_account 147 = .ok (.iload_n 2, 1) := by decide +kernel
theorem dX8_account_148 : decode cX8_account 148 = .ok (.aload_n 0, 1) := by decide +kernel
theorem dX8_account_149 : decode cX8_account 149 = .ok (.iload_n 3, 1) := by decide +kernel
theorem dX8_account_150 : decode cX8_account 150 = .ok (.invokevirtual 75, 3) := by decide +kernel
theorem dX8_account_153 : decode cX8_account 153 = .ok (.invokestatic 208, 3) := by decide +kernel
theorem dX8_account_156 : decode cX8_account 156 = .ok (.istore_n 2, 1) := by decide +kernel
theorem dX8_account_157 : decode cX8_account 157 = .ok (.iinc 3 1, 3) := by decide +kernel
theorem dX8_account_160 : decode cX8_account 160 = .ok (.goto (-23), 3) := by decide +kernel
theorem dX8_account_163 : decode cX8_account 163 = .ok (.iload_n 2, 1) := by decide +kernel
theorem dX8_account_164 : decode cX8_account 164 = .ok (.iconst 1, 1) := by decide +kernel
theorem dX8_account_165 : decode cX8_account 165 = .ok (.isub, 1) := by decide +kernel
theorem dX8_account_166 : decode cX8_account 166 = .ok (.ireturn, 1) := by decide +kernel
theorem dX8_account_167 : decode cX8_account 167 = .ok (.aload_n 0, 1) := by decide +kernel
theorem dX8_account_168 : decode cX8_account 168 = .ok (.getfield 42, 3) := by decide +kernel
theorem dX8_account_171 : decode cX8_account 171 = .ok (.ireturn, 1) := by decide +kernel
theorem dX8_account_172 : decode cX8_account 172 = .ok (.aload_n 0, 1) := by decide +kernel
theorem dX8_account_173 : decode cX8_account 173 = .ok (.getfield 167, 3) := by decide +kernel
theorem dX8_account_176 : decode cX8_account 176 = .ok (.ireturn, 1) := by decide +kernel
theorem dX8_account_177 : decode cX8_account 177 = .ok (.aload_n 0, 1) := by decide +kernel
theorem dX8_account_178 : decode cX8_account 178 = .ok (.iconst 1, 1) := by decide +kernel
theorem dX8_account_179 : decode cX8_account 179 = .ok (.invokevirtual 61, 3) := by decide +kernel
theorem dX8_account_182 : decode cX8_account 182 = .ok (.ireturn, 1) := by decide +kernel
set_option maxRecDepth 20000 in
theorem ggX8_undo_X8_raises : GoodIn wsX8_undo wsX8_raises := goodIn_r _ [9, 1, 10, 11, 12, 13, 14, 15, 16, 17, 18, 19, 20, 21, 22, 23, 24, 25, 26, 27, 28, 29, 30, 31] (by decide +kernel) (by decide +kernel)
set_option maxRecDepth 20000 in
theorem gX8_undo_X8_raises : GoodIn wsX8_undo (wsV RX8 61 RX8 yX8_raises wsX8_raises) := goodIn_app (goodIn_of _ (by decide +kernel)) ggX8_undo_X8_raises
theorem dX8_undo_0 : decode cX8_undo 0 = .ok (.aload_n 0, 1) := by decide +kernel
theorem dX8_undo_1 : decode cX8_undo 1 = .ok (.iconst 0, 1) := by decide +kernel
theorem dX8_undo_2 : decode cX8_undo 2 = .ok (.putfield 39, 3) := by decide +kernel
theorem dX8_undo_5 : decode cX8_undo 5 = .ok (.aload_n 0, 1) := by decide +kernel
theorem dX8_undo_6 : decode cX8_undo 6 = .ok (.getfield 42, 3) := by decide +kernel
theorem dX8_undo_9 : decode cX8_undo 9 = .ok (.ifCond .ne 9, 3) := by decide +kernel
theorem dX8_undo_12 : decode cX8_undo 12 = .ok (.aload_n 0, 1) := by decide +kernel
theorem dX8_undo_13 : decode cX8_undo 13 = .ok (.iconst 1, 1) := by decide +kernel
theorem dX8_undo_14 : decode cX8_undo 14 = .ok (.invokevirtual 61, 3) := by decide +kernel
theorem dX8_undo_17 : decode cX8_undo 17 = .ok (.ireturn, 1) := by decide +kernel
theorem dX8_undo_18 : decode cX8_undo 18 = .ok (.aload_n 0, 1) := by decide +kernel
theorem dX8_undo_19 : decode cX8_undo 19 = .ok (.dup, 1) := by decide +kernel
theorem dX8_undo_20 : decode cX8_undo 20 = .ok (.getfield 42, 3) := by decide +kernel
theorem dX8_undo_23 : decode cX8_undo 23 = .ok (.iconst 1, 1) := by decide +kernel
theorem dX8_undo_24 : decode cX8_undo 24 = .ok (.isub, 1) := by decide +kernel
theorem dX8_undo_25 : decode cX8_undo 25 = .ok (.putfield 42, 3) := by decide +kernel
theorem dX8_undo_28 : decode cX8_undo 28 = .ok (.iconst 0, 1) := by decide +kernel
theorem dX8_undo_29 : decode cX8_undo 29 = .ok (.istore_n 1, 1) := by decide +kernel
theorem dX8_undo_30 : decode cX8_undo 30 = .ok (.iload_n 1, 1) := by decide +kernel
theorem dX8_undo_31 : decode cX8_undo 31 = .ok (.bipush 77, 2) := by decide +kernel
theorem dX8_undo_33 : decode cX8_undo 33 = .ok (.if_icmp .ge 29, 3) := by decide +kernel
theorem dX8_undo_36 : decode cX8_undo 36 = .ok (.aload_n 0, 1) := by decide +kernel
theorem dX8_undo_37 : decode cX8_undo 37 = .ok (.getfield 9, 3) := by decide +kernel
theorem dX8_undo_40 : decode cX8_undo 40 = .ok (.iload_n 1, 1) := by decide +kernel
theorem dX8_undo_41 : decode cX8_undo 41 = .ok (.aload_n 0, 1) := by decide +kernel
theorem dX8_undo_42 : decode cX8_undo 42 = .ok (.getfield 16, 3) := by decide +kernel
theorem dX8_undo_45 : decode cX8_undo 45 = .ok (.bipush 77, 2) := by decide +kernel
theorem dX8_undo_47 : decode cX8_undo 47 = .ok (.aload_n 0, 1) := by decide +kernel
theorem dX8_undo_48 : decode cX8_undo 48 = .ok (.getfield 42, 3) := by decide +kernel
theorem dX8_undo_51 : decode cX8_undo 51 = .ok (.imul, 1) := by decide +kernel
theorem dX8_undo_52 : decode cX8_undo 52 = .ok (.iload_n 1, 1) := by decide +kernel
theorem dX8_undo_53 : decode cX8_undo 53 = .ok (.iadd, 1) := by decide +kernel
theorem dX8_undo_54 : decode cX8_undo 54 = .ok (.iaload, 1) := by decide +kernel
theorem dX8_undo_55 : decode cX8_undo 55 = .ok (.iastore, 1) := by decide +kernel
theorem dX8_undo_56 : decode cX8_undo 56 = .ok (.iinc 1 1, 3) := by decide +kernel
theorem dX8_undo_59 : decode cX8_undo 59 = .ok (.goto (-29), 3) := by decide +kernel
theorem dX8_undo_62 : decode cX8_undo 62 = .ok (.aload_n 0, 1) := by decide +kernel
theorem dX8_undo_63 : decode cX8_undo 63 = .ok (.getfield 42, 3) := by decide +kernel
theorem dX8_undo_66 : decode cX8_undo 66 = .ok (.ireturn, 1) := by decide +kernel
theorem dX8_save_0 : decode cX8_save 0 = .ok (.aload_n 0, 1) := by decide +kernel
theorem dX8_save_1 : decode cX8_save 1 = .ok (.iconst 0, 1) := by decide +kernel
theorem dX8_save_2 : decode cX8_save 2 = .ok (.putfield 39, 3) := by decide +kernel
theorem dX8_save_5 : decode cX8_save 5 = .ok (.aload_n 0, 1) := by decide +kernel
theorem dX8_save_6 : decode cX8_save 6 = .ok (.iconst 1, 1) := by decide +kernel
theorem dX8_save_7 : decode cX8_save 7 = .ok (.putfield 213, 3) := by decide +kernel
theorem dX8_save_10 : decode cX8_save 10 = .ok (.iconst 0, 1) := by decide +kernel
theorem dX8_save_11 : decode cX8_save 11 = .ok (.istore_n 1, 1) := by decide +kernel
theorem dX8_save_12 : decode cX8_save 12 = .ok (.iload_n 1, 1) := by decide +kernel
theorem dX8_save_13 : decode cX8_save 13 = .ok (.bipush 77, 2) := by decide +kernel
theorem dX8_save_15 : decode cX8_save 15 = .ok (.if_icmp .ge 21, 3) := by decide +kernel
theorem dX8_save_18 : decode cX8_save 18 = .ok (.aload_n 0, 1) := by decide +kernel
theorem dX8_save_19 : decode cX8_save 19 = .ok (.getfield 19, 3) := by decide +kernel
theorem dX8_save_22 : decode cX8_save 22 = .ok (.iload_n 1, 1) := by decide +kernel
theorem dX8_save_23 : decode cX8_save 23 = .ok (.aload_n 0, 1) := by decide +kernel
theorem dX8_save_24 : decode cX8_save 24 = .ok (.getfield 9, 3) := by decide +kernel
theorem dX8_save_27 : decode cX8_save 27 = .ok (.iload_n 1, 1) := by decide +kernel
theorem dX8_save_28 : decode cX8_save 28 = .ok (.iaload, 1) := by decide +kernel
theorem dX8_save_29 : decode cX8_save 29 = .ok (.iastore, 1) := by decide +kernel
theorem dX8_save_30 : decode cX8_save 30 = .ok (.iinc 1 1, 3) := by decide +kernel
theorem dX8_save_33 : decode cX8_save 33 = .ok (.goto (-21), 3) := by decide +kernel
theorem dX8_save_36 : decode cX8_save 36 = .ok (.aload_n 0, 1) := by decide +kernel
theorem dX8_save_37 : decode cX8_save 37 = .ok (.getfield 9, 3) := by decide +kernel
theorem dX8_save_40 : decode cX8_save 40 = .ok (.iconst 0, 1) := by decide +kernel
theorem dX8_save_41 : decode cX8_save 41 = .ok (.iaload, 1) := by decide +kernel
theorem dX8_save_42 : decode cX8_save 42 = .ok (.ireturn, 1) := by decide +kernel
set_option maxRecDepth 20000 in
theorem ggX8_restore_X8_raises : GoodIn wsX8_restore wsX8_raises := goodIn_r _ [10, 1, 11, 12, 13, 14, 15, 16, 17, 18, 19, 20, 21, 22, 23, 24, 25, 26, 27, 28, 29, 30, 31, 32] (by decide +kernel) (by decide +kernel)
set_option maxRecDepth 20000 in
theorem gX8_restore_X8_raises : GoodIn wsX8_restore (wsV RX8 61 RX8 yX8_raises wsX8_raises) := goodIn_app (goodIn_of _ (by decide +kernel)) ggX8_restore_X8_raises
theorem dX8_restore_0 : decode cX8_restore 0 = .ok (.aload_n 0, 1) := by decide +kernel
theorem dX8_restore_1 : decode cX8_restore 1 = .ok (.iconst 0, 1) := by decide +kernel
theorem dX8_restore_2 : decode cX8_restore 2 = .ok (.putfield 39, 3) := by decide +kernel
theorem dX8_restore_5 : decode cX8_restore 5 = .ok (.aload_n 0, 1) := by decide +kernel
theorem dX8_restore_6 : decode cX8_restore 6 = .ok (.getfield 213, 3) := by decide +kernel
theorem dX8_restore_9 : decode cX8_restore 9 = .ok (.ifCond .ne 9, 3) := by decide +kernel
theorem dX8_restore_12 : decode cX8_restore 12 = .ok (.aload_n 0, 1) := by decide +kernel
theorem dX8_restore_13 : decode cX8_restore 13 = .ok (.iconst 1, 1) := by decide +kernel
theorem dX8_restore_14 : decode cX8_restore 14 = .ok (.invokevirtual 61, 3) := by decide +kernel
theorem dX8_restore_17 : decode cX8_restore 17 = .ok (.ireturn, 1) := by decide +kernel
theorem dX8_restore_18 : decode cX8_restore 18 = .ok (.iconst 0, 1) := by decide +kernel
theorem dX8_restore_19 : decode cX8_restore 19 = .ok (.istore_n 1, 1) := by decide +kernel
theorem dX8_restore_20 : decode cX8_restore 20 = .ok (.iload_n 1, 1) := by decide +kernel
theorem dX8_restore_21 : decode cX8_restore 21 = .ok (.bipush 77, 2) := by decide +kernel
theorem dX8_restore_23 : decode cX8_restore 23 = .ok (.if_icmp .ge 21, 3) := by decide +kernel
theorem dX8_restore_26 : decode cX8_restore 26 = .ok (.aload_n 0, 1) := by decide +kernel
theorem dX8_restore_27 : decode cX8_restore 27 = .ok (.getfield 9, 3) := by decide +kernel
theorem dX8_restore_30 : decode cX8_restore 30 = .ok (.iload_n 1, 1) := by decide +kernel
theorem dX8_restore_31 : decode cX8_restore 31 = .ok (.aload_n 0, 1) := by decide +kernel
theorem dX8_restore_32 : decode cX8_restore 32 = .ok (.getfield 19, 3) := by decide +kernel
theorem dX8_restore_35 : decode cX8_restore 35 = .ok (.iload_n 1, 1) := by decide +kernel
theorem dX8_restore_36 : decode cX8_restore 36 = .ok (.iaload, 1) := by decide +kernel
theorem dX8_restore_37 : decode cX8_restore 37 = .ok (.iastore, 1) := by decide +kernel
theorem dX8_restore_38 : decode cX8_restore 38 = .ok (.iinc 1 1, 3) := by decide +kernel
theorem dX8_restore_41 : decode cX8_restore 41 = .ok (.goto (-21), 3) := by decide +kernel
theorem dX8_restore_44 : decode cX8_restore 44 = .ok (.aload_n 0, 1) := by decide +kernel
theorem dX8_restore_45 : decode cX8_restore 45 = .ok (.iconst 0, 1) := by decide +kernel
theorem dX8_restore_46 : decode cX8_restore 46 = .ok (.putfield 42, 3) := by decide +kernel
theorem dX8_restore_49 : decode cX8_restore 49 = .ok (.aload_n 0, 1) := by decide +kernel
theorem dX8_restore_50 : decode cX8_restore 50 = .ok (.getfield 9, 3) := by decide +kernel
theorem dX8_restore_53 : decode cX8_restore 53 = .ok (.iconst 0, 1) := by decide +kernel
theorem dX8_restore_54 : decode cX8_restore 54 = .ok (.iaload, 1) := by decide +kernel
theorem dX8_restore_55 : decode cX8_restore 55 = .ok (.ireturn, 1) := by decide +kernel
