set_option maxRecDepth 20000 in
theorem ggX7_init_X3_init : GoodIn wsX7_init wsX3_init := goodIn_r _ [38, 39, 2, 3, 40, 41, 42, 43, 44, 45, 46, 47, 48, 49, 50, 51, 52, 53, 54, 55, 56, 122, 123, 124, 125, 126, 127, 165, 166, 167] (by decide +kernel) (by decide +kernel)
set_option maxRecDepth 20000 in
theorem gX7_init_X3_init : GoodIn wsX7_init (wsX3_init) := ggX7_init_X3_init
set_option maxRecDepth 20000 in
theorem ggX7_init_X6_init : GoodIn wsX7_init wsX6_init := goodIn_r _ [59, 60, 2, 3, 61, 62, 63, 64, 65, 66, 139, 140, 141, 142, 143, 144] (by decide +kernel) (by decide +kernel)
set_option maxRecDepth 20000 in
theorem gX7_init_X6_init : GoodIn wsX7_init (wsX6_init) := ggX7_init_X6_init
set_option maxRecDepth 20000 in
theorem ggX7_init_X0_init : GoodIn wsX7_init wsX0_init := goodIn_r _ [69, 70, 2, 3, 71, 72, 73, 74, 75, 145, 146, 147, 148, 149] (by decide +kernel) (by decide +kernel)
set_option maxRecDepth 20000 in
theorem gX7_init_X0_init : GoodIn wsX7_init (wsX0_init) := ggX7_init_X0_init
set_option maxRecDepth 20000 in
theorem ggX7_init_X4_init : GoodIn wsX7_init wsX4_init := goodIn_r _ [78, 79, 2, 3, 80, 81, 82, 83, 150, 151, 152, 153] (by decide +kernel) (by decide +kernel)
set_option maxRecDepth 20000 in
theorem gX7_init_X4_init : GoodIn wsX7_init (wsX4_init) := ggX7_init_X4_init
set_option maxRecDepth 20000 in
theorem ggX7_init_X5_init : GoodIn wsX7_init wsX5_init := goodIn_r _ [86, 87, 2, 3, 88, 89, 90, 91, 92, 154, 155, 156, 157] (by decide +kernel) (by decide +kernel)
set_option maxRecDepth 20000 in
theorem gX7_init_X5_init : GoodIn wsX7_init (wsX5_init) := ggX7_init_X5_init
set_option maxRecDepth 20000 in
theorem ggX7_init_X2_init : GoodIn wsX7_init wsX2_init := goodIn_r _ [95, 96, 2, 3, 97, 98, 99, 100, 5, 6, 101, 37, 38, 39, 40, 41, 42, 43, 44, 45, 46, 47, 48, 49, 50, 51, 52, 53, 54, 55, 56, 158, 159, 160, 122, 123, 124, 125, 126, 127, 165, 166, 167] (by decide +kernel) (by decide +kernel)
set_option maxRecDepth 20000 in
theorem gX7_init_X2_init : GoodIn wsX7_init (wsX2_init) := ggX7_init_X2_init
set_option maxRecDepth 20000 in
theorem ggX7_init_J4_init_da8c8 : GoodIn wsX7_init wsJ4_init_da8c8 := goodIn_r _ [104, 105, 106, 107, 108, 109, 2, 3, 110, 111, 112, 113, 114, 115, 116, 117, 118, 119, 120, 121, 161, 162, 163, 164] (by decide +kernel) (by decide +kernel)
set_option maxRecDepth 20000 in
theorem gX7_init_J4_init_da8c8 : GoodIn wsX7_init (wsJ4_init_da8c8) := ggX7_init_J4_init_da8c8
theorem dX7_init_0 : decode cX7_init 0 = .ok (.aload_n 0, 1) := by decide +kernel
theorem dX7_init_1 : decode cX7_init 1 = .ok (.invokespecial 1, 3) := by decide +kernel
theorem dX7_init_4 : decode cX7_init 4 = .ok (.aload_n 0, 1) := by decide +kernel
theorem dX7_init_5 : decode cX7_init 5 = .ok (.new 7, 3) := by decide +kernel
theorem dX7_init_8 : decode cX7_init 8 = .ok (.dup, 1) := by decide +kernel
theorem dX7_init_9 : decode cX7_init 9 = .ok (.invokespecial 9, 3) := by decide +kernel
theorem dX7_init_12 : decode cX7_init 12 = .ok (.putfield 10, 3) := by decide +kernel
theorem dX7_init_15 : decode cX7_init 15 = .ok (.aload_n 0, 1) := by decide +kernel
theorem dX7_init_16 : decode cX7_init 16 = .ok (.new 16, 3) := by decide +kernel
theorem dX7_init_19 : decode cX7_init 19 = .ok (.dup, 1) := by decide +kernel
theorem dX7_init_20 : decode cX7_init 20 = .ok (.aload_n 0, 1) := by decide +kernel
theorem dX7_init_21 : decode cX7_init 21 = .ok (.getfield 10, 3) := by decide +kernel
theorem dX7_init_24 : decode cX7_init 24 = .ok (.invokespecial 18, 3) := by decide +kernel
theorem dX7_init_27 : decode cX7_init 27 = .ok (.putfield 21, 3) := by decide +kernel
theorem dX7_init_30 : decode cX7_init 30 = .ok (.aload_n 0, 1) := by decide +kernel
theorem dX7_init_31 : decode cX7_init 31 = .ok (.new 25, 3) := by decide +kernel
theorem dX7_init_34 : decode cX7_init 34 = .ok (.dup, 1) := by decide +kernel
theorem dX7_init_35 : decode cX7_init 35 = .ok (.aload_n 0, 1) := by decide +kernel
theorem dX7_init_36 : decode cX7_init 36 = .ok (.getfield 10, 3) := by decide +kernel
theorem dX7_init_39 : decode cX7_init 39 = .ok (.invokespecial 27, 3) := by decide +kernel
theorem dX7_init_42 : decode cX7_init 42 = .ok (.putfield 28, 3) := by decide +kernel
theorem dX7_init_45 : decode cX7_init 45 = .ok (.aload_n 0, 1) := by decide +kernel
theorem dX7_init_46 : decode cX7_init 46 = .ok (.new 32, 3) := by decide +kernel
theorem dX7_init_49 : decode cX7_init 49 = .ok (.dup, 1) := by decide +kernel
theorem dX7_init_50 : decode cX7_init 50 = .ok (.invokespecial 34, 3) := by decide +kernel
theorem dX7_init_53 : decode cX7_init 53 = .ok (.putfield 35, 3) := by decide +kernel
theorem dX7_init_56 : decode cX7_init 56 = .ok (.aload_n 0, 1) := by decide +kernel
theorem dX7_init_57 : decode cX7_init 57 = .ok (.new 39, 3) := by decide +kernel
theorem dX7_init_60 : decode cX7_init 60 = .ok (.dup, 1) := by decide +kernel
theorem dX7_init_61 : decode cX7_init 61 = .ok (.invokespecial 41, 3) := by decide +kernel
theorem dX7_init_64 : decode cX7_init 64 = .ok (.putfield 42, 3) := by decide +kernel
theorem dX7_init_67 : decode cX7_init 67 = .ok (.aload_n 0, 1) := by decide +kernel
theorem dX7_init_68 : decode cX7_init 68 = .ok (.new 46, 3) := by decide +kernel
theorem dX7_init_71 : decode cX7_init 71 = .ok (.dup, 1) := by decide +kernel
theorem dX7_init_72 : decode cX7_init 72 = .ok (.invokespecial 48, 3) := by decide +kernel
theorem dX7_init_75 : decode cX7_init 75 = .ok (.putfield 49, 3) := by decide +kernel
theorem dX7_init_78 : decode cX7_init 78 = .ok (.aload_n 0, 1) := by decide +kernel
theorem dX7_init_79 : decode cX7_init 79 = .ok (.new 7, 3) := by decide +kernel
theorem dX7_init_82 : decode cX7_init 82 = .ok (.dup, 1) := by decide +kernel
theorem dX7_init_83 : decode cX7_init 83 = .ok (.invokespecial 9, 3) := by decide +kernel
theorem dX7_init_86 : decode cX7_init 86 = .ok (.putfield 53, 3) := by decide +kernel
theorem dX7_init_89 : decode cX7_init 89 = .ok (.aload_n 0, 1) := by decide +kernel
theorem dX7_init_90 : decode cX7_init 90 = .ok (.new 7, 3) := by decide +kernel
theorem dX7_init_93 : decode cX7_init 93 = .ok (.dup, 1) := by decide +kernel
theorem dX7_init_94 : decode cX7_init 94 = .ok (.invokespecial 9, 3) := by decide +kernel
theorem dX7_init_97 : decode cX7_init 97 = .ok (.putfield 56, 3) := by decide +kernel
theorem dX7_init_100 : decode cX7_init 100 = .ok (.aload_n 0, 1) := by decide +kernel
theorem dX7_init_101 : decode cX7_init 101 = .ok (.iconst 0, 1) := by decide +kernel
theorem dX7_init_102 : decode cX7_init 102 = .ok (.putfield 59, 3) := by decide +kernel
theorem dX7_init_105 : decode cX7_init 105 = .ok (.aload_n 0, 1) := by decide +kernel
theorem dX7_init_106 : decode cX7_init 106 = .ok (.iconst (-1), 1) := by decide +kernel
theorem dX7_init_107 : decode cX7_init 107 = .ok (.putfield 63, 3) := by decide +kernel
theorem dX7_init_110 : decode cX7_init 110 = .ok (.aload_n 0, 1) := by decide +kernel
theorem dX7_init_111 : decode cX7_init 111 = .ok (.new 67, 3) := by decide +kernel
theorem dX7_init_114 : decode cX7_init 114 = .ok (.dup, 1) := by decide +kernel
theorem dX7_init_115 : decode cX7_init 115 = .ok (.invokespecial 69, 3) := by decide +kernel
theorem dX7_init_118 : decode cX7_init 118 = .ok (.putfield 70, 3) := by decide +kernel
theorem dX7_init_121 : decode cX7_init 121 = .ok (.return_, 1) := by decide +kernel
set_option maxRecDepth 20000 in
theorem ggX7_file_X4_tell : GoodIn wsX7_file wsX4_tell := goodIn_r _ [6, 7, 8, 9, 10, 233, 234, 235, 236] (by decide +kernel) (by decide +kernel)
set_option maxRecDepth 20000 in
theorem gX7_file_X4_tell : GoodIn wsX7_file (wsV RX7 74 RX4 yX4_tell wsX4_tell) := goodIn_app (goodIn_of _ (by decide +kernel)) ggX7_file_X4_tell
set_option maxRecDepth 20000 in
theorem ggX7_file_X7_change : GoodIn wsX7_file wsX7_change := goodIn_ca (goodIn_ca (goodIn_r _ [15, 16, 17, 18, 1, 19, 20, 21, 22, 23, 24, 25, 26, 27, 28, 29, 30, 31, 32, 33, 34, 35, 36, 5, 37, 7, 38, 39, 40, 41, 42, 43, 44, 45, 46, 8, 47, 48, 49, 50, 51, 52, 53, 9, 54, 55, 56, 57, 10, 58, 59, 60, 61, 62, 63, 64, 65, 66, 67, 68, 69, 70, 71, 72, 73, 74, 75, 76, 77, 78, 79, 80, 81, 82, 83, 84, 85, 86, 87, 88, 89, 90, 91, 92, 93, 94, 95, 96, 97, 98, 99, 100, 101, 102, 103, 104, 105, 106, 107, 108, 109, 110, 111, 112, 113, 114, 115, 116, 117, 118, 119, 120, 121, 122, 123, 124, 125, 126, 127, 128, 129, 130, 131, 132, 133, 134, 135, 136, 137, 138, 139, 140, 141, 142, 143, 144, 145, 146, 147, 148, 149, 150, 151, 152, 153, 154, 155, 156, 157, 158, 159, 160, 161, 162, 163, 164, 165, 166, 167, 168, 169, 170, 171, 172, 173, 174, 175, 176, 177, 178, 179, 180, 181, 182, 183, 184, 185, 186, 187, 188, 189, 190, 191, 192, 193, 194, 195, 196, 197, 198, 199, 200, 201, 202, 203, 204, 205, 206, 207, 208, 209, 210, 211, 212, 213, 214, 215, 216, 217, 218, 219, 220, 221, 222, 223, 224, 225, 226, 227, 228, 229, 230, 231, 232, 237, 238, 239, 240, 241, 233, 234, 235, 236, 242, 243, 244, 245, 246, 247, 248, 249, 250, 251, 252, 253] (by decide +kernel) (by decide +kernel)) (goodIn_sub (fun _ h => List.mem_cons_of_mem _ (List.mem_append_left _ (List.mem_append_right _ h))) (by decide +kernel))) (goodIn_sub (fun _ h => List.mem_cons_of_mem _ (List.mem_append_right _ h)) (by decide +kernel))
set_option maxRecDepth 20000 in
theorem gX7_file_X7_change : GoodIn wsX7_file (wsV RX7 78 RX7 yX7_change wsX7_change) := goodIn_app (goodIn_of _ (by decide +kernel)) ggX7_file_X7_change
theorem dX7_file_0 : decode cX7_file 0 = .ok (.aload_n 0, 1) := by decide +kernel
theorem dX7_file_1 : decode cX7_file 1 = .ok (.getfield 35, 3) := by decide +kernel
theorem dX7_file_4 : decode cX7_file 4 = .ok (.bipush 43, 2) := by decide +kernel
theorem dX7_file_6 : decode cX7_file 6 = .ok (.iload_n 1, 1) := by decide +kernel
theorem dX7_file_7 : decode cX7_file 7 = .ok (.iload_n 2, 1) := by decide +kernel
theorem dX7_file_8 : decode cX7_file 8 = .ok (.iconst 1, 1) := by decide +kernel
theorem dX7_file_9 : decode cX7_file 9 = .ok (.invokevirtual 74, 3) := by decide +kernel
theorem dX7_file_12 : decode cX7_file 12 = .ok (.aload_n 0, 1) := by decide +kernel
theorem dX7_file_13 : decode cX7_file 13 = .ok (.invokevirtual 78, 3) := by decide +kernel
theorem dX7_file_16 : decode cX7_file 16 = .ok (.ireturn, 1) := by decide +kernel
set_option maxRecDepth 20000 in
theorem ggX7_fileTall_X4_tell : GoodIn wsX7_fileTall wsX4_tell := goodIn_r _ [6, 7, 8, 9, 10, 233, 234, 235, 236] (by decide +kernel) (by decide +kernel)
set_option maxRecDepth 20000 in
theorem gX7_fileTall_X4_tell : GoodIn wsX7_fileTall (wsV RX7 74 RX4 yX4_tell wsX4_tell) := goodIn_app (goodIn_of _ (by decide +kernel)) ggX7_fileTall_X4_tell
set_option maxRecDepth 20000 in
theorem ggX7_fileTall_X7_change : GoodIn wsX7_fileTall wsX7_change := goodIn_ca (goodIn_ca (goodIn_r _ [15, 16, 17, 18, 1, 19, 20, 21, 22, 23, 24, 25, 26, 27, 28, 29, 30, 31, 32, 33, 34, 35, 36, 5, 37, 7, 38, 39, 40, 41, 42, 43, 44, 45, 46, 8, 47, 48, 49, 50, 51, 52, 53, 9, 54, 55, 56, 57, 10, 58, 59, 60, 61, 62, 63, 64, 65, 66, 67, 68, 69, 70, 71, 72, 73, 74, 75, 76, 77, 78, 79, 80, 81, 82, 83, 84, 85, 86, 87, 88, 89, 90, 91, 92, 93, 94, 95, 96, 97, 98, 99, 100, 101, 102, 103, 104, 105, 106, 107, 108, 109, 110, 111, 112, 113, 114, 115, 116, 117, 118, 119, 120, 121, 122, 123, 124, 125, 126, 127, 128, 129, 130, 131, 132, 133, 134, 135, 136, 137, 138, 139, 140, 141, 142, 143, 144, 145, 146, 147, 148, 149, 150, 151, 152, 153, 154, 155, 156, 157, 158, 159, 160, 161, 162, 163, 164, 165, 166, 167, 168, 169, 170, 171, 172, 173, 174, 175, 176, 177, 178, 179, 180, 181, 182, 183, 184, 185, 186, 187, 188, 189, 190, 191, 192, 193, 194, 195, 196, 197, 198, 199, 200, 201, 202, 203, 204, 205, 206, 207, 208, 209, 210, 211, 212, 213, 214, 215, 216, 217, 218, 219, 220, 221, 222, 223, 224, 225, 226, 227, 228, 229, 230, 231, 232, 237, 238, 239, 240, 241, 233, 234, 235, 236, 242, 243, 244, 245, 246, 247, 248, 249, 250, 251, 252, 253] (by decide +kernel) (by decide +kernel)) (goodIn_sub (fun _ h => List.mem_cons_of_mem _ (List.mem_append_left _ (List.mem_append_right _ h))) (by decide +kernel))) (goodIn_sub (fun _ h => List.mem_cons_of_mem _ (List.mem_append_right _ h)) (by decide +kernel))
set_option maxRecDepth 20000 in
theorem gX7_fileTall_X7_change : GoodIn wsX7_fileTall (wsV RX7 78 RX7 yX7_change wsX7_change) := goodIn_app (goodIn_of _ (by decide +kernel)) ggX7_fileTall_X7_change
theorem dX7_fileTall_0 : decode cX7_fileTall 0 = .ok (.aload_n 0, 1) := by decide +kernel
theorem dX7_fileTall_1 : decode cX7_fileTall 1 = .ok (.getfield 35, 3) := by decide +kernel
theorem dX7_fileTall_4 : decode cX7_fileTall 4 = .ok (.bipush 94, 2) := by decide +kernel
theorem dX7_fileTall_6 : decode cX7_fileTall 6 = .ok (.iload_n 1, 1) := by decide +kernel
theorem dX7_fileTall_7 : decode cX7_fileTall 7 = .ok (.iload_n 2, 1) := by decide +kernel
theorem dX7_fileTall_8 : decode cX7_fileTall 8 = .ok (.iload_n 3, 1) := by decide +kernel
theorem dX7_fileTall_9 : decode cX7_fileTall 9 = .ok (.invokevirtual 74, 3) := by decide +kernel
theorem dX7_fileTall_12 : decode cX7_fileTall 12 = .ok (.aload_n 0, 1) := by decide +kernel
theorem dX7_fileTall_13 : decode cX7_fileTall 13 = .ok (.invokevirtual 78, 3) := by decide +kernel
theorem dX7_fileTall_16 : decode cX7_fileTall 16 = .ok (.ireturn, 1) := by decide +kernel
set_option maxRecDepth 20000 in
theorem ggX7_drop_X4_tell : GoodIn wsX7_drop wsX4_tell := goodIn_r _ [6, 7, 8, 9, 10, 233, 234, 235, 236] (by decide +kernel) (by decide +kernel)
set_option maxRecDepth 20000 in
theorem gX7_drop_X4_tell : GoodIn wsX7_drop (wsV RX7 74 RX4 yX4_tell wsX4_tell) := goodIn_app (goodIn_of _ (by decide +kernel)) ggX7_drop_X4_tell
set_option maxRecDepth 20000 in
theorem ggX7_drop_X7_change : GoodIn wsX7_drop wsX7_change := goodIn_ca (goodIn_ca (goodIn_r _ [15, 16, 17, 18, 1, 19, 20, 21, 22, 23, 24, 25, 26, 27, 28, 29, 30, 31, 32, 33, 34, 35, 36, 5, 37, 7, 38, 39, 40, 41, 42, 43, 44, 45, 46, 8, 47, 48, 49, 50, 51, 52, 53, 9, 54, 55, 56, 57, 10, 58, 59, 60, 61, 62, 63, 64, 65, 66, 67, 68, 69, 70, 71, 72, 73, 74, 75, 76, 77, 78, 79, 80, 81, 82, 83, 84, 85, 86, 87, 88, 89, 90, 91, 92, 93, 94, 95, 96, 97, 98, 99, 100, 101, 102, 103, 104, 105, 106, 107, 108, 109, 110, 111, 112, 113, 114, 115, 116, 117, 118, 119, 120, 121, 122, 123, 124, 125, 126, 127, 128, 129, 130, 131, 132, 133, 134, 135, 136, 137, 138, 139, 140, 141, 142, 143, 144, 145, 146, 147, 148, 149, 150, 151, 152, 153, 154, 155, 156, 157, 158, 159, 160, 161, 162, 163, 164, 165, 166, 167, 168, 169, 170, 171, 172, 173, 174, 175, 176, 177, 178, 179, 180, 181, 182, 183, 184, 185, 186, 187, 188, 189, 190, 191, 192, 193, 194, 195, 196, 197, 198, 199, 200, 201, 202, 203, 204, 205, 206, 207, 208, 209, 210, 211, 212, 213, 214, 215, 216, 217, 218, 219, 220, 221, 222, 223, 224, 225, 226, 227, 228, 229, 230, 231, 232, 237, 238, 239, 240, 241, 233, 234, 235, 236, 242, 243, 244, 245, 246, 247, 248, 249, 250, 251, 252, 253] (by decide +kernel) (by decide +kernel)) (goodIn_sub (fun _ h => List.mem_cons_of_mem _ (List.mem_append_left _ (List.mem_append_right _ h))) (by decide +kernel))) (goodIn_sub (fun _ h => List.mem_cons_of_mem _ (List.mem_append_right _ h)) (by decide +kernel))
set_option maxRecDepth 20000 in
theorem gX7_drop_X7_change : GoodIn wsX7_drop (wsV RX7 78 RX7 yX7_change wsX7_change) := goodIn_app (goodIn_of _ (by decide +kernel)) ggX7_drop_X7_change
theorem dX7_drop_0 : decode cX7_drop 0 = .ok (.aload_n 0, 1) := by decide +kernel
theorem dX7_drop_1 : decode cX7_drop 1 = .ok (.getfield 35, 3) := by decide +kernel
theorem dX7_drop_4 : decode cX7_drop 4 = .ok (.bipush 45, 2) := by decide +kernel
theorem dX7_drop_6 : decode cX7_drop 6 = .ok (.iload_n 1, 1) := by decide +kernel
theorem dX7_drop_7 : decode cX7_drop 7 = .ok (.iconst 0, 1) := by decide +kernel
theorem dX7_drop_8 : decode cX7_drop 8 = .ok (.iconst 1, 1) := by decide +kernel
theorem dX7_drop_9 : decode cX7_drop 9 = .ok (.invokevirtual 74, 3) := by decide +kernel
theorem dX7_drop_12 : decode cX7_drop 12 = .ok (.aload_n 0, 1) := by decide +kernel
theorem dX7_drop_13 : decode cX7_drop 13 = .ok (.invokevirtual 78, 3) := by decide +kernel
theorem dX7_drop_16 : decode cX7_drop 16 = .ok (.ireturn, 1) := by decide +kernel
set_option maxRecDepth 20000 in
theorem ggX7_raise_X4_tell : GoodIn wsX7_raise wsX4_tell := goodIn_r _ [6, 7, 8, 9, 10, 233, 234, 235, 236] (by decide +kernel) (by decide +kernel)
set_option maxRecDepth 20000 in
theorem gX7_raise_X4_tell : GoodIn wsX7_raise (wsV RX7 74 RX4 yX4_tell wsX4_tell) := goodIn_app (goodIn_of _ (by decide +kernel)) ggX7_raise_X4_tell
set_option maxRecDepth 20000 in
theorem ggX7_raise_X7_change : GoodIn wsX7_raise wsX7_change := goodIn_ca (goodIn_ca (goodIn_r _ [15, 16, 17, 18, 1, 19, 20, 21, 22, 23, 24, 25, 26, 27, 28, 29, 30, 31, 32, 33, 34, 35, 36, 5, 37, 7, 38, 39, 40, 41, 42, 43, 44, 45, 46, 8, 47, 48, 49, 50, 51, 52, 53, 9, 54, 55, 56, 57, 10, 58, 59, 60, 61, 62, 63, 64, 65, 66, 67, 68, 69, 70, 71, 72, 73, 74, 75, 76, 77, 78, 79, 80, 81, 82, 83, 84, 85, 86, 87, 88, 89, 90, 91, 92, 93, 94, 95, 96, 97, 98, 99, 100, 101, 102, 103, 104, 105, 106, 107, 108, 109, 110, 111, 112, 113, 114, 115, 116, 117, 118, 119, 120, 121, 122, 123, 124, 125, 126, 127, 128, 129, 130, 131, 132, 133, 134, 135, 136, 137, 138, 139, 140, 141, 142, 143, 144, 145, 146, 147, 148, 149, 150, 151, 152, 153, 154, 155, 156, 157, 158, 159, 160, 161, 162, 163, 164, 165, 166, 167, 168, 169, 170, 171, 172, 173, 174, 175, 176, 177, 178, 179, 180, 181, 182, 183, 184, 185, 186, 187, 188, 189, 190, 191, 192, 193, 194, 195, 196, 197, 198, 199, 200, 201, 202, 203, 204, 205, 206, 207, 208, 209, 210, 211, 212, 213, 214, 215, 216, 217, 218, 219, 220, 221, 222, 223, 224, 225, 226, 227, 228, 229, 230, 231, 232, 237, 238, 239, 240, 241, 233, 234, 235, 236, 242, 243, 244, 245, 246, 247, 248, 249, 250, 251, 252, 253] (by decide +kernel) (by decide +kernel)) (goodIn_sub (fun _ h => List.mem_cons_of_mem _ (List.mem_append_left _ (List.mem_append_right _ h))) (by decide +kernel))) (goodIn_sub (fun _ h => List.mem_cons_of_mem _ (List.mem_append_right _ h)) (by decide +kernel))
set_option maxRecDepth 20000 in
theorem gX7_raise_X7_change : GoodIn wsX7_raise (wsV RX7 78 RX7 yX7_change wsX7_change) := goodIn_app (goodIn_of _ (by decide +kernel)) ggX7_raise_X7_change
theorem dX7_raise_0 : decode cX7_raise 0 = .ok (.aload_n 0, 1) := by decide +kernel
theorem dX7_raise_1 : decode cX7_raise 1 = .ok (.getfield 35, 3) := by decide +kernel
theorem dX7_raise_4 : decode cX7_raise 4 = .ok (.bipush 117, 2) := by decide +kernel
theorem dX7_raise_6 : decode cX7_raise 6 = .ok (.iload_n 1, 1) := by decide +kernel
theorem dX7_raise_7 : decode cX7_raise 7 = .ok (.iconst 0, 1) := by decide +kernel
theorem dX7_raise_8 : decode cX7_raise 8 = .ok (.iconst 1, 1) := by decide +kernel
theorem dX7_raise_9 : decode cX7_raise 9 = .ok (.invokevirtual 74, 3) := by decide +kernel
theorem dX7_raise_12 : decode cX7_raise 12 = .ok (.aload_n 0, 1) := by decide +kernel
theorem dX7_raise_13 : decode cX7_raise 13 = .ok (.invokevirtual 78, 3) := by decide +kernel
theorem dX7_raise_16 : decode cX7_raise 16 = .ok (.ireturn, 1) := by decide +kernel
set_option maxRecDepth 20000 in
theorem ggX7_lower_X4_tell : GoodIn wsX7_lower wsX4_tell := goodIn_r _ [6, 7, 8, 9, 10, 233, 234, 235, 236] (by decide +kernel) (by decide +kernel)
set_option maxRecDepth 20000 in
theorem gX7_lower_X4_tell : GoodIn wsX7_lower (wsV RX7 74 RX4 yX4_tell wsX4_tell) := goodIn_app (goodIn_of _ (by decide +kernel)) ggX7_lower_X4_tell
set_option maxRecDepth 20000 in
theorem ggX7_lower_X7_change : GoodIn wsX7_lower wsX7_change := goodIn_ca (goodIn_ca (goodIn_r _ [15, 16, 17, 18, 1, 19, 20, 21, 22, 23, 24, 25, 26, 27, 28, 29, 30, 31, 32, 33, 34, 35, 36, 5, 37, 7, 38, 39, 40, 41, 42, 43, 44, 45, 46, 8, 47, 48, 49, 50, 51, 52, 53, 9, 54, 55, 56, 57, 10, 58, 59, 60, 61, 62, 63, 64, 65, 66, 67, 68, 69, 70, 71, 72, 73, 74, 75, 76, 77, 78, 79, 80, 81, 82, 83, 84, 85, 86, 87, 88, 89, 90, 91, 92, 93, 94, 95, 96, 97, 98, 99, 100, 101, 102, 103, 104, 105, 106, 107, 108, 109, 110, 111, 112, 113, 114, 115, 116, 117, 118, 119, 120, 121, 122, 123, 124, 125, 126, 127, 128, 129, 130, 131, 132, 133, 134, 135, 136, 137, 138, 139, 140, 141, 142, 143, 144, 145, 146, 147, 148, 149, 150, 151, 152, 153, 154, 155, 156, 157, 158, 159, 160, 161, 162, 163, 164, 165, 166, 167, 168, 169, 170, 171, 172, 173, 174, 175, 176, 177, 178, 179, 180, 181, 182, 183, 184, 185, 186, 187, 188, 189, 190, 191, 192, 193, 194, 195, 196, 197, 198, 199, 200, 201, 202, 203, 204, 205, 206, 207, 208, 209, 210, 211, 212, 213, 214, 215, 216, 217, 218, 219, 220, 221, 222, 223, 224, 225, 226, 227, 228, 229, 230, 231, 232, 237, 238, 239, 240, 241, 233, 234, 235, 236, 242, 243, 244, 245, 246, 247, 248, 249, 250, 251, 252, 253] (by decide +kernel) (by decide +kernel)) (goodIn_sub (fun _ h => List.mem_cons_of_mem _ (List.mem_append_left _ (List.mem_append_right _ h))) (by decide +kernel))) (goodIn_sub (fun _ h => List.mem_cons_of_mem _ (List.mem_append_right _ h)) (by decide +kernel))
set_option maxRecDepth 20000 in
theorem gX7_lower_X7_change : GoodIn wsX7_lower (wsV RX7 78 RX7 yX7_change wsX7_change) := goodIn_app (goodIn_of _ (by decide +kernel)) ggX7_lower_X7_change
theorem dX7_lower_0 : decode cX7_lower 0 = .ok (.aload_n 0, 1) := by decide +kernel
theorem dX7_lower_1 : decode cX7_lower 1 = .ok (.getfield 35, 3) := by decide +kernel
theorem dX7_lower_4 : decode cX7_lower 4 = .ok (.bipush 100, 2) := by decide +kernel
theorem dX7_lower_6 : decode cX7_lower 6 = .ok (.iload_n 1, 1) := by decide +kernel
theorem dX7_lower_7 : decode cX7_lower 7 = .ok (.iconst 0, 1) := by decide +kernel
theorem dX7_lower_8 : decode cX7_lower 8 = .ok (.iconst 1, 1) := by decide +kernel
theorem dX7_lower_9 : decode cX7_lower 9 = .ok (.invokevirtual 74, 3) := by decide +kernel
theorem dX7_lower_12 : decode cX7_lower 12 = .ok (.aload_n 0, 1) := by decide +kernel
theorem dX7_lower_13 : decode cX7_lower 13 = .ok (.invokevirtual 78, 3) := by decide +kernel
theorem dX7_lower_16 : decode cX7_lower 16 = .ok (.ireturn, 1) := by decide +kernel
set_option maxRecDepth 20000 in
theorem ggX7_forget_X4_tell : GoodIn wsX7_forget wsX4_tell := goodIn_r _ [6, 7, 8, 9, 10, 233, 234, 235, 236] (by decide +kernel) (by decide +kernel)
set_option maxRecDepth 20000 in
theorem gX7_forget_X4_tell : GoodIn wsX7_forget (wsV RX7 74 RX4 yX4_tell wsX4_tell) := goodIn_app (goodIn_of _ (by decide +kernel)) ggX7_forget_X4_tell
set_option maxRecDepth 20000 in
theorem ggX7_forget_X7_change : GoodIn wsX7_forget wsX7_change := goodIn_ca (goodIn_ca (goodIn_r _ [15, 16, 17, 18, 1, 19, 20, 21, 22, 23, 24, 25, 26, 27, 28, 29, 30, 31, 32, 33, 34, 35, 36, 5, 37, 7, 38, 39, 40, 41, 42, 43, 44, 45, 46, 8, 47, 48, 49, 50, 51, 52, 53, 9, 54, 55, 56, 57, 10, 58, 59, 60, 61, 62, 63, 64, 65, 66, 67, 68, 69, 70, 71, 72, 73, 74, 75, 76, 77, 78, 79, 80, 81, 82, 83, 84, 85, 86, 87, 88, 89, 90, 91, 92, 93, 94, 95, 96, 97, 98, 99, 100, 101, 102, 103, 104, 105, 106, 107, 108, 109, 110, 111, 112, 113, 114, 115, 116, 117, 118, 119, 120, 121, 122, 123, 124, 125, 126, 127, 128, 129, 130, 131, 132, 133, 134, 135, 136, 137, 138, 139, 140, 141, 142, 143, 144, 145, 146, 147, 148, 149, 150, 151, 152, 153, 154, 155, 156, 157, 158, 159, 160, 161, 162, 163, 164, 165, 166, 167, 168, 169, 170, 171, 172, 173, 174, 175, 176, 177, 178, 179, 180, 181, 182, 183, 184, 185, 186, 187, 188, 189, 190, 191, 192, 193, 194, 195, 196, 197, 198, 199, 200, 201, 202, 203, 204, 205, 206, 207, 208, 209, 210, 211, 212, 213, 214, 215, 216, 217, 218, 219, 220, 221, 222, 223, 224, 225, 226, 227, 228, 229, 230, 231, 232, 237, 238, 239, 240, 241, 233, 234, 235, 236, 242, 243, 244, 245, 246, 247, 248, 249, 250, 251, 252, 253] (by decide +kernel) (by decide +kernel)) (goodIn_sub (fun _ h => List.mem_cons_of_mem _ (List.mem_append_left _ (List.mem_append_right _ h))) (by decide +kernel))) (goodIn_sub (fun _ h => List.mem_cons_of_mem _ (List.mem_append_right _ h)) (by decide +kernel))
set_option maxRecDepth 20000 in
theorem gX7_forget_X7_change : GoodIn wsX7_forget (wsV RX7 78 RX7 yX7_change wsX7_change) := goodIn_app (goodIn_of _ (by decide +kernel)) ggX7_forget_X7_change
theorem dX7_forget_0 : decode cX7_forget 0 = .ok (.aload_n 0, 1) := by decide +kernel
theorem dX7_forget_1 : decode cX7_forget 1 = .ok (.getfield 35, 3) := by decide +kernel
theorem dX7_forget_4 : decode cX7_forget 4 = .ok (.bipush 102, 2) := by decide +kernel
theorem dX7_forget_6 : decode cX7_forget 6 = .ok (.iload_n 1, 1) := by decide +kernel
theorem dX7_forget_7 : decode cX7_forget 7 = .ok (.iconst 0, 1) := by decide +kernel
theorem dX7_forget_8 : decode cX7_forget 8 = .ok (.iconst 1, 1) := by decide +kernel
theorem dX7_forget_9 : decode cX7_forget 9 = .ok (.invokevirtual 74, 3) := by decide +kernel
theorem dX7_forget_12 : decode cX7_forget 12 = .ok (.aload_n 0, 1) := by decide +kernel
theorem dX7_forget_13 : decode cX7_forget 13 = .ok (.invokevirtual 78, 3) := by decide +kernel
theorem dX7_forget_16 : decode cX7_forget 16 = .ok (.ireturn, 1) := by decide +kernel
set_option maxRecDepth 20000 in
theorem ggX7_recall_X4_tell : GoodIn wsX7_recall wsX4_tell := goodIn_r _ [6, 7, 8, 9, 10, 233, 234, 235, 236] (by decide +kernel) (by decide +kernel)
set_option maxRecDepth 20000 in
theorem gX7_recall_X4_tell : GoodIn wsX7_recall (wsV RX7 74 RX4 yX4_tell wsX4_tell) := goodIn_app (goodIn_of _ (by decide +kernel)) ggX7_recall_X4_tell
set_option maxRecDepth 20000 in
theorem ggX7_recall_X7_change : GoodIn wsX7_recall wsX7_change := goodIn_ca (goodIn_ca (goodIn_r _ [15, 16, 17, 18, 1, 19, 20, 21, 22, 23, 24, 25, 26, 27, 28, 29, 30, 31, 32, 33, 34, 35, 36, 5, 37, 7, 38, 39, 40, 41, 42, 43, 44, 45, 46, 8, 47, 48, 49, 50, 51, 52, 53, 9, 54, 55, 56, 57, 10, 58, 59, 60, 61, 62, 63, 64, 65, 66, 67, 68, 69, 70, 71, 72, 73, 74, 75, 76, 77, 78, 79, 80, 81, 82, 83, 84, 85, 86, 87, 88, 89, 90, 91, 92, 93, 94, 95, 96, 97, 98, 99, 100, 101, 102, 103, 104, 105, 106, 107, 108, 109, 110, 111, 112, 113, 114, 115, 116, 117, 118, 119, 120, 121, 122, 123, 124, 125, 126, 127, 128, 129, 130, 131, 132, 133, 134, 135, 136, 137, 138, 139, 140, 141, 142, 143, 144, 145, 146, 147, 148, 149, 150, 151, 152, 153, 154, 155, 156, 157, 158, 159, 160, 161, 162, 163, 164, 165, 166, 167, 168, 169, 170, 171, 172, 173, 174, 175, 176, 177, 178, 179, 180, 181, 182, 183, 184, 185, 186, 187, 188, 189, 190, 191, 192, 193, 194, 195, 196, 197, 198, 199, 200, 201, 202, 203, 204, 205, 206, 207, 208, 209, 210, 211, 212, 213, 214, 215, 216, 217, 218, 219, 220, 221, 222, 223, 224, 225, 226, 227, 228, 229, 230, 231, 232, 237, 238, 239, 240, 241, 233, 234, 235, 236, 242, 243, 244, 245, 246, 247, 248, 249, 250, 251, 252, 253] (by decide +kernel) (by decide +kernel)) (goodIn_sub (fun _ h => List.mem_cons_of_mem _ (List.mem_append_left _ (List.mem_append_right _ h))) (by decide +kernel))) (goodIn_sub (fun _ h => List.mem_cons_of_mem _ (List.mem_append_right _ h)) (by decide +kernel))
set_option maxRecDepth 20000 in
theorem gX7_recall_X7_change : GoodIn wsX7_recall (wsV RX7 78 RX7 yX7_change wsX7_change) := goodIn_app (goodIn_of _ (by decide +kernel)) ggX7_recall_X7_change
theorem dX7_recall_0 : decode cX7_recall 0 = .ok (.aload_n 0, 1) := by decide +kernel
theorem dX7_recall_1 : decode cX7_recall 1 = .ok (.getfield 35, 3) := by decide +kernel
theorem dX7_recall_4 : decode cX7_recall 4 = .ok (.bipush 114, 2) := by decide +kernel
theorem dX7_recall_6 : decode cX7_recall 6 = .ok (.iload_n 1, 1) := by decide +kernel
theorem dX7_recall_7 : decode cX7_recall 7 = .ok (.iconst 0, 1) := by decide +kernel
theorem dX7_recall_8 : decode cX7_recall 8 = .ok (.iconst 1, 1) := by decide +kernel
theorem dX7_recall_9 : decode cX7_recall 9 = .ok (.invokevirtual 74, 3) := by decide +kernel
theorem dX7_recall_12 : decode cX7_recall 12 = .ok (.aload_n 0, 1) := by decide +kernel
theorem dX7_recall_13 : decode cX7_recall 13 = .ok (.invokevirtual 78, 3) := by decide +kernel
theorem dX7_recall_16 : decode cX7_recall 16 = .ok (.ireturn, 1) := by decide +kernel
set_option maxRecDepth 20000 in
theorem ggX7_weigh_X4_tell : GoodIn wsX7_weigh wsX4_tell := goodIn_r _ [6, 7, 8, 9, 10, 233, 234, 235, 236] (by decide +kernel) (by decide +kernel)
set_option maxRecDepth 20000 in
theorem gX7_weigh_X4_tell : GoodIn wsX7_weigh (wsV RX7 74 RX4 yX4_tell wsX4_tell) := goodIn_app (goodIn_of _ (by decide +kernel)) ggX7_weigh_X4_tell
set_option maxRecDepth 20000 in
theorem ggX7_weigh_X7_change : GoodIn wsX7_weigh wsX7_change := goodIn_ca (goodIn_ca (goodIn_r _ [15, 16, 17, 18, 1, 19, 20, 21, 22, 23, 24, 25, 26, 27, 28, 29, 30, 31, 32, 33, 34, 35, 36, 5, 37, 7, 38, 39, 40, 41, 42, 43, 44, 45, 46, 8, 47, 48, 49, 50, 51, 52, 53, 9, 54, 55, 56, 57, 10, 58, 59, 60, 61, 62, 63, 64, 65, 66, 67, 68, 69, 70, 71, 72, 73, 74, 75, 76, 77, 78, 79, 80, 81, 82, 83, 84, 85, 86, 87, 88, 89, 90, 91, 92, 93, 94, 95, 96, 97, 98, 99, 100, 101, 102, 103, 104, 105, 106, 107, 108, 109, 110, 111, 112, 113, 114, 115, 116, 117, 118, 119, 120, 121, 122, 123, 124, 125, 126, 127, 128, 129, 130, 131, 132, 133, 134, 135, 136, 137, 138, 139, 140, 141, 142, 143, 144, 145, 146, 147, 148, 149, 150, 151, 152, 153, 154, 155, 156, 157, 158, 159, 160, 161, 162, 163, 164, 165, 166, 167, 168, 169, 170, 171, 172, 173, 174, 175, 176, 177, 178, 179, 180, 181, 182, 183, 184, 185, 186, 187, 188, 189, 190, 191, 192, 193, 194, 195, 196, 197, 198, 199, 200, 201, 202, 203, 204, 205, 206, 207, 208, 209, 210, 211, 212, 213, 214, 215, 216, 217, 218, 219, 220, 221, 222, 223, 224, 225, 226, 227, 228, 229, 230, 231, 232, 237, 238, 239, 240, 241, 233, 234, 235, 236, 242, 243, 244, 245, 246, 247, 248, 249, 250, 251, 252, 253] (by decide +kernel) (by decide +kernel)) (goodIn_sub (fun _ h => List.mem_cons_of_mem _ (List.mem_append_left _ (List.mem_append_right _ h))) (by decide +kernel))) (goodIn_sub (fun _ h => List.mem_cons_of_mem _ (List.mem_append_right _ h)) (by decide +kernel))
set_option maxRecDepth 20000 in
theorem gX7_weigh_X7_change : GoodIn wsX7_weigh (wsV RX7 78 RX7 yX7_change wsX7_change) := goodIn_app (goodIn_of _ (by decide +kernel)) ggX7_weigh_X7_change
theorem dX7_weigh_0 : decode cX7_weigh 0 = .ok (.aload_n 0, 1) := by decide +kernel
theorem dX7_weigh_1 : decode cX7_weigh 1 = .ok (.getfield 35, 3) := by decide +kernel
theorem dX7_weigh_4 : decode cX7_weigh 4 = .ok (.bipush 119, 2) := by decide +kernel
theorem dX7_weigh_6 : decode cX7_weigh 6 = .ok (.iload_n 1, 1) := by decide +kernel
theorem dX7_weigh_7 : decode cX7_weigh 7 = .ok (.iload_n 2, 1) := by decide +kernel
theorem dX7_weigh_8 : decode cX7_weigh 8 = .ok (.iconst 1, 1) := by decide +kernel
theorem dX7_weigh_9 : decode cX7_weigh 9 = .ok (.invokevirtual 74, 3) := by decide +kernel
theorem dX7_weigh_12 : decode cX7_weigh 12 = .ok (.aload_n 0, 1) := by decide +kernel
theorem dX7_weigh_13 : decode cX7_weigh 13 = .ok (.invokevirtual 78, 3) := by decide +kernel
theorem dX7_weigh_16 : decode cX7_weigh 16 = .ok (.ireturn, 1) := by decide +kernel
set_option maxRecDepth 20000 in
theorem ggX7_toss_X4_tell : GoodIn wsX7_toss wsX4_tell := goodIn_r _ [6, 7, 8, 9, 10, 233, 234, 235, 236] (by decide +kernel) (by decide +kernel)
set_option maxRecDepth 20000 in
theorem gX7_toss_X4_tell : GoodIn wsX7_toss (wsV RX7 74 RX4 yX4_tell wsX4_tell) := goodIn_app (goodIn_of _ (by decide +kernel)) ggX7_toss_X4_tell
set_option maxRecDepth 20000 in
theorem ggX7_toss_X7_change : GoodIn wsX7_toss wsX7_change := goodIn_ca (goodIn_ca (goodIn_r _ [15, 16, 17, 18, 1, 19, 20, 21, 22, 23, 24, 25, 26, 27, 28, 29, 30, 31, 32, 33, 34, 35, 36, 5, 37, 7, 38, 39, 40, 41, 42, 43, 44, 45, 46, 8, 47, 48, 49, 50, 51, 52, 53, 9, 54, 55, 56, 57, 10, 58, 59, 60, 61, 62, 63, 64, 65, 66, 67, 68, 69, 70, 71, 72, 73, 74, 75, 76, 77, 78, 79, 80, 81, 82, 83, 84, 85, 86, 87, 88, 89, 90, 91, 92, 93, 94, 95, 96, 97, 98, 99, 100, 101, 102, 103, 104, 105, 106, 107, 108, 109, 110, 111, 112, 113, 114, 115, 116, 117, 118, 119, 120, 121, 122, 123, 124, 125, 126, 127, 128, 129, 130, 131, 132, 133, 134, 135, 136, 137, 138, 139, 140, 141, 142, 143, 144, 145, 146, 147, 148, 149, 150, 151, 152, 153, 154, 155, 156, 157, 158, 159, 160, 161, 162, 163, 164, 165, 166, 167, 168, 169, 170, 171, 172, 173, 174, 175, 176, 177, 178, 179, 180, 181, 182, 183, 184, 185, 186, 187, 188, 189, 190, 191, 192, 193, 194, 195, 196, 197, 198, 199, 200, 201, 202, 203, 204, 205, 206, 207, 208, 209, 210, 211, 212, 213, 214, 215, 216, 217, 218, 219, 220, 221, 222, 223, 224, 225, 226, 227, 228, 229, 230, 231, 232, 237, 238, 239, 240, 241, 233, 234, 235, 236, 242, 243, 244, 245, 246, 247, 248, 249, 250, 251, 252, 253] (by decide +kernel) (by decide +kernel)) (goodIn_sub (fun _ h => List.mem_cons_of_mem _ (List.mem_append_left _ (List.mem_append_right _ h))) (by decide +kernel))) (goodIn_sub (fun _ h => List.mem_cons_of_mem _ (List.mem_append_right _ h)) (by decide +kernel))
set_option maxRecDepth 20000 in
theorem gX7_toss_X7_change : GoodIn wsX7_toss (wsV RX7 78 RX7 yX7_change wsX7_change) := goodIn_app (goodIn_of _ (by decide +kernel)) ggX7_toss_X7_change
theorem dX7_toss_0 : decode cX7_toss 0 = .ok (.aload_n 0, 1) := by decide +kernel
theorem dX7_toss_1 : decode cX7_toss 1 = .ok (.getfield 35, 3) := by decide +kernel
theorem dX7_toss_4 : decode cX7_toss 4 = .ok (.bipush 116, 2) := by decide +kernel
theorem dX7_toss_6 : decode cX7_toss 6 = .ok (.iconst 0, 1) := by decide +kernel
theorem dX7_toss_7 : decode cX7_toss 7 = .ok (.iconst 0, 1) := by decide +kernel
theorem dX7_toss_8 : decode cX7_toss 8 = .ok (.iconst 1, 1) := by decide +kernel
theorem dX7_toss_9 : decode cX7_toss 9 = .ok (.invokevirtual 74, 3) := by decide +kernel
theorem dX7_toss_12 : decode cX7_toss 12 = .ok (.aload_n 0, 1) := by decide +kernel
theorem dX7_toss_13 : decode cX7_toss 13 = .ok (.invokevirtual 78, 3) := by decide +kernel
theorem dX7_toss_16 : decode cX7_toss 16 = .ok (.ireturn, 1) := by decide +kernel
set_option maxRecDepth 20000 in
theorem ggX7_folderOf_X7_demandKey : GoodIn wsX7_folderOf wsX7_demandKey := goodIn_ca (goodIn_r _ [8, 1, 2] (by decide +kernel) (by decide +kernel)) (goodIn_sub (fun _ h => List.mem_cons_of_mem _ (List.mem_append_left _ (List.mem_append_left _ (List.mem_append_right _ h)))) (by decide +kernel))
set_option maxRecDepth 20000 in
theorem gX7_folderOf_X7_demandKey : GoodIn wsX7_folderOf (va_wsS RX7 82 yX7_demandKey wsX7_demandKey) := goodIn_app (goodIn_of _ (by decide +kernel)) ggX7_folderOf_X7_demandKey
set_option maxRecDepth 20000 in
theorem ggX7_folderOf_X7_demandFolder : GoodIn wsX7_folderOf wsX7_demandFolder := goodIn_ca (goodIn_ca (goodIn_r _ [12, 13, 14, 3, 15, 16, 17, 18, 19, 20, 21, 22, 23, 24, 25, 26, 27, 28, 29, 94, 95, 96, 97, 98, 99, 100, 101, 102, 103, 104, 105, 106, 107, 108, 109, 110] (by decide +kernel) (by decide +kernel)) (goodIn_sub (fun _ h => List.mem_cons_of_mem _ (List.mem_append_left _ (List.mem_append_right _ h))) (by decide +kernel))) (goodIn_sub (fun _ h => List.mem_cons_of_mem _ (List.mem_append_right _ h)) (by decide +kernel))
set_option maxRecDepth 20000 in
theorem gX7_folderOf_X7_demandFolder : GoodIn wsX7_folderOf (wsV RX7 89 RX7 yX7_demandFolder wsX7_demandFolder) := goodIn_app (goodIn_of _ (by decide +kernel)) ggX7_folderOf_X7_demandFolder
set_option maxRecDepth 20000 in
theorem ggX7_folderOf_X3_weightOf : GoodIn wsX7_folderOf wsX3_weightOf := goodIn_ca (goodIn_r _ [33, 34, 26, 27, 28, 18, 29, 25, 105, 106, 107, 108, 109, 110] (by decide +kernel) (by decide +kernel)) (goodIn_sub (fun _ h => List.mem_cons_of_mem _ (List.mem_append_right _ h)) (by decide +kernel))
set_option maxRecDepth 20000 in
theorem gX7_folderOf_X3_weightOf : GoodIn wsX7_folderOf (wsV RX7 93 RX3 yX3_weightOf wsX3_weightOf) := goodIn_app (goodIn_of _ (by decide +kernel)) ggX7_folderOf_X3_weightOf
set_option maxRecDepth 20000 in
theorem ggX7_folderOf_X3_rungsOf : GoodIn wsX7_folderOf wsX3_rungsOf := goodIn_ca (goodIn_r _ [38, 39, 26, 27, 28, 18, 29, 25, 105, 106, 107, 108, 109, 110] (by decide +kernel) (by decide +kernel)) (goodIn_sub (fun _ h => List.mem_cons_of_mem _ (List.mem_append_right _ h)) (by decide +kernel))
set_option maxRecDepth 20000 in
theorem gX7_folderOf_X3_rungsOf : GoodIn wsX7_folderOf (wsV RX7 96 RX3 yX3_rungsOf wsX3_rungsOf) := goodIn_app (goodIn_of _ (by decide +kernel)) ggX7_folderOf_X3_rungsOf
set_option maxRecDepth 20000 in
theorem ggX7_folderOf_X6_stepsTo : GoodIn wsX7_folderOf wsX6_stepsTo := goodIn_ca (goodIn_r _ [44, 45, 46, 47, 48, 49, 43, 50, 51, 52, 53, 54, 55, 56, 57, 18, 58, 59, 60, 61, 62, 25, 63, 64, 65, 66, 67, 36, 37, 38, 39, 26, 27, 28, 29, 68, 69, 70, 71, 72, 73, 74, 75, 76, 77, 78, 79, 80, 81, 82, 83, 84, 85, 86, 87, 88, 89, 90, 91, 92, 20, 93, 111, 112, 113, 114, 115, 116, 105, 106, 107, 108, 109, 110] (by decide +kernel) (by decide +kernel)) (goodIn_sub (fun _ h => List.mem_cons_of_mem _ (List.mem_append_right _ h)) (by decide +kernel))
set_option maxRecDepth 20000 in
theorem gX7_folderOf_X6_stepsTo : GoodIn wsX7_folderOf (wsV RX7 99 RX6 yX6_stepsTo wsX6_stepsTo) := goodIn_app (goodIn_of _ (by decide +kernel)) ggX7_folderOf_X6_stepsTo
theorem dX7_folderOf_0 : decode cX7_folderOf 0 = .ok (.iload_n 1, 1) := by decide +kernel
theorem dX7_folderOf_1 : decode cX7_folderOf 1 = .ok (.invokestatic 82, 3) := by decide +kernel
theorem dX7_folderOf_4 : decode cX7_folderOf 4 = .ok (.iload_n 2, 1) := by decide +kernel
theorem dX7_folderOf_5 : decode cX7_folderOf 5 = .ok (.ifCond .lt 8, 3) := by decide +kernel
theorem dX7_folderOf_8 : decode cX7_folderOf 8 = .ok (.iload_n 2, 1) := by decide +kernel
theorem dX7_folderOf_9 : decode cX7_folderOf 9 = .ok (.iconst 3, 1) := by decide +kernel
theorem dX7_folderOf_10 : decode cX7_folderOf 10 = .ok (.if_icmp .le 11, 3) := by decide +kernel
theorem dX7_folderOf_13 : decode cX7_folderOf 13 = .ok (.new 86, 3) := by decide +kernel
theorem dX7_folderOf_16 : decode cX7_folderOf 16 = .ok (.dup, 1) := by decide +kernel
theorem dX7_folderOf_17 : decode cX7_folderOf 17 = .ok (.invokespecial 88, 3) := by decide +kernel
theorem dX7_folderOf_20 : decode cX7_folderOf 20 = .ok (.athrow, 1) := by decide +kernel
theorem dX7_folderOf_21 : decode cX7_folderOf 21 = .ok (.aload_n 0, 1) := by decide +kernel
theorem dX7_folderOf_22 : decode cX7_folderOf 22 = .ok (.iload_n 1, 1) := by decide +kernel
theorem dX7_folderOf_23 : decode cX7_folderOf 23 = .ok (.invokevirtual 89, 3) := by decide +kernel
theorem dX7_folderOf_26 : decode cX7_folderOf 26 = .ok (.istore_n 3, 1) := by decide +kernel
theorem dX7_folderOf_27 : decode cX7_folderOf 27 = .ok (.iload_n 2, 1) := by decide +kernel
theorem dX7_folderOf_28 : decode cX7_folderOf 28 = .ok (.tableswitch 48 0 2 #[28, 37, 46], 28) := by decide +kernel
theorem dX7_folderOf_56 : decode cX7_folderOf 56 = .ok (.aload_n 0, 1) := by decide +kernel
theorem dX7_folderOf_57 : decode cX7_folderOf 57 = .ok (.getfield 10, 3) := by decide +kernel
theorem dX7_folderOf_60 : decode cX7_folderOf 60 = .ok (.iload_n 3, 1) := by decide +kernel
theorem dX7_folderOf_61 : decode cX7_folderOf 61 = .ok (.invokevirtual 93, 3) := by decide +kernel
theorem dX7_folderOf_64 : decode cX7_folderOf 64 = .ok (.ireturn, 1) := by decide +kernel
theorem dX7_folderOf_65 : decode cX7_folderOf 65 = .ok (.aload_n 0, 1) := by decide +kernel
theorem dX7_folderOf_66 : decode cX7_folderOf 66 = .ok (.getfield 10, 3) := by decide +kernel
theorem dX7_folderOf_69 : decode cX7_folderOf 69 = .ok (.iload_n 3, 1) := by decide +kernel
theorem dX7_folderOf_70 : decode cX7_folderOf 70 = .ok (.invokevirtual 96, 3) := by decide +kernel
theorem dX7_folderOf_73 : decode cX7_folderOf 73 = .ok (.ireturn, 1) := by decide +kernel
theorem dX7_folderOf_74 : decode cX7_folderOf 74 = .ok (.iload_n 3, 1) := by decide +kernel
theorem dX7_folderOf_75 : decode cX7_folderOf 75 = .ok (.ireturn, 1) := by decide +kernel
theorem dX7_folderOf_76 : decode cX7_folderOf 76 = .ok (.aload_n 0, 1) := by decide +kernel
theorem dX7_folderOf_77 : decode cX7_folderOf 77 = .ok (.getfield 21, 3) := by decide +kernel
theorem dX7_folderOf_80 : decode cX7_folderOf 80 = .ok (.iload_n 1, 1) := by decide +kernel
theorem dX7_folderOf_81 : decode cX7_folderOf 81 = .ok (.invokevirtual 99, 3) := by decide +kernel
theorem dX7_folderOf_84 : decode cX7_folderOf 84 = .ok (.ireturn, 1) := by decide +kernel
set_option maxRecDepth 20000 in
theorem ggX7_rank_X7_demandKey : GoodIn wsX7_rank wsX7_demandKey := goodIn_ca (goodIn_r _ [5, 6, 7] (by decide +kernel) (by decide +kernel)) (goodIn_sub (fun _ h => List.mem_cons_of_mem _ (List.mem_append_left _ (List.mem_append_right _ h))) (by decide +kernel))
set_option maxRecDepth 20000 in
theorem gX7_rank_X7_demandKey : GoodIn wsX7_rank (va_wsS RX7 82 yX7_demandKey wsX7_demandKey) := goodIn_app (goodIn_of _ (by decide +kernel)) ggX7_rank_X7_demandKey
set_option maxRecDepth 20000 in
theorem ggX7_rank_X6_spansTo : GoodIn wsX7_rank wsX6_spansTo := goodIn_ca (goodIn_r _ [12, 13, 14, 15, 16, 11, 17, 18, 19, 20, 21, 22, 23, 24, 25, 26, 27, 28, 29, 30, 31, 32, 33, 34, 35, 36, 37, 38, 39, 40, 41, 42, 43, 44, 45, 46, 47, 48, 49, 50, 51, 52, 53, 54, 55, 56, 57, 58, 59, 60, 61, 62, 63, 64, 65, 66, 67, 68, 69, 70, 71, 72, 84, 85, 86, 87, 88, 89, 90, 91, 92, 93, 94, 95] (by decide +kernel) (by decide +kernel)) (goodIn_sub (fun _ h => List.mem_cons_of_mem _ (List.mem_append_right _ h)) (by decide +kernel))
set_option maxRecDepth 20000 in
theorem gX7_rank_X6_spansTo : GoodIn wsX7_rank (wsV RX7 102 RX6 yX6_spansTo wsX6_spansTo) := goodIn_app (goodIn_of _ (by decide +kernel)) ggX7_rank_X6_spansTo
theorem dX7_rank_0 : decode cX7_rank 0 = .ok (.iload_n 1, 1) := by decide +kernel
theorem dX7_rank_1 : decode cX7_rank 1 = .ok (.invokestatic 82, 3) := by decide +kernel
theorem dX7_rank_4 : decode cX7_rank 4 = .ok (.aload_n 0, 1) := by decide +kernel
theorem dX7_rank_5 : decode cX7_rank 5 = .ok (.getfield 21, 3) := by decide +kernel
theorem dX7_rank_8 : decode cX7_rank 8 = .ok (.iload_n 1, 1) := by decide +kernel
theorem dX7_rank_9 : decode cX7_rank 9 = .ok (.invokevirtual 102, 3) := by decide +kernel
theorem dX7_rank_12 : decode cX7_rank 12 = .ok (.ireturn, 1) := by decide +kernel
set_option maxRecDepth 20000 in
theorem ggX7_rankAgain_X7_demandKey : GoodIn wsX7_rankAgain wsX7_demandKey := goodIn_ca (goodIn_r _ [5, 6, 7] (by decide +kernel) (by decide +kernel)) (goodIn_sub (fun _ h => List.mem_cons_of_mem _ (List.mem_append_left _ (List.mem_append_right _ h))) (by decide +kernel))
set_option maxRecDepth 20000 in
theorem gX7_rankAgain_X7_demandKey : GoodIn wsX7_rankAgain (va_wsS RX7 82 yX7_demandKey wsX7_demandKey) := goodIn_app (goodIn_of _ (by decide +kernel)) ggX7_rankAgain_X7_demandKey
set_option maxRecDepth 20000 in
theorem ggX7_rankAgain_X3_lowerKeys : GoodIn wsX7_rankAgain wsX3_lowerKeys := goodIn_ca (goodIn_r _ [12, 13, 14, 26, 27, 28, 29, 30, 31] (by decide +kernel) (by decide +kernel)) (goodIn_sub (fun _ h => List.mem_cons_of_mem _ (List.mem_append_right _ h)) (by decide +kernel))
set_option maxRecDepth 20000 in
theorem gX7_rankAgain_X3_lowerKeys : GoodIn wsX7_rankAgain (wsV RX7 105 RX3 yX3_lowerKeys wsX3_lowerKeys) := goodIn_app (goodIn_of _ (by decide +kernel)) ggX7_rankAgain_X3_lowerKeys
theorem dX7_rankAgain_0 : decode cX7_rankAgain 0 = .ok (.iload_n 1, 1) := by decide +kernel
theorem dX7_rankAgain_1 : decode cX7_rankAgain 1 = .ok (.invokestatic 82, 3) := by decide +kernel
theorem dX7_rankAgain_4 : decode cX7_rankAgain 4 = .ok (.aload_n 0, 1) := by decide +kernel
theorem dX7_rankAgain_5 : decode cX7_rankAgain 5 = .ok (.getfield 10, 3) := by decide +kernel
theorem dX7_rankAgain_8 : decode cX7_rankAgain 8 = .ok (.iload_n 1, 1) := by decide +kernel
theorem dX7_rankAgain_9 : decode cX7_rankAgain 9 = .ok (.invokevirtual 105, 3) := by decide +kernel
theorem dX7_rankAgain_12 : decode cX7_rankAgain 12 = .ok (.ireturn, 1) := by decide +kernel
set_option maxRecDepth 20000 in
theorem ggX7_keyAt_X7_keyOrNone : GoodIn wsX7_keyAt wsX7_keyOrNone := goodIn_ca (goodIn_ca (goodIn_r _ [5, 6, 7, 8, 9, 10, 11, 12, 13, 14, 15, 16, 17, 18, 19, 20, 21, 22, 23, 24, 25, 26, 27, 28, 29, 30, 31, 32, 33, 34, 35, 36, 37] (by decide +kernel) (by decide +kernel)) (goodIn_sub (fun _ h => List.mem_cons_of_mem _ (List.mem_append_left _ (List.mem_append_right _ h))) (by decide +kernel))) (goodIn_sub (fun _ h => List.mem_cons_of_mem _ (List.mem_append_right _ h)) (by decide +kernel))
set_option maxRecDepth 20000 in
theorem gX7_keyAt_X7_keyOrNone : GoodIn wsX7_keyAt (wsV RX7 108 RX7 yX7_keyOrNone wsX7_keyOrNone) := goodIn_app (goodIn_of _ (by decide +kernel)) ggX7_keyAt_X7_keyOrNone
theorem dX7_keyAt_0 : decode cX7_keyAt 0 = .ok (.aload_n 0, 1) := by decide +kernel
theorem dX7_keyAt_1 : decode cX7_keyAt 1 = .ok (.iload_n 1, 1) := by decide +kernel
theorem dX7_keyAt_2 : decode cX7_keyAt 2 = .ok (.invokevirtual 108, 3) := by decide +kernel
theorem dX7_keyAt_5 : decode cX7_keyAt 5 = .ok (.ireturn, 1) := by decide +kernel
set_option maxRecDepth 20000 in
theorem ggX7_steps_X7_demandKey : GoodIn wsX7_steps wsX7_demandKey := goodIn_ca (goodIn_r _ [5, 6, 7] (by decide +kernel) (by decide +kernel)) (goodIn_sub (fun _ h => List.mem_cons_of_mem _ (List.mem_append_left _ (List.mem_append_right _ h))) (by decide +kernel))
set_option maxRecDepth 20000 in
theorem gX7_steps_X7_demandKey : GoodIn wsX7_steps (va_wsS RX7 82 yX7_demandKey wsX7_demandKey) := goodIn_app (goodIn_of _ (by decide +kernel)) ggX7_steps_X7_demandKey
set_option maxRecDepth 20000 in
theorem ggX7_steps_X6_stepsTo : GoodIn wsX7_steps wsX6_stepsTo := goodIn_ca (goodIn_r _ [12, 13, 14, 15, 16, 17, 11, 18, 19, 20, 21, 22, 23, 24, 25, 26, 27, 28, 29, 30, 31, 32, 33, 34, 35, 36, 37, 38, 39, 40, 41, 42, 43, 44, 45, 46, 47, 48, 49, 50, 51, 52, 53, 54, 55, 56, 57, 58, 59, 60, 61, 62, 63, 64, 65, 66, 67, 68, 69, 70, 71, 72, 84, 85, 86, 87, 88, 89, 90, 91, 92, 93, 94, 95] (by decide +kernel) (by decide +kernel)) (goodIn_sub (fun _ h => List.mem_cons_of_mem _ (List.mem_append_right _ h)) (by decide +kernel))
set_option maxRecDepth 20000 in
theorem gX7_steps_X6_stepsTo : GoodIn wsX7_steps (wsV RX7 99 RX6 yX6_stepsTo wsX6_stepsTo) := goodIn_app (goodIn_of _ (by decide +kernel)) ggX7_steps_X6_stepsTo
theorem dX7_steps_0 : decode cX7_steps 0 = .ok (.iload_n 1, 1) := by decide +kernel
theorem dX7_steps_1 : decode cX7_steps 1 = .ok (.invokestatic 82, 3) := by decide +kernel
theorem dX7_steps_4 : decode cX7_steps 4 = .ok (.aload_n 0, 1) := by decide +kernel
theorem dX7_steps_5 : decode cX7_steps 5 = .ok (.getfield 21, 3) := by decide +kernel
theorem dX7_steps_8 : decode cX7_steps 8 = .ok (.iload_n 1, 1) := by decide +kernel
theorem dX7_steps_9 : decode cX7_steps 9 = .ok (.invokevirtual 99, 3) := by decide +kernel
theorem dX7_steps_12 : decode cX7_steps 12 = .ok (.ireturn, 1) := by decide +kernel
set_option maxRecDepth 20000 in
theorem ggX7_stepsAgain_X7_demandKey : GoodIn wsX7_stepsAgain wsX7_demandKey := goodIn_ca (goodIn_r _ [5, 6, 7] (by decide +kernel) (by decide +kernel)) (goodIn_sub (fun _ h => List.mem_cons_of_mem _ (List.mem_append_left _ (List.mem_append_right _ h))) (by decide +kernel))
set_option maxRecDepth 20000 in
theorem gX7_stepsAgain_X7_demandKey : GoodIn wsX7_stepsAgain (va_wsS RX7 82 yX7_demandKey wsX7_demandKey) := goodIn_app (goodIn_of _ (by decide +kernel)) ggX7_stepsAgain_X7_demandKey
set_option maxRecDepth 20000 in
theorem ggX7_stepsAgain_X6_stepsBackFrom : GoodIn wsX7_stepsAgain wsX6_stepsBackFrom := goodIn_ca (goodIn_r _ [12, 13, 14, 15, 16, 17, 18, 19, 20, 21, 22, 23, 24, 25, 26, 27, 28, 29, 30, 31, 32, 33, 34, 35, 36, 37, 38, 39, 40, 41, 42, 43, 44, 45, 46, 47, 48, 49, 50, 51, 52, 53, 54, 55, 56, 57, 58, 59, 60, 61, 62, 63, 75, 76, 77, 78, 79, 80, 81, 82, 83, 84, 85, 86] (by decide +kernel) (by decide +kernel)) (goodIn_sub (fun _ h => List.mem_cons_of_mem _ (List.mem_append_right _ h)) (by decide +kernel))
set_option maxRecDepth 20000 in
theorem gX7_stepsAgain_X6_stepsBackFrom : GoodIn wsX7_stepsAgain (wsV RX7 111 RX6 yX6_stepsBackFrom wsX6_stepsBackFrom) := goodIn_app (goodIn_of _ (by decide +kernel)) ggX7_stepsAgain_X6_stepsBackFrom
theorem dX7_stepsAgain_0 : decode cX7_stepsAgain 0 = .ok (.iload_n 1, 1) := by decide +kernel
theorem dX7_stepsAgain_1 : decode cX7_stepsAgain 1 = .ok (.invokestatic 82, 3) := by decide +kernel
theorem dX7_stepsAgain_4 : decode cX7_stepsAgain 4 = .ok (.aload_n 0, 1) := by decide +kernel
theorem dX7_stepsAgain_5 : decode cX7_stepsAgain 5 = .ok (.getfield 21, 3) := by decide +kernel
theorem dX7_stepsAgain_8 : decode cX7_stepsAgain 8 = .ok (.iload_n 1, 1) := by decide +kernel
theorem dX7_stepsAgain_9 : decode cX7_stepsAgain 9 = .ok (.invokevirtual 111, 3) := by decide +kernel
theorem dX7_stepsAgain_12 : decode cX7_stepsAgain 12 = .ok (.ireturn, 1) := by decide +kernel
set_option maxRecDepth 20000 in
theorem ggX7_placeOf_X7_demandKey : GoodIn wsX7_placeOf wsX7_demandKey := goodIn_ca (goodIn_r _ [8, 9, 10] (by decide +kernel) (by decide +kernel)) (goodIn_sub (fun _ h => List.mem_cons_of_mem _ (List.mem_append_left _ (List.mem_append_right _ h))) (by decide +kernel))
set_option maxRecDepth 20000 in
theorem gX7_placeOf_X7_demandKey : GoodIn wsX7_placeOf (va_wsS RX7 82 yX7_demandKey wsX7_demandKey) := goodIn_app (goodIn_of _ (by decide +kernel)) ggX7_placeOf_X7_demandKey
set_option maxRecDepth 20000 in
theorem ggX7_placeOf_X6_reaches : GoodIn wsX7_placeOf wsX6_reaches := goodIn_ca (goodIn_r _ [15, 16, 17, 18, 19, 20, 21, 22, 23, 24, 25, 26, 27, 28, 29, 30, 31, 32, 33, 34, 35, 36, 37, 38, 39, 40, 41, 42, 43, 44, 45, 46, 47, 48, 49, 50, 51, 52, 53, 54, 55, 56, 14, 57, 58, 59, 60, 61, 62, 63, 64, 65, 66, 67, 68, 69, 70, 71, 91, 92, 93, 94, 95, 96, 97, 98, 99, 100, 101, 102] (by decide +kernel) (by decide +kernel)) (goodIn_sub (fun _ h => List.mem_cons_of_mem _ (List.mem_append_right _ h)) (by decide +kernel))
set_option maxRecDepth 20000 in
theorem gX7_placeOf_X6_reaches : GoodIn wsX7_placeOf (wsV RX7 114 RX6 yX6_reaches wsX6_reaches) := goodIn_app (goodIn_of _ (by decide +kernel)) ggX7_placeOf_X6_reaches
set_option maxRecDepth 20000 in
theorem ggX7_placeOf_X6_place : GoodIn wsX7_placeOf wsX6_place := goodIn_r _ [75, 16, 91, 92, 93, 94, 95, 96] (by decide +kernel) (by decide +kernel)
set_option maxRecDepth 20000 in
theorem gX7_placeOf_X6_place : GoodIn wsX7_placeOf (wsV RX7 121 RX6 yX6_place wsX6_place) := goodIn_app (goodIn_of _ (by decide +kernel)) ggX7_placeOf_X6_place
set_option maxRecDepth 20000 in
theorem ggX7_placeOf_X3_keyOf : GoodIn wsX7_placeOf wsX3_keyOf := goodIn_ca (goodIn_r _ [79, 70, 41, 42, 43, 25, 44, 31, 97, 98, 99, 100, 101, 102] (by decide +kernel) (by decide +kernel)) (goodIn_sub (fun _ h => List.mem_cons_of_mem _ (List.mem_append_right _ h)) (by decide +kernel))
set_option maxRecDepth 20000 in
theorem gX7_placeOf_X3_keyOf : GoodIn wsX7_placeOf (wsV RX7 124 RX3 yX3_keyOf wsX3_keyOf) := goodIn_app (goodIn_of _ (by decide +kernel)) ggX7_placeOf_X3_keyOf
theorem dX7_placeOf_0 : decode cX7_placeOf 0 = .ok (.iload_n 1, 1) := by decide +kernel
theorem dX7_placeOf_1 : decode cX7_placeOf 1 = .ok (.invokestatic 82, 3) := by decide +kernel
theorem dX7_placeOf_4 : decode cX7_placeOf 4 = .ok (.iload_n 2, 1) := by decide +kernel
theorem dX7_placeOf_5 : decode cX7_placeOf 5 = .ok (.ifCond .lt 15, 3) := by decide +kernel
theorem dX7_placeOf_8 : decode cX7_placeOf 8 = .ok (.aload_n 0, 1) := by decide +kernel
theorem dX7_placeOf_9 : decode cX7_placeOf 9 = .ok (.getfield 21, 3) := by decide +kernel
theorem dX7_placeOf_12 : decode cX7_placeOf 12 = .ok (.iload_n 1, 1) := by decide +kernel
theorem dX7_placeOf_13 : decode cX7_placeOf 13 = .ok (.iload_n 2, 1) := by decide +kernel
theorem dX7_placeOf_14 : decode cX7_placeOf 14 = .ok (.invokevirtual 114, 3) := by decide +kernel
theorem dX7_placeOf_17 : decode cX7_placeOf 17 = .ok (.ifCond .ne 11, 3) := by decide +kernel
theorem dX7_placeOf_20 : decode cX7_placeOf 20 = .ok (.new 118, 3) := by decide +kernel
theorem dX7_placeOf_23 : decode cX7_placeOf 23 = .ok (.dup, 1) := by decide +kernel
theorem dX7_placeOf_24 : decode cX7_placeOf 24 = .ok (.invokespecial 120, 3) := by decide +kernel
theorem dX7_placeOf_27 : decode cX7_placeOf 27 = .ok (.athrow, 1) := by decide +kernel
theorem dX7_placeOf_28 : decode cX7_placeOf 28 = .ok (.aload_n 0, 1) := by decide +kernel
theorem dX7_placeOf_29 : decode cX7_placeOf 29 = .ok (.getfield 10, 3) := by decide +kernel
theorem dX7_placeOf_32 : decode cX7_placeOf 32 = .ok (.aload_n 0, 1) := by decide +kernel
theorem dX7_placeOf_33 : decode cX7_placeOf 33 = .ok (.getfield 21, 3) := by decide +kernel
theorem dX7_placeOf_36 : decode cX7_placeOf 36 = .ok (.invokevirtual 121, 3) := by decide +kernel
theorem dX7_placeOf_39 : decode cX7_placeOf 39 = .ok (.invokevirtual 124, 3) := by decide +kernel
theorem dX7_placeOf_42 : decode cX7_placeOf 42 = .ok (.ireturn, 1) := by decide +kernel
set_option maxRecDepth 20000 in
theorem ggX7_falls_X7_demandKey : GoodIn wsX7_falls wsX7_demandKey := goodIn_ca (goodIn_r _ [5, 6, 7] (by decide +kernel) (by decide +kernel)) (goodIn_sub (fun _ h => List.mem_cons_of_mem _ (List.mem_append_left _ (List.mem_append_right _ h))) (by decide +kernel))
set_option maxRecDepth 20000 in
theorem gX7_falls_X7_demandKey : GoodIn wsX7_falls (va_wsS RX7 82 yX7_demandKey wsX7_demandKey) := goodIn_app (goodIn_of _ (by decide +kernel)) ggX7_falls_X7_demandKey
set_option maxRecDepth 20000 in
theorem ggX7_falls_X6_fallsTo : GoodIn wsX7_falls wsX6_fallsTo := goodIn_ca (goodIn_r _ [12, 13, 14, 15, 16, 11, 17, 18, 19, 20, 21, 22, 23, 24, 25, 26, 27, 28, 29, 30, 31, 32, 33, 34, 35, 36, 37, 38, 39, 40, 41, 42, 43, 44, 45, 46, 47, 48, 49, 50, 51, 52, 53, 54, 55, 56, 57, 58, 59, 60, 61, 62, 63, 64, 65, 66, 67, 68, 69, 70, 71, 72, 84, 85, 86, 87, 88, 89, 90, 91, 92, 93, 94, 95] (by decide +kernel) (by decide +kernel)) (goodIn_sub (fun _ h => List.mem_cons_of_mem _ (List.mem_append_right _ h)) (by decide +kernel))
set_option maxRecDepth 20000 in
theorem gX7_falls_X6_fallsTo : GoodIn wsX7_falls (wsV RX7 127 RX6 yX6_fallsTo wsX6_fallsTo) := goodIn_app (goodIn_of _ (by decide +kernel)) ggX7_falls_X6_fallsTo
theorem dX7_falls_0 : decode cX7_falls 0 = .ok (.iload_n 1, 1) := by decide +kernel
theorem dX7_falls_1 : decode cX7_falls 1 = .ok (.invokestatic 82, 3) := by decide +kernel
theorem dX7_falls_4 : decode cX7_falls 4 = .ok (.aload_n 0, 1) := by decide +kernel
theorem dX7_falls_5 : decode cX7_falls 5 = .ok (.getfield 21, 3) := by decide +kernel
theorem dX7_falls_8 : decode cX7_falls 8 = .ok (.iload_n 1, 1) := by decide +kernel
theorem dX7_falls_9 : decode cX7_falls 9 = .ok (.invokevirtual 127, 3) := by decide +kernel
theorem dX7_falls_12 : decode cX7_falls 12 = .ok (.ireturn, 1) := by decide +kernel
set_option maxRecDepth 20000 in
theorem ggX7_floor_X7_demandKey : GoodIn wsX7_floor wsX7_demandKey := goodIn_ca (goodIn_r _ [5, 6, 7] (by decide +kernel) (by decide +kernel)) (goodIn_sub (fun _ h => List.mem_cons_of_mem _ (List.mem_append_left _ (List.mem_append_left _ (List.mem_append_right _ h)))) (by decide +kernel))
set_option maxRecDepth 20000 in
theorem gX7_floor_X7_demandKey : GoodIn wsX7_floor (va_wsS RX7 82 yX7_demandKey wsX7_demandKey) := goodIn_app (goodIn_of _ (by decide +kernel)) ggX7_floor_X7_demandKey
set_option maxRecDepth 20000 in
theorem ggX7_floor_X3_lowerKeys : GoodIn wsX7_floor wsX3_lowerKeys := goodIn_ca (goodIn_r _ [12, 13, 14, 41, 42, 43, 44, 45, 46] (by decide +kernel) (by decide +kernel)) (goodIn_sub (fun _ h => List.mem_cons_of_mem _ (List.mem_append_left _ (List.mem_append_right _ h))) (by decide +kernel))
set_option maxRecDepth 20000 in
theorem gX7_floor_X3_lowerKeys : GoodIn wsX7_floor (wsV RX7 105 RX3 yX3_lowerKeys wsX3_lowerKeys) := goodIn_app (goodIn_of _ (by decide +kernel)) ggX7_floor_X3_lowerKeys
set_option maxRecDepth 20000 in
theorem ggX7_floor_X7_keyOrNone : GoodIn wsX7_floor wsX7_keyOrNone := goodIn_ca (goodIn_ca (goodIn_r _ [18, 19, 20, 1, 21, 22, 23, 11, 24, 13, 25, 26, 27, 28, 14, 29, 30, 31, 32, 33, 34, 35, 36, 37, 38, 39, 40, 41, 42, 43, 44, 45, 46] (by decide +kernel) (by decide +kernel)) (goodIn_sub (fun _ h => List.mem_cons_of_mem _ (List.mem_append_right _ h)) (by decide +kernel))) (goodIn_sub (fun _ h => List.mem_cons_of_mem _ (List.mem_append_left _ (List.mem_append_right _ h))) (by decide +kernel))
set_option maxRecDepth 20000 in
theorem gX7_floor_X7_keyOrNone : GoodIn wsX7_floor (wsV RX7 108 RX7 yX7_keyOrNone wsX7_keyOrNone) := goodIn_app (goodIn_of _ (by decide +kernel)) ggX7_floor_X7_keyOrNone
theorem dX7_floor_0 : decode cX7_floor 0 = .ok (.iload_n 1, 1) := by decide +kernel
theorem dX7_floor_1 : decode cX7_floor 1 = .ok (.invokestatic 82, 3) := by decide +kernel
theorem dX7_floor_4 : decode cX7_floor 4 = .ok (.aload_n 0, 1) := by decide +kernel
theorem dX7_floor_5 : decode cX7_floor 5 = .ok (.aload_n 0, 1) := by decide +kernel
theorem dX7_floor_6 : decode cX7_floor 6 = .ok (.getfield 10, 3) := by decide +kernel
theorem dX7_floor_9 : decode cX7_floor 9 = .ok (.iload_n 1, 1) := by decide +kernel
theorem dX7_floor_10 : decode cX7_floor 10 = .ok (.iconst 1, 1) := by decide +kernel
theorem dX7_floor_11 : decode cX7_floor 11 = .ok (.iadd, 1) := by decide +kernel
theorem dX7_floor_12 : decode cX7_floor 12 = .ok (.invokevirtual 105, 3) := by decide +kernel
theorem dX7_floor_15 : decode cX7_floor 15 = .ok (.iconst 1, 1) := by decide +kernel
theorem dX7_floor_16 : decode cX7_floor 16 = .ok (.isub, 1) := by decide +kernel
theorem dX7_floor_17 : decode cX7_floor 17 = .ok (.invokevirtual 108, 3) := by decide +kernel
theorem dX7_floor_20 : decode cX7_floor 20 = .ok (.ireturn, 1) := by decide +kernel
set_option maxRecDepth 20000 in
theorem ggX7_ceiling_X7_demandKey : GoodIn wsX7_ceiling wsX7_demandKey := goodIn_ca (goodIn_r _ [5, 6, 7] (by decide +kernel) (by decide +kernel)) (goodIn_sub (fun _ h => List.mem_cons_of_mem _ (List.mem_append_left _ (List.mem_append_left _ (List.mem_append_right _ h)))) (by decide +kernel))
set_option maxRecDepth 20000 in
theorem gX7_ceiling_X7_demandKey : GoodIn wsX7_ceiling (va_wsS RX7 82 yX7_demandKey wsX7_demandKey) := goodIn_app (goodIn_of _ (by decide +kernel)) ggX7_ceiling_X7_demandKey
set_option maxRecDepth 20000 in
theorem ggX7_ceiling_X3_lowerKeys : GoodIn wsX7_ceiling wsX3_lowerKeys := goodIn_ca (goodIn_r _ [12, 13, 14, 41, 42, 43, 44, 45, 46] (by decide +kernel) (by decide +kernel)) (goodIn_sub (fun _ h => List.mem_cons_of_mem _ (List.mem_append_left _ (List.mem_append_right _ h))) (by decide +kernel))
set_option maxRecDepth 20000 in
theorem gX7_ceiling_X3_lowerKeys : GoodIn wsX7_ceiling (wsV RX7 105 RX3 yX3_lowerKeys wsX3_lowerKeys) := goodIn_app (goodIn_of _ (by decide +kernel)) ggX7_ceiling_X3_lowerKeys
set_option maxRecDepth 20000 in
theorem ggX7_ceiling_X7_keyOrNone : GoodIn wsX7_ceiling wsX7_keyOrNone := goodIn_ca (goodIn_ca (goodIn_r _ [18, 19, 20, 1, 21, 22, 23, 11, 24, 13, 25, 26, 27, 28, 14, 29, 30, 31, 32, 33, 34, 35, 36, 37, 38, 39, 40, 41, 42, 43, 44, 45, 46] (by decide +kernel) (by decide +kernel)) (goodIn_sub (fun _ h => List.mem_cons_of_mem _ (List.mem_append_right _ h)) (by decide +kernel))) (goodIn_sub (fun _ h => List.mem_cons_of_mem _ (List.mem_append_left _ (List.mem_append_right _ h))) (by decide +kernel))
set_option maxRecDepth 20000 in
theorem gX7_ceiling_X7_keyOrNone : GoodIn wsX7_ceiling (wsV RX7 108 RX7 yX7_keyOrNone wsX7_keyOrNone) := goodIn_app (goodIn_of _ (by decide +kernel)) ggX7_ceiling_X7_keyOrNone
theorem dX7_ceiling_0 : decode cX7_ceiling 0 = .ok (.iload_n 1, 1) := by decide +kernel
theorem dX7_ceiling_1 : decode cX7_ceiling 1 = .ok (.invokestatic 82, 3) := by decide +kernel
theorem dX7_ceiling_4 : decode cX7_ceiling 4 = .ok (.aload_n 0, 1) := by decide +kernel
theorem dX7_ceiling_5 : decode cX7_ceiling 5 = .ok (.aload_n 0, 1) := by decide +kernel
theorem dX7_ceiling_6 : decode cX7_ceiling 6 = .ok (.getfield 10, 3) := by decide +kernel
theorem dX7_ceiling_9 : decode cX7_ceiling 9 = .ok (.iload_n 1, 1) := by decide +kernel
theorem dX7_ceiling_10 : decode cX7_ceiling 10 = .ok (.invokevirtual 105, 3) := by decide +kernel
theorem dX7_ceiling_13 : decode cX7_ceiling 13 = .ok (.invokevirtual 108, 3) := by decide +kernel
theorem dX7_ceiling_16 : decode cX7_ceiling 16 = .ok (.ireturn, 1) := by decide +kernel
set_option maxRecDepth 20000 in
theorem ggX7_count_X7_demandRange : GoodIn wsX7_count wsX7_demandRange := goodIn_ca (goodIn_r _ [5, 6, 7, 8, 9, 4, 10] (by decide +kernel) (by decide +kernel)) (goodIn_sub (fun _ h => List.mem_cons_of_mem _ (List.mem_append_left _ (List.mem_append_right _ h))) (by decide +kernel))
set_option maxRecDepth 20000 in
theorem gX7_count_X7_demandRange : GoodIn wsX7_count (va_wsS RX7 130 yX7_demandRange wsX7_demandRange) := goodIn_app (goodIn_of _ (by decide +kernel)) ggX7_count_X7_demandRange
set_option maxRecDepth 20000 in
theorem ggX7_count_X6_spansTo : GoodIn wsX7_count wsX6_spansTo := goodIn_ca (goodIn_r _ [15, 16, 17, 18, 19, 14, 20, 21, 22, 23, 24, 25, 26, 27, 28, 29, 30, 31, 32, 33, 34, 35, 36, 37, 38, 39, 40, 41, 42, 43, 44, 45, 46, 47, 48, 49, 50, 51, 52, 53, 54, 55, 56, 57, 58, 59, 60, 61, 62, 63, 64, 65, 66, 67, 68, 69, 70, 71, 72, 73, 74, 75, 87, 88, 89, 90, 91, 92, 93, 94, 95, 96, 97, 98] (by decide +kernel) (by decide +kernel)) (goodIn_sub (fun _ h => List.mem_cons_of_mem _ (List.mem_append_right _ h)) (by decide +kernel))
set_option maxRecDepth 20000 in
theorem gX7_count_X6_spansTo : GoodIn wsX7_count (wsV RX7 102 RX6 yX6_spansTo wsX6_spansTo) := goodIn_app (goodIn_of _ (by decide +kernel)) ggX7_count_X6_spansTo
theorem dX7_count_0 : decode cX7_count 0 = .ok (.iload_n 1, 1) := by decide +kernel
theorem dX7_count_1 : decode cX7_count 1 = .ok (.iload_n 2, 1) := by decide +kernel
theorem dX7_count_2 : decode cX7_count 2 = .ok (.invokestatic 130, 3) := by decide +kernel
theorem dX7_count_5 : decode cX7_count 5 = .ok (.aload_n 0, 1) := by decide +kernel
theorem dX7_count_6 : decode cX7_count 6 = .ok (.getfield 21, 3) := by decide +kernel
theorem dX7_count_9 : decode cX7_count 9 = .ok (.iload_n 2, 1) := by decide +kernel
theorem dX7_count_10 : decode cX7_count 10 = .ok (.iconst 1, 1) := by decide +kernel
theorem dX7_count_11 : decode cX7_count 11 = .ok (.iadd, 1) := by decide +kernel
theorem dX7_count_12 : decode cX7_count 12 = .ok (.invokevirtual 102, 3) := by decide +kernel
theorem dX7_count_15 : decode cX7_count 15 = .ok (.aload_n 0, 1) := by decide +kernel
theorem dX7_count_16 : decode cX7_count 16 = .ok (.getfield 21, 3) := by decide +kernel
theorem dX7_count_19 : decode cX7_count 19 = .ok (.iload_n 1, 1) := by decide +kernel
theorem dX7_count_20 : decode cX7_count 20 = .ok (.invokevirtual 102, 3) := by decide +kernel
theorem dX7_count_23 : decode cX7_count 23 = .ok (.isub, 1) := by decide +kernel
theorem dX7_count_24 : decode cX7_count 24 = .ok (.ireturn, 1) := by decide +kernel
set_option maxRecDepth 20000 in
theorem ggX7_countAgain_X7_demandRange : GoodIn wsX7_countAgain wsX7_demandRange := goodIn_ca (goodIn_r _ [5, 6, 7, 8, 9, 4, 10] (by decide +kernel) (by decide +kernel)) (goodIn_sub (fun _ h => List.mem_cons_of_mem _ (List.mem_append_left _ (List.mem_append_right _ h))) (by decide +kernel))
set_option maxRecDepth 20000 in
theorem gX7_countAgain_X7_demandRange : GoodIn wsX7_countAgain (va_wsS RX7 130 yX7_demandRange wsX7_demandRange) := goodIn_app (goodIn_of _ (by decide +kernel)) ggX7_countAgain_X7_demandRange
set_option maxRecDepth 20000 in
theorem ggX7_countAgain_X3_lowerKeys : GoodIn wsX7_countAgain wsX3_lowerKeys := goodIn_ca (goodIn_r _ [15, 16, 17, 41, 42, 43, 44, 45, 46] (by decide +kernel) (by decide +kernel)) (goodIn_sub (fun _ h => List.mem_cons_of_mem _ (List.mem_append_right _ h)) (by decide +kernel))
set_option maxRecDepth 20000 in
theorem gX7_countAgain_X3_lowerKeys : GoodIn wsX7_countAgain (wsV RX7 105 RX3 yX3_lowerKeys wsX3_lowerKeys) := goodIn_app (goodIn_of _ (by decide +kernel)) ggX7_countAgain_X3_lowerKeys
set_option maxRecDepth 20000 in
theorem ggX7_countAgain_X3_size : GoodIn wsX7_countAgain wsX3_size := goodIn_r _ [21, 16, 41, 42, 43, 44, 45, 46] (by decide +kernel) (by decide +kernel)
set_option maxRecDepth 20000 in
theorem gX7_countAgain_X3_size : GoodIn wsX7_countAgain (wsV RX7 134 RX3 yX3_size wsX3_size) := goodIn_app (goodIn_of _ (by decide +kernel)) ggX7_countAgain_X3_size
set_option maxRecDepth 20000 in
theorem ggX7_countAgain_X3_keyOf : GoodIn wsX7_countAgain wsX3_keyOf := goodIn_ca (goodIn_r _ [25, 17, 26, 27, 28, 14, 29, 16, 41, 42, 43, 44, 45, 46] (by decide +kernel) (by decide +kernel)) (goodIn_sub (fun _ h => List.mem_cons_of_mem _ (List.mem_append_right _ h)) (by decide +kernel))
set_option maxRecDepth 20000 in
theorem gX7_countAgain_X3_keyOf : GoodIn wsX7_countAgain (wsV RX7 124 RX3 yX3_keyOf wsX3_keyOf) := goodIn_app (goodIn_of _ (by decide +kernel)) ggX7_countAgain_X3_keyOf
theorem dX7_countAgain_0 : decode cX7_countAgain 0 = .ok (.iload_n 1, 1) := by decide +kernel
theorem dX7_countAgain_1 : decode cX7_countAgain 1 = .ok (.iload_n 2, 1) := by decide +kernel
theorem dX7_countAgain_2 : decode cX7_countAgain 2 = .ok (.invokestatic 130, 3) := by decide +kernel
theorem dX7_countAgain_5 : decode cX7_countAgain 5 = .ok (.iconst 0, 1) := by decide +kernel
theorem dX7_countAgain_6 : decode cX7_countAgain 6 = .ok (.istore_n 3, 1) := by decide +kernel
theorem dX7_countAgain_7 : decode cX7_countAgain 7 = .ok (.aload_n 0, 1) := by decide +kernel
theorem dX7_countAgain_8 : decode cX7_countAgain 8 = .ok (.getfield 10, 3) := by decide +kernel
theorem dX7_countAgain_11 : decode cX7_countAgain 11 = .ok (.iload_n 1, 1) := by decide +kernel
theorem dX7_countAgain_12 : decode cX7_countAgain 12 = .ok (.invokevirtual 105, 3) := by decide +kernel
theorem dX7_countAgain_15 : decode cX7_countAgain 15 = .ok (.istore 4, 2) := by decide +kernel
theorem dX7_countAgain_17 : decode cX7_countAgain 17 = .ok (.iload 4, 2) := by decide +kernel
theorem dX7_countAgain_19 : decode cX7_countAgain 19 = .ok (.aload_n 0, 1) := by decide +kernel
theorem dX7_countAgain_20 : decode cX7_countAgain 20 = .ok (.getfield 10, 3) := by decide +kernel
theorem dX7_countAgain_23 : decode cX7_countAgain 23 = .ok (.invokevirtual 134, 3) := by decide +kernel
theorem dX7_countAgain_26 : decode cX7_countAgain 26 = .ok (.if_icmp .ge 25, 3) := by decide +kernel
theorem dX7_countAgain_29 : decode cX7_countAgain 29 = .ok (.aload_n 0, 1) := by decide +kernel
theorem dX7_countAgain_30 : decode cX7_countAgain 30 = .ok (.getfield 10, 3) := by decide +kernel
theorem dX7_countAgain_33 : decode cX7_countAgain 33 = .ok (.iload 4, 2) := by decide +kernel
theorem dX7_countAgain_35 : decode cX7_countAgain 35 = .ok (.invokevirtual 124, 3) := by decide +kernel
theorem dX7_countAgain_38 : decode cX7_countAgain 38 = .ok (.iload_n 2, 1) := by decide +kernel
theorem dX7_countAgain_39 : decode cX7_countAgain 39 = .ok (.if_icmp .gt 12, 3) := by decide +kernel
theorem dX7_countAgain_42 : decode cX7_countAgain 42 = .ok (.iinc 3 1, 3) := by decide +kernel
theorem dX7_countAgain_45 : decode cX7_countAgain 45 = .ok (.iinc 4 1, 3) := by decide +kernel
theorem dX7_countAgain_48 : decode cX7_countAgain 48 = .ok (.goto (-31), 3) := by decide +kernel
theorem dX7_countAgain_51 : decode cX7_countAgain 51 = .ok (.iload_n 3, 1) := by decide +kernel
theorem dX7_countAgain_52 : decode cX7_countAgain 52 = .ok (.ireturn, 1) := by decide +kernel
set_option maxRecDepth 20000 in
theorem ggX7_weightIn_X7_demandRange : GoodIn wsX7_weightIn wsX7_demandRange := goodIn_ca (goodIn_r _ [5, 6, 7, 8, 9, 4, 10] (by decide +kernel) (by decide +kernel)) (goodIn_sub (fun _ h => List.mem_cons_of_mem _ (List.mem_append_left _ (List.mem_append_right _ h))) (by decide +kernel))
set_option maxRecDepth 20000 in
theorem gX7_weightIn_X7_demandRange : GoodIn wsX7_weightIn (va_wsS RX7 130 yX7_demandRange wsX7_demandRange) := goodIn_app (goodIn_of _ (by decide +kernel)) ggX7_weightIn_X7_demandRange
set_option maxRecDepth 20000 in
theorem ggX7_weightIn_X3_lowerKeys : GoodIn wsX7_weightIn wsX3_lowerKeys := goodIn_ca (goodIn_r _ [15, 16, 17, 46, 47, 48, 49, 50, 51] (by decide +kernel) (by decide +kernel)) (goodIn_sub (fun _ h => List.mem_cons_of_mem _ (List.mem_append_right _ h)) (by decide +kernel))
set_option maxRecDepth 20000 in
theorem gX7_weightIn_X3_lowerKeys : GoodIn wsX7_weightIn (wsV RX7 105 RX3 yX3_lowerKeys wsX3_lowerKeys) := goodIn_app (goodIn_of _ (by decide +kernel)) ggX7_weightIn_X3_lowerKeys
set_option maxRecDepth 20000 in
theorem ggX7_weightIn_X3_size : GoodIn wsX7_weightIn wsX3_size := goodIn_r _ [21, 16, 46, 47, 48, 49, 50, 51] (by decide +kernel) (by decide +kernel)
set_option maxRecDepth 20000 in
theorem gX7_weightIn_X3_size : GoodIn wsX7_weightIn (wsV RX7 134 RX3 yX3_size wsX3_size) := goodIn_app (goodIn_of _ (by decide +kernel)) ggX7_weightIn_X3_size
set_option maxRecDepth 20000 in
theorem ggX7_weightIn_X3_keyOf : GoodIn wsX7_weightIn wsX3_keyOf := goodIn_ca (goodIn_r _ [25, 17, 26, 27, 28, 14, 29, 16, 46, 47, 48, 49, 50, 51] (by decide +kernel) (by decide +kernel)) (goodIn_sub (fun _ h => List.mem_cons_of_mem _ (List.mem_append_right _ h)) (by decide +kernel))
set_option maxRecDepth 20000 in
theorem gX7_weightIn_X3_keyOf : GoodIn wsX7_weightIn (wsV RX7 124 RX3 yX3_keyOf wsX3_keyOf) := goodIn_app (goodIn_of _ (by decide +kernel)) ggX7_weightIn_X3_keyOf
set_option maxRecDepth 20000 in
theorem ggX7_weightIn_X3_weightOf : GoodIn wsX7_weightIn wsX3_weightOf := goodIn_ca (goodIn_r _ [33, 34, 26, 27, 28, 14, 29, 16, 46, 47, 48, 49, 50, 51] (by decide +kernel) (by decide +kernel)) (goodIn_sub (fun _ h => List.mem_cons_of_mem _ (List.mem_append_right _ h)) (by decide +kernel))
set_option maxRecDepth 20000 in
theorem gX7_weightIn_X3_weightOf : GoodIn wsX7_weightIn (wsV RX7 93 RX3 yX3_weightOf wsX3_weightOf) := goodIn_app (goodIn_of _ (by decide +kernel)) ggX7_weightIn_X3_weightOf
theorem dX7_weightIn_0 : decode cX7_weightIn 0 = .ok (.iload_n 1, 1) := by decide +kernel
theorem dX7_weightIn_1 : decode cX7_weightIn 1 = .ok (.iload_n 2, 1) := by decide +kernel
theorem dX7_weightIn_2 : decode cX7_weightIn 2 = .ok (.invokestatic 130, 3) := by decide +kernel
theorem dX7_weightIn_5 : decode cX7_weightIn 5 = .ok (.iconst 0, 1) := by decide +kernel
theorem dX7_weightIn_6 : decode cX7_weightIn 6 = .ok (.istore_n 3, 1) := by decide +kernel
theorem dX7_weightIn_7 : decode cX7_weightIn 7 = .ok (.aload_n 0, 1) := by decide +kernel
theorem dX7_weightIn_8 : decode cX7_weightIn 8 = .ok (.getfield 10, 3) := by decide +kernel
theorem dX7_weightIn_11 : decode cX7_weightIn 11 = .ok (.iload_n 1, 1) := by decide +kernel
theorem dX7_weightIn_12 : decode cX7_weightIn 12 = .ok (.invokevirtual 105, 3) := by decide +kernel
theorem dX7_weightIn_15 : decode cX7_weightIn 15 = .ok (.istore 4, 2) := by decide +kernel
theorem dX7_weightIn_17 : decode cX7_weightIn 17 = .ok (.iload 4, 2) := by decide +kernel
theorem dX7_weightIn_19 : decode cX7_weightIn 19 = .ok (.aload_n 0, 1) := by decide +kernel
theorem dX7_weightIn_20 : decode cX7_weightIn 20 = .ok (.getfield 10, 3) := by decide +kernel
theorem dX7_weightIn_23 : decode cX7_weightIn 23 = .ok (.invokevirtual 134, 3) := by decide +kernel
theorem dX7_weightIn_26 : decode cX7_weightIn 26 = .ok (.if_icmp .ge 34, 3) := by decide +kernel
theorem dX7_weightIn_29 : decode cX7_weightIn 29 = .ok (.aload_n 0, 1) := by decide +kernel
theorem dX7_weightIn_30 : decode cX7_weightIn 30 = .ok (.getfield 10, 3) := by decide +kernel
theorem dX7_weightIn_33 : decode cX7_weightIn 33 = .ok (.iload 4, 2) := by decide +kernel
theorem dX7_weightIn_35 : decode cX7_weightIn 35 = .ok (.invokevirtual 124, 3) := by decide +kernel
theorem dX7_weightIn_38 : decode cX7_weightIn 38 = .ok (.iload_n 2, 1) := by decide +kernel
theorem dX7_weightIn_39 : decode cX7_weightIn 39 = .ok (.if_icmp .gt 21, 3) := by decide +kernel
theorem dX7_weightIn_42 : decode cX7_weightIn 42 = .ok (.iload_n 3, 1) := by decide +kernel
theorem dX7_weightIn_43 : decode cX7_weightIn 43 = .ok (.aload_n 0, 1) := by decide +kernel
theorem dX7_weightIn_44 : decode cX7_weightIn 44 = .ok (.getfield 10, 3) := by decide +kernel
theorem dX7_weightIn_47 : decode cX7_weightIn 47 = .ok (.iload 4, 2) := by decide +kernel
theorem dX7_weightIn_49 : decode cX7_weightIn 49 = .ok (.invokevirtual 93, 3) := by decide +kernel
theorem dX7_weightIn_52 : decode cX7_weightIn 52 = .ok (.iadd, 1) := by decide +kernel
theorem dX7_weightIn_53 : decode cX7_weightIn 53 = .ok (.istore_n 3, 1) := by decide +kernel
theorem dX7_weightIn_54 : decode cX7_weightIn 54 = .ok (.iinc 4 1, 3) := by decide +kernel
theorem dX7_weightIn_57 : decode cX7_weightIn 57 = .ok (.goto (-40), 3) := by decide +kernel
theorem dX7_weightIn_60 : decode cX7_weightIn 60 = .ok (.iload_n 3, 1) := by decide +kernel
theorem dX7_weightIn_61 : decode cX7_weightIn 61 = .ok (.ireturn, 1) := by decide +kernel
set_option maxRecDepth 20000 in
theorem ggX7_heaviestIn_X7_demandRange : GoodIn wsX7_heaviestIn wsX7_demandRange := goodIn_ca (goodIn_r _ [5, 6, 7, 8, 9, 4, 10] (by decide +kernel) (by decide +kernel)) (goodIn_sub (fun _ h => List.mem_cons_of_mem _ (List.mem_append_left _ (List.mem_append_left _ (List.mem_append_right _ h)))) (by decide +kernel))
set_option maxRecDepth 20000 in
theorem gX7_heaviestIn_X7_demandRange : GoodIn wsX7_heaviestIn (va_wsS RX7 130 yX7_demandRange wsX7_demandRange) := goodIn_app (goodIn_of _ (by decide +kernel)) ggX7_heaviestIn_X7_demandRange
set_option maxRecDepth 20000 in
theorem ggX7_heaviestIn_X3_lowerKeys : GoodIn wsX7_heaviestIn wsX3_lowerKeys := goodIn_ca (goodIn_r _ [15, 16, 17, 53, 54, 55, 56, 57, 58] (by decide +kernel) (by decide +kernel)) (goodIn_sub (fun _ h => List.mem_cons_of_mem _ (List.mem_append_left _ (List.mem_append_right _ h))) (by decide +kernel))
set_option maxRecDepth 20000 in
theorem gX7_heaviestIn_X3_lowerKeys : GoodIn wsX7_heaviestIn (wsV RX7 105 RX3 yX3_lowerKeys wsX3_lowerKeys) := goodIn_app (goodIn_of _ (by decide +kernel)) ggX7_heaviestIn_X3_lowerKeys
set_option maxRecDepth 20000 in
theorem ggX7_heaviestIn_X3_size : GoodIn wsX7_heaviestIn wsX3_size := goodIn_r _ [21, 16, 53, 54, 55, 56, 57, 58] (by decide +kernel) (by decide +kernel)
set_option maxRecDepth 20000 in
theorem gX7_heaviestIn_X3_size : GoodIn wsX7_heaviestIn (wsV RX7 134 RX3 yX3_size wsX3_size) := goodIn_app (goodIn_of _ (by decide +kernel)) ggX7_heaviestIn_X3_size
set_option maxRecDepth 20000 in
theorem ggX7_heaviestIn_X3_keyOf : GoodIn wsX7_heaviestIn wsX3_keyOf := goodIn_ca (goodIn_r _ [25, 17, 26, 27, 28, 14, 29, 16, 53, 54, 55, 56, 57, 58] (by decide +kernel) (by decide +kernel)) (goodIn_sub (fun _ h => List.mem_cons_of_mem _ (List.mem_append_left _ (List.mem_append_right _ h))) (by decide +kernel))
set_option maxRecDepth 20000 in
theorem gX7_heaviestIn_X3_keyOf : GoodIn wsX7_heaviestIn (wsV RX7 124 RX3 yX3_keyOf wsX3_keyOf) := goodIn_app (goodIn_of _ (by decide +kernel)) ggX7_heaviestIn_X3_keyOf
set_option maxRecDepth 20000 in
theorem ggX7_heaviestIn_X3_weightOf : GoodIn wsX7_heaviestIn wsX3_weightOf := goodIn_ca (goodIn_r _ [33, 34, 26, 27, 28, 14, 29, 16, 53, 54, 55, 56, 57, 58] (by decide +kernel) (by decide +kernel)) (goodIn_sub (fun _ h => List.mem_cons_of_mem _ (List.mem_append_left _ (List.mem_append_right _ h))) (by decide +kernel))
set_option maxRecDepth 20000 in
theorem gX7_heaviestIn_X3_weightOf : GoodIn wsX7_heaviestIn (wsV RX7 93 RX3 yX3_weightOf wsX3_weightOf) := goodIn_app (goodIn_of _ (by decide +kernel)) ggX7_heaviestIn_X3_weightOf
set_option maxRecDepth 20000 in
theorem ggX7_heaviestIn_X7_keyOrNone : GoodIn wsX7_heaviestIn wsX7_keyOrNone := goodIn_ca (goodIn_ca (goodIn_r _ [38, 39, 40, 1, 41, 27, 28, 14, 29, 16, 22, 23, 24, 25, 17, 26, 42, 43, 44, 45, 46, 47, 48, 49, 50, 51, 52, 53, 54, 55, 56, 57, 58] (by decide +kernel) (by decide +kernel)) (goodIn_sub (fun _ h => List.mem_cons_of_mem _ (List.mem_append_right _ h)) (by decide +kernel))) (goodIn_sub (fun _ h => List.mem_cons_of_mem _ (List.mem_append_left _ (List.mem_append_right _ h))) (by decide +kernel))
set_option maxRecDepth 20000 in
theorem gX7_heaviestIn_X7_keyOrNone : GoodIn wsX7_heaviestIn (wsV RX7 108 RX7 yX7_keyOrNone wsX7_keyOrNone) := goodIn_app (goodIn_of _ (by decide +kernel)) ggX7_heaviestIn_X7_keyOrNone
theorem dX7_heaviestIn_0 : decode cX7_heaviestIn 0 = .ok (.iload_n 1, 1) := by decide +kernel
theorem dX7_heaviestIn_1 : decode cX7_heaviestIn 1 = .ok (.iload_n 2, 1) := by decide +kernel
theorem dX7_heaviestIn_2 : decode cX7_heaviestIn 2 = .ok (.invokestatic 130, 3) := by decide +kernel
theorem dX7_heaviestIn_5 : decode cX7_heaviestIn 5 = .ok (.iconst (-1), 1) := by decide +kernel
theorem dX7_heaviestIn_6 : decode cX7_heaviestIn 6 = .ok (.istore_n 3, 1) := by decide +kernel
theorem dX7_heaviestIn_7 : decode cX7_heaviestIn 7 = .ok (.aload_n 0, 1) := by decide +kernel
theorem dX7_heaviestIn_8 : decode cX7_heaviestIn 8 = .ok (.getfield 10, 3) := by decide +kernel
theorem dX7_heaviestIn_11 : decode cX7_heaviestIn 11 = .ok (.iload_n 1, 1) := by decide +kernel
theorem dX7_heaviestIn_12 : decode cX7_heaviestIn 12 = .ok (.invokevirtual 105, 3) := by decide +kernel
theorem dX7_heaviestIn_15 : decode cX7_heaviestIn 15 = .ok (.istore 4, 2) := by decide +kernel
theorem dX7_heaviestIn_17 : decode cX7_heaviestIn 17 = .ok (.iload 4, 2) := by decide +kernel
theorem dX7_heaviestIn_19 : decode cX7_heaviestIn 19 = .ok (.aload_n 0, 1) := by decide +kernel
theorem dX7_heaviestIn_20 : decode cX7_heaviestIn 20 = .ok (.getfield 10, 3) := by decide +kernel
theorem dX7_heaviestIn_23 : decode cX7_heaviestIn 23 = .ok (.invokevirtual 134, 3) := by decide +kernel
theorem dX7_heaviestIn_26 : decode cX7_heaviestIn 26 = .ok (.if_icmp .ge 50, 3) := by decide +kernel
theorem dX7_heaviestIn_29 : decode cX7_heaviestIn 29 = .ok (.aload_n 0, 1) := by decide +kernel
theorem dX7_heaviestIn_30 : decode cX7_heaviestIn 30 = .ok (.getfield 10, 3) := by decide +kernel
theorem dX7_heaviestIn_33 : decode cX7_heaviestIn 33 = .ok (.iload 4, 2) := by decide +kernel
theorem dX7_heaviestIn_35 : decode cX7_heaviestIn 35 = .ok (.invokevirtual 124, 3) := by decide +kernel
theorem dX7_heaviestIn_38 : decode cX7_heaviestIn 38 = .ok (.iload_n 2, 1) := by decide +kernel
theorem dX7_heaviestIn_39 : decode cX7_heaviestIn 39 = .ok (.if_icmp .gt 37, 3) := by decide +kernel
theorem dX7_heaviestIn_42 : decode cX7_heaviestIn 42 = .ok (.iload_n 3, 1) := by decide +kernel
theorem dX7_heaviestIn_43 : decode cX7_heaviestIn 43 = .ok (.iconst (-1), 1) := by decide +kernel
theorem dX7_heaviestIn_44 : decode cX7_heaviestIn 44 = .ok (.if_icmp .eq 23, 3) := by decide +kernel
theorem dX7_heaviestIn_47 : decode cX7_heaviestIn 47 = .ok (.aload_n 0, 1) := by decide +kernel
theorem dX7_heaviestIn_48 : decode cX7_heaviestIn 48 = .ok (.getfield 10, 3) := by decide +kernel
theorem dX7_heaviestIn_51 : decode cX7_heaviestIn 51 = .ok (.iload 4, 2) := by decide +kernel
theorem dX7_heaviestIn_53 : decode cX7_heaviestIn 53 = .ok (.invokevirtual 93, 3) := by decide +kernel
theorem dX7_heaviestIn_56 : decode cX7_heaviestIn 56 = .ok (.aload_n 0, 1) := by decide +kernel
theorem dX7_heaviestIn_57 : decode cX7_heaviestIn 57 = .ok (.getfield 10, 3) := by decide +kernel
theorem dX7_heaviestIn_60 : decode cX7_heaviestIn 60 = .ok (.iload_n 3, 1) := by decide +kernel
theorem dX7_heaviestIn_61 : decode cX7_heaviestIn 61 = .ok (.invokevirtual 93, 3) := by decide +kernel
theorem dX7_heaviestIn_64 : decode cX7_heaviestIn 64 = .ok (.if_icmp .le 6, 3) := by decide +kernel
theorem dX7_heaviestIn_67 : decode cX7_heaviestIn 67 = .ok (.iload 4, 2) := by decide +kernel
theorem dX7_heaviestIn_69 : decode cX7_heaviestIn 69 = .ok (.istore_n 3, 1) := by decide +kernel
theorem dX7_heaviestIn_70 : decode cX7_heaviestIn 70 = .ok (.iinc 4 1, 3) := by decide +kernel
theorem dX7_heaviestIn_73 : decode cX7_heaviestIn 73 = .ok (.goto (-56), 3) := by decide +kernel
theorem dX7_heaviestIn_76 : decode cX7_heaviestIn 76 = .ok (.aload_n 0, 1) := by decide +kernel
theorem dX7_heaviestIn_77 : decode cX7_heaviestIn 77 = .ok (.iload_n 3, 1) := by decide +kernel
theorem dX7_heaviestIn_78 : decode cX7_heaviestIn 78 = .ok (.invokevirtual 108, 3) := by decide +kernel
theorem dX7_heaviestIn_81 : decode cX7_heaviestIn 81 = .ok (.ireturn, 1) := by decide +kernel
set_option maxRecDepth 20000 in
theorem ggX7_levelSize_X7_demandLevel : GoodIn wsX7_levelSize wsX7_demandLevel := goodIn_ca (goodIn_r _ [5, 6, 7] (by decide +kernel) (by decide +kernel)) (goodIn_sub (fun _ h => List.mem_cons_of_mem _ (List.mem_append_left _ (List.mem_append_right _ h))) (by decide +kernel))
set_option maxRecDepth 20000 in
theorem gX7_levelSize_X7_demandLevel : GoodIn wsX7_levelSize (va_wsS RX7 137 yX7_demandLevel wsX7_demandLevel) := goodIn_app (goodIn_of _ (by decide +kernel)) ggX7_levelSize_X7_demandLevel
set_option maxRecDepth 20000 in
theorem ggX7_levelSize_X3_foldersOn : GoodIn wsX7_levelSize wsX3_foldersOn := goodIn_ca (goodIn_r _ [12, 13, 14, 15, 16, 11, 17, 18, 19, 20, 21, 22, 34, 35, 36, 37, 38, 39] (by decide +kernel) (by decide +kernel)) (goodIn_sub (fun _ h => List.mem_cons_of_mem _ (List.mem_append_right _ h)) (by decide +kernel))
set_option maxRecDepth 20000 in
theorem gX7_levelSize_X3_foldersOn : GoodIn wsX7_levelSize (wsV RX7 140 RX3 yX3_foldersOn wsX3_foldersOn) := goodIn_app (goodIn_of _ (by decide +kernel)) ggX7_levelSize_X3_foldersOn
theorem dX7_levelSize_0 : decode cX7_levelSize 0 = .ok (.iload_n 1, 1) := by decide +kernel
theorem dX7_levelSize_1 : decode cX7_levelSize 1 = .ok (.invokestatic 137, 3) := by decide +kernel
theorem dX7_levelSize_4 : decode cX7_levelSize 4 = .ok (.aload_n 0, 1) := by decide +kernel
theorem dX7_levelSize_5 : decode cX7_levelSize 5 = .ok (.getfield 10, 3) := by decide +kernel
theorem dX7_levelSize_8 : decode cX7_levelSize 8 = .ok (.iload_n 1, 1) := by decide +kernel
theorem dX7_levelSize_9 : decode cX7_levelSize 9 = .ok (.invokevirtual 140, 3) := by decide +kernel
theorem dX7_levelSize_12 : decode cX7_levelSize 12 = .ok (.ireturn, 1) := by decide +kernel
set_option maxRecDepth 20000 in
theorem ggX7_levelAt_X7_demandLevel : GoodIn wsX7_levelAt wsX7_demandLevel := goodIn_ca (goodIn_r _ [7, 8, 9] (by decide +kernel) (by decide +kernel)) (goodIn_sub (fun _ h => List.mem_cons_of_mem _ (List.mem_append_left _ (List.mem_append_right _ h))) (by decide +kernel))
set_option maxRecDepth 20000 in
theorem gX7_levelAt_X7_demandLevel : GoodIn wsX7_levelAt (va_wsS RX7 137 yX7_demandLevel wsX7_demandLevel) := goodIn_app (goodIn_of _ (by decide +kernel)) ggX7_levelAt_X7_demandLevel
set_option maxRecDepth 20000 in
theorem ggX7_levelAt_X3_foldersOn : GoodIn wsX7_levelAt wsX3_foldersOn := goodIn_ca (goodIn_r _ [14, 15, 16, 17, 18, 13, 19, 20, 21, 22, 23, 24, 45, 46, 47, 48, 49, 50] (by decide +kernel) (by decide +kernel)) (goodIn_sub (fun _ h => List.mem_cons_of_mem _ (List.mem_append_right _ h)) (by decide +kernel))
set_option maxRecDepth 20000 in
theorem gX7_levelAt_X3_foldersOn : GoodIn wsX7_levelAt (wsV RX7 140 RX3 yX3_foldersOn wsX3_foldersOn) := goodIn_app (goodIn_of _ (by decide +kernel)) ggX7_levelAt_X3_foldersOn
set_option maxRecDepth 20000 in
theorem ggX7_levelAt_X3_nextOn : GoodIn wsX7_levelAt wsX3_nextOn := goodIn_ca (goodIn_r _ [28, 15, 16, 17, 18, 13, 19, 20, 21, 22, 23, 24, 45, 46, 47, 48, 49, 50] (by decide +kernel) (by decide +kernel)) (goodIn_sub (fun _ h => List.mem_cons_of_mem _ (List.mem_append_right _ h)) (by decide +kernel))
set_option maxRecDepth 20000 in
theorem gX7_levelAt_X3_nextOn : GoodIn wsX7_levelAt (wsV RX7 143 RX3 yX3_nextOn wsX3_nextOn) := goodIn_app (goodIn_of _ (by decide +kernel)) ggX7_levelAt_X3_nextOn
set_option maxRecDepth 20000 in
theorem ggX7_levelAt_X3_keyOf : GoodIn wsX7_levelAt wsX3_keyOf := goodIn_ca (goodIn_r _ [32, 33, 21, 22, 23, 13, 24, 15, 45, 46, 47, 48, 49, 50] (by decide +kernel) (by decide +kernel)) (goodIn_sub (fun _ h => List.mem_cons_of_mem _ (List.mem_append_right _ h)) (by decide +kernel))
set_option maxRecDepth 20000 in
theorem gX7_levelAt_X3_keyOf : GoodIn wsX7_levelAt (wsV RX7 124 RX3 yX3_keyOf wsX3_keyOf) := goodIn_app (goodIn_of _ (by decide +kernel)) ggX7_levelAt_X3_keyOf
theorem dX7_levelAt_0 : decode cX7_levelAt 0 = .ok (.iload_n 1, 1) := by decide +kernel
theorem dX7_levelAt_1 : decode cX7_levelAt 1 = .ok (.invokestatic 137, 3) := by decide +kernel
theorem dX7_levelAt_4 : decode cX7_levelAt 4 = .ok (.iload_n 2, 1) := by decide +kernel
theorem dX7_levelAt_5 : decode cX7_levelAt 5 = .ok (.ifCond .lt 15, 3) := by decide +kernel
theorem dX7_levelAt_8 : decode cX7_levelAt 8 = .ok (.iload_n 2, 1) := by decide +kernel
theorem dX7_levelAt_9 : decode cX7_levelAt 9 = .ok (.aload_n 0, 1) := by decide +kernel
theorem dX7_levelAt_10 : decode cX7_levelAt 10 = .ok (.getfield 10, 3) := by decide +kernel
theorem dX7_levelAt_13 : decode cX7_levelAt 13 = .ok (.iload_n 1, 1) := by decide +kernel
theorem dX7_levelAt_14 : decode cX7_levelAt 14 = .ok (.invokevirtual 140, 3) := by decide +kernel
theorem dX7_levelAt_17 : decode cX7_levelAt 17 = .ok (.if_icmp .lt 11, 3) := by decide +kernel
theorem dX7_levelAt_20 : decode cX7_levelAt 20 = .ok (.new 118, 3) := by decide +kernel
theorem dX7_levelAt_23 : decode cX7_levelAt 23 = .ok (.dup, 1) := by decide +kernel
theorem dX7_levelAt_24 : decode cX7_levelAt 24 = .ok (.invokespecial 120, 3) := by decide +kernel
theorem dX7_levelAt_27 : decode cX7_levelAt 27 = .ok (.athrow, 1) := by decide +kernel
theorem dX7_levelAt_28 : decode cX7_levelAt 28 = .ok (.aload_n 0, 1) := by decide +kernel
theorem dX7_levelAt_29 : decode cX7_levelAt 29 = .ok (.getfield 10, 3) := by decide +kernel
theorem dX7_levelAt_32 : decode cX7_levelAt 32 = .ok (.iload_n 1, 1) := by decide +kernel
theorem dX7_levelAt_33 : decode cX7_levelAt 33 = .ok (.iconst (-1), 1) := by decide +kernel
theorem dX7_levelAt_34 : decode cX7_levelAt 34 = .ok (.invokevirtual 143, 3) := by decide +kernel
theorem dX7_levelAt_37 : decode cX7_levelAt 37 = .ok (.istore_n 3, 1) := by decide +kernel
theorem dX7_levelAt_38 : decode cX7_levelAt 38 = .ok (.iconst 0, 1) := by decide +kernel
theorem dX7_levelAt_39 : decode cX7_levelAt 39 = .ok (.istore 4, 2) := by decide +kernel
theorem dX7_levelAt_41 : decode cX7_levelAt 41 = .ok (.iload 4, 2) := by decide +kernel
theorem dX7_levelAt_43 : decode cX7_levelAt 43 = .ok (.iload_n 2, 1) := by decide +kernel
theorem dX7_levelAt_44 : decode cX7_levelAt 44 = .ok (.if_icmp .ge 19, 3) := by decide +kernel
theorem dX7_levelAt_47 : decode cX7_levelAt 47 = .ok (.aload_n 0, 1) := by decide +kernel
theorem dX7_levelAt_48 : decode cX7_levelAt 48 = .ok (.getfield 10, 3) := by decide +kernel
theorem dX7_levelAt_51 : decode cX7_levelAt 51 = .ok (.iload_n 1, 1) := by decide +kernel
theorem dX7_levelAt_52 : decode cX7_levelAt 52 = .ok (.iload_n 3, 1) := by decide +kernel
theorem dX7_levelAt_53 : decode cX7_levelAt 53 = .ok (.invokevirtual 143, 3) := by decide +kernel
theorem dX7_levelAt_56 : decode cX7_levelAt 56 = .ok (.istore_n 3, 1) := by decide +kernel
theorem dX7_levelAt_57 : decode cX7_levelAt 57 = .ok (.iinc 4 1, 3) := by decide +kernel
theorem dX7_levelAt_60 : decode cX7_levelAt 60 = .ok (.goto (-19), 3) := by decide +kernel
theorem dX7_levelAt_63 : decode cX7_levelAt 63 = .ok (.aload_n 0, 1) := by decide +kernel
theorem dX7_levelAt_64 : decode cX7_levelAt 64 = .ok (.getfield 10, 3) := by decide +kernel
theorem dX7_levelAt_67 : decode cX7_levelAt 67 = .ok (.iload_n 3, 1) := by decide +kernel
theorem dX7_levelAt_68 : decode cX7_levelAt 68 = .ok (.invokevirtual 124, 3) := by decide +kernel
theorem dX7_levelAt_71 : decode cX7_levelAt 71 = .ok (.ireturn, 1) := by decide +kernel
set_option maxRecDepth 20000 in
theorem ggX7_span_X7_demandLevel : GoodIn wsX7_span wsX7_demandLevel := goodIn_ca (goodIn_r _ [7, 8, 9] (by decide +kernel) (by decide +kernel)) (goodIn_sub (fun _ h => List.mem_cons_of_mem _ (List.mem_append_left _ (List.mem_append_left _ (List.mem_append_right _ h)))) (by decide +kernel))
set_option maxRecDepth 20000 in
theorem gX7_span_X7_demandLevel : GoodIn wsX7_span (va_wsS RX7 137 yX7_demandLevel wsX7_demandLevel) := goodIn_app (goodIn_of _ (by decide +kernel)) ggX7_span_X7_demandLevel
set_option maxRecDepth 20000 in
theorem ggX7_span_X7_demandKey : GoodIn wsX7_span wsX7_demandKey := goodIn_ca (goodIn_r _ [12, 13, 14] (by decide +kernel) (by decide +kernel)) (goodIn_sub (fun _ h => List.mem_cons_of_mem _ (List.mem_append_left _ (List.mem_append_right _ h))) (by decide +kernel))
set_option maxRecDepth 20000 in
theorem gX7_span_X7_demandKey : GoodIn wsX7_span (va_wsS RX7 82 yX7_demandKey wsX7_demandKey) := goodIn_app (goodIn_of _ (by decide +kernel)) ggX7_span_X7_demandKey
set_option maxRecDepth 20000 in
theorem ggX7_span_X7_demandFolder : GoodIn wsX7_span wsX7_demandFolder := goodIn_ca (goodIn_ca (goodIn_r _ [18, 1, 2, 3, 19, 20, 21, 22, 23, 24, 25, 26, 27, 28, 29, 30, 31, 32, 33, 48, 49, 50, 51, 52, 53, 54, 55, 56, 57, 58, 59, 60, 61, 62, 63, 64] (by decide +kernel) (by decide +kernel)) (goodIn_sub (fun _ h => List.mem_cons_of_mem _ (List.mem_append_left _ (List.mem_append_left _ (List.mem_append_left _ (List.mem_append_right _ h))))) (by decide +kernel))) (goodIn_sub (fun _ h => List.mem_cons_of_mem _ (List.mem_append_right _ h)) (by decide +kernel))
set_option maxRecDepth 20000 in
theorem gX7_span_X7_demandFolder : GoodIn wsX7_span (wsV RX7 89 RX7 yX7_demandFolder wsX7_demandFolder) := goodIn_app (goodIn_of _ (by decide +kernel)) ggX7_span_X7_demandFolder
set_option maxRecDepth 20000 in
theorem ggX7_span_X3_hasRung : GoodIn wsX7_span wsX3_hasRung := goodIn_ca (goodIn_r _ [37, 38, 30, 31, 32, 22, 33, 29, 59, 60, 61, 62, 63, 64] (by decide +kernel) (by decide +kernel)) (goodIn_sub (fun _ h => List.mem_cons_of_mem _ (List.mem_append_right _ h)) (by decide +kernel))
set_option maxRecDepth 20000 in
theorem gX7_span_X3_hasRung : GoodIn wsX7_span (wsV RX7 147 RX3 yX3_hasRung wsX3_hasRung) := goodIn_app (goodIn_of _ (by decide +kernel)) ggX7_span_X3_hasRung
set_option maxRecDepth 20000 in
theorem ggX7_span_X3_spanFrom : GoodIn wsX7_span wsX3_spanFrom := goodIn_ca (goodIn_r _ [42, 43, 44, 45, 22, 46, 29, 47, 35, 36, 37, 38, 30, 31, 32, 33, 59, 60, 61, 62, 63, 64] (by decide +kernel) (by decide +kernel)) (goodIn_sub (fun _ h => List.mem_cons_of_mem _ (List.mem_append_right _ h)) (by decide +kernel))
set_option maxRecDepth 20000 in
theorem gX7_span_X3_spanFrom : GoodIn wsX7_span (wsV RX7 150 RX3 yX3_spanFrom wsX3_spanFrom) := goodIn_app (goodIn_of _ (by decide +kernel)) ggX7_span_X3_spanFrom
theorem dX7_span_0 : decode cX7_span 0 = .ok (.iload_n 2, 1) := by decide +kernel
theorem dX7_span_1 : decode cX7_span 1 = .ok (.invokestatic 137, 3) := by decide +kernel
theorem dX7_span_4 : decode cX7_span 4 = .ok (.iload_n 1, 1) := by decide +kernel
theorem dX7_span_5 : decode cX7_span 5 = .ok (.invokestatic 82, 3) := by decide +kernel
theorem dX7_span_8 : decode cX7_span 8 = .ok (.aload_n 0, 1) := by decide +kernel
theorem dX7_span_9 : decode cX7_span 9 = .ok (.iload_n 1, 1) := by decide +kernel
theorem dX7_span_10 : decode cX7_span 10 = .ok (.invokevirtual 89, 3) := by decide +kernel
theorem dX7_span_13 : decode cX7_span 13 = .ok (.istore_n 3, 1) := by decide +kernel
theorem dX7_span_14 : decode cX7_span 14 = .ok (.aload_n 0, 1) := by decide +kernel
theorem dX7_span_15 : decode cX7_span 15 = .ok (.getfield 10, 3) := by decide +kernel
theorem dX7_span_18 : decode cX7_span 18 = .ok (.iload_n 3, 1) := by decide +kernel
theorem dX7_span_19 : decode cX7_span 19 = .ok (.iload_n 2, 1) := by decide +kernel
theorem dX7_span_20 : decode cX7_span 20 = .ok (.invokevirtual 147, 3) := by decide +kernel
theorem dX7_span_23 : decode cX7_span 23 = .ok (.ifCond .ne 11, 3) := by decide +kernel
theorem dX7_span_26 : decode cX7_span 26 = .ok (.new 118, 3) := by decide +kernel
theorem dX7_span_29 : decode cX7_span 29 = .ok (.dup, 1) := by decide +kernel
theorem dX7_span_30 : decode cX7_span 30 = .ok (.invokespecial 120, 3) := by decide +kernel
theorem dX7_span_33 : decode cX7_span 33 = .ok (.athrow, 1) := by decide +kernel
theorem dX7_span_34 : decode cX7_span 34 = .ok (.aload_n 0, 1) := by decide +kernel
theorem dX7_span_35 : decode cX7_span 35 = .ok (.getfield 10, 3) := by decide +kernel
theorem dX7_span_38 : decode cX7_span 38 = .ok (.iload_n 3, 1) := by decide +kernel
theorem dX7_span_39 : decode cX7_span 39 = .ok (.iload_n 2, 1) := by decide +kernel
theorem dX7_span_40 : decode cX7_span 40 = .ok (.invokevirtual 150, 3) := by decide +kernel
theorem dX7_span_43 : decode cX7_span 43 = .ok (.ireturn, 1) := by decide +kernel
set_option maxRecDepth 20000 in
theorem ggX7_headSpan_X7_demandLevel : GoodIn wsX7_headSpan wsX7_demandLevel := goodIn_ca (goodIn_r _ [5, 6, 7] (by decide +kernel) (by decide +kernel)) (goodIn_sub (fun _ h => List.mem_cons_of_mem _ (List.mem_append_left _ (List.mem_append_right _ h))) (by decide +kernel))
set_option maxRecDepth 20000 in
theorem gX7_headSpan_X7_demandLevel : GoodIn wsX7_headSpan (va_wsS RX7 137 yX7_demandLevel wsX7_demandLevel) := goodIn_app (goodIn_of _ (by decide +kernel)) ggX7_headSpan_X7_demandLevel
set_option maxRecDepth 20000 in
theorem ggX7_headSpan_X3_spanFrom : GoodIn wsX7_headSpan wsX3_spanFrom := goodIn_ca (goodIn_r _ [12, 13, 14, 15, 11, 16, 17, 18, 19, 20, 21, 22, 23, 24, 25, 26, 38, 39, 40, 41, 42, 43] (by decide +kernel) (by decide +kernel)) (goodIn_sub (fun _ h => List.mem_cons_of_mem _ (List.mem_append_right _ h)) (by decide +kernel))
set_option maxRecDepth 20000 in
theorem gX7_headSpan_X3_spanFrom : GoodIn wsX7_headSpan (wsV RX7 150 RX3 yX3_spanFrom wsX3_spanFrom) := goodIn_app (goodIn_of _ (by decide +kernel)) ggX7_headSpan_X3_spanFrom
theorem dX7_headSpan_0 : decode cX7_headSpan 0 = .ok (.iload_n 1, 1) := by decide +kernel
theorem dX7_headSpan_1 : decode cX7_headSpan 1 = .ok (.invokestatic 137, 3) := by decide +kernel
theorem dX7_headSpan_4 : decode cX7_headSpan 4 = .ok (.aload_n 0, 1) := by decide +kernel
theorem dX7_headSpan_5 : decode cX7_headSpan 5 = .ok (.getfield 10, 3) := by decide +kernel
theorem dX7_headSpan_8 : decode cX7_headSpan 8 = .ok (.iconst (-1), 1) := by decide +kernel
theorem dX7_headSpan_9 : decode cX7_headSpan 9 = .ok (.iload_n 1, 1) := by decide +kernel
theorem dX7_headSpan_10 : decode cX7_headSpan 10 = .ok (.invokevirtual 150, 3) := by decide +kernel
theorem dX7_headSpan_13 : decode cX7_headSpan 13 = .ok (.ireturn, 1) := by decide +kernel
set_option maxRecDepth 20000 in
theorem ggX7_isForgotten_X7_demandLevel : GoodIn wsX7_isForgotten wsX7_demandLevel := goodIn_ca (goodIn_r _ [5, 6, 7] (by decide +kernel) (by decide +kernel)) (goodIn_sub (fun _ h => List.mem_cons_of_mem _ (List.mem_append_right _ h)) (by decide +kernel))
set_option maxRecDepth 20000 in
theorem gX7_isForgotten_X7_demandLevel : GoodIn wsX7_isForgotten (va_wsS RX7 137 yX7_demandLevel wsX7_demandLevel) := goodIn_app (goodIn_of _ (by decide +kernel)) ggX7_isForgotten_X7_demandLevel
set_option maxRecDepth 20000 in
theorem ggX7_isForgotten_X3_isHidden : GoodIn wsX7_isForgotten wsX3_isHidden := goodIn_r _ [12, 13, 25, 26, 27, 28, 29, 30] (by decide +kernel) (by decide +kernel)
set_option maxRecDepth 20000 in
theorem gX7_isForgotten_X3_isHidden : GoodIn wsX7_isForgotten (wsV RX7 153 RX3 yX3_isHidden wsX3_isHidden) := goodIn_app (goodIn_of _ (by decide +kernel)) ggX7_isForgotten_X3_isHidden
theorem dX7_isForgotten_0 : decode cX7_isForgotten 0 = .ok (.iload_n 1, 1) := by decide +kernel
theorem dX7_isForgotten_1 : decode cX7_isForgotten 1 = .ok (.invokestatic 137, 3) := by decide +kernel
theorem dX7_isForgotten_4 : decode cX7_isForgotten 4 = .ok (.aload_n 0, 1) := by decide +kernel
theorem dX7_isForgotten_5 : decode cX7_isForgotten 5 = .ok (.getfield 10, 3) := by decide +kernel
theorem dX7_isForgotten_8 : decode cX7_isForgotten 8 = .ok (.iload_n 1, 1) := by decide +kernel
theorem dX7_isForgotten_9 : decode cX7_isForgotten 9 = .ok (.invokevirtual 153, 3) := by decide +kernel
theorem dX7_isForgotten_12 : decode cX7_isForgotten 12 = .ok (.ireturn, 1) := by decide +kernel
set_option maxRecDepth 20000 in
theorem ggX7_longestSearch_X3_size : GoodIn wsX7_longestSearch wsX3_size := goodIn_r _ [7, 8, 95, 96, 97, 98, 99, 100] (by decide +kernel) (by decide +kernel)
set_option maxRecDepth 20000 in
theorem gX7_longestSearch_X3_size : GoodIn wsX7_longestSearch (wsV RX7 134 RX3 yX3_size wsX3_size) := goodIn_app (goodIn_of _ (by decide +kernel)) ggX7_longestSearch_X3_size
set_option maxRecDepth 20000 in
theorem ggX7_longestSearch_X3_keyOf : GoodIn wsX7_longestSearch wsX3_keyOf := goodIn_ca (goodIn_r _ [12, 13, 14, 15, 16, 6, 17, 8, 95, 96, 97, 98, 99, 100] (by decide +kernel) (by decide +kernel)) (goodIn_sub (fun _ h => List.mem_cons_of_mem _ (List.mem_append_left _ (List.mem_append_right _ h))) (by decide +kernel))
set_option maxRecDepth 20000 in
theorem gX7_longestSearch_X3_keyOf : GoodIn wsX7_longestSearch (wsV RX7 124 RX3 yX3_keyOf wsX3_keyOf) := goodIn_app (goodIn_of _ (by decide +kernel)) ggX7_longestSearch_X3_keyOf
set_option maxRecDepth 20000 in
theorem ggX7_longestSearch_X6_stepsTo : GoodIn wsX7_longestSearch wsX6_stepsTo := goodIn_ca (goodIn_r _ [22, 23, 24, 25, 26, 27, 21, 28, 29, 30, 31, 32, 33, 34, 35, 6, 36, 37, 38, 39, 40, 8, 41, 42, 43, 44, 45, 46, 47, 48, 49, 14, 15, 16, 17, 50, 51, 52, 53, 54, 55, 56, 57, 58, 59, 60, 61, 62, 63, 64, 65, 66, 67, 68, 69, 70, 71, 72, 73, 74, 13, 75, 101, 102, 103, 104, 105, 106, 95, 96, 97, 98, 99, 100] (by decide +kernel) (by decide +kernel)) (goodIn_sub (fun _ h => List.mem_cons_of_mem _ (List.mem_append_left _ (List.mem_append_right _ h))) (by decide +kernel))
set_option maxRecDepth 20000 in
theorem gX7_longestSearch_X6_stepsTo : GoodIn wsX7_longestSearch (wsV RX7 99 RX6 yX6_stepsTo wsX6_stepsTo) := goodIn_app (goodIn_of _ (by decide +kernel)) ggX7_longestSearch_X6_stepsTo
set_option maxRecDepth 20000 in
theorem ggX7_longestSearch_X7_keyOrNone : GoodIn wsX7_longestSearch wsX7_keyOrNone := goodIn_ca (goodIn_ca (goodIn_r _ [80, 81, 82, 1, 83, 15, 16, 6, 17, 8, 9, 10, 11, 12, 13, 14, 84, 85, 86, 87, 88, 89, 90, 91, 92, 93, 94, 95, 96, 97, 98, 99, 100] (by decide +kernel) (by decide +kernel)) (goodIn_sub (fun _ h => List.mem_cons_of_mem _ (List.mem_append_right _ h)) (by decide +kernel))) (goodIn_sub (fun _ h => List.mem_cons_of_mem _ (List.mem_append_left _ (List.mem_append_right _ h))) (by decide +kernel))
set_option maxRecDepth 20000 in
theorem gX7_longestSearch_X7_keyOrNone : GoodIn wsX7_longestSearch (wsV RX7 108 RX7 yX7_keyOrNone wsX7_keyOrNone) := goodIn_app (goodIn_of _ (by decide +kernel)) ggX7_longestSearch_X7_keyOrNone
theorem dX7_longestSearch_0 : decode cX7_longestSearch 0 = .ok (.iconst (-1), 1) := by decide +kernel
theorem dX7_longestSearch_1 : decode cX7_longestSearch 1 = .ok (.istore_n 1, 1) := by decide +kernel
theorem dX7_longestSearch_2 : decode cX7_longestSearch 2 = .ok (.iconst 0, 1) := by decide +kernel
theorem dX7_longestSearch_3 : decode cX7_longestSearch 3 = .ok (.istore_n 2, 1) := by decide +kernel
theorem dX7_longestSearch_4 : decode cX7_longestSearch 4 = .ok (.iconst 0, 1) := by decide +kernel
theorem dX7_longestSearch_5 : decode cX7_longestSearch 5 = .ok (.istore_n 3, 1) := by decide +kernel
theorem dX7_longestSearch_6 : decode cX7_longestSearch 6 = .ok (.iload_n 3, 1) := by decide +kernel
theorem dX7_longestSearch_7 : decode cX7_longestSearch 7 = .ok (.aload_n 0, 1) := by decide +kernel
theorem dX7_longestSearch_8 : decode cX7_longestSearch 8 = .ok (.getfield 10, 3) := by decide +kernel
theorem dX7_longestSearch_11 : decode cX7_longestSearch 11 = .ok (.invokevirtual 134, 3) := by decide +kernel
theorem dX7_longestSearch_14 : decode cX7_longestSearch 14 = .ok (.if_icmp .ge 42, 3) := by decide +kernel
theorem dX7_longestSearch_17 : decode cX7_longestSearch 17 = .ok (.aload_n 0, 1) := by decide +kernel
theorem dX7_longestSearch_18 : decode cX7_longestSearch 18 = .ok (.getfield 21, 3) := by decide +kernel
theorem dX7_longestSearch_21 : decode cX7_longestSearch 21 = .ok (.aload_n 0, 1) := by decide +kernel
theorem dX7_longestSearch_22 : decode cX7_longestSearch 22 = .ok (.getfield 10, 3) := by decide +kernel
theorem dX7_longestSearch_25 : decode cX7_longestSearch 25 = .ok (.iload_n 3, 1) := by decide +kernel
theorem dX7_longestSearch_26 : decode cX7_longestSearch 26 = .ok (.invokevirtual 124, 3) := by decide +kernel
theorem dX7_longestSearch_29 : decode cX7_longestSearch 29 = .ok (.invokevirtual 99, 3) := by decide +kernel
theorem dX7_longestSearch_32 : decode cX7_longestSearch 32 = .ok (.istore 4, 2) := by decide +kernel
theorem dX7_longestSearch_34 : decode cX7_longestSearch 34 = .ok (.iload_n 1, 1) := by decide +kernel
theorem dX7_longestSearch_35 : decode cX7_longestSearch 35 = .ok (.iconst (-1), 1) := by decide +kernel
theorem dX7_longestSearch_36 : decode cX7_longestSearch 36 = .ok (.if_icmp .eq 9, 3) := by decide +kernel
theorem dX7_longestSearch_39 : decode cX7_longestSearch 39 = .ok (.iload 4, 2) := by decide +kernel
theorem dX7_longestSearch_41 : decode cX7_longestSearch 41 = .ok (.iload_n 2, 1) := by decide +kernel
theorem dX7_longestSearch_42 : decode cX7_longestSearch 42 = .ok (.if_icmp .le 8, 3) := by decide +kernel
theorem dX7_longestSearch_45 : decode cX7_longestSearch 45 = .ok (.iload_n 3, 1) := by decide +kernel
theorem dX7_longestSearch_46 : decode cX7_longestSearch 46 = .ok (.istore_n 1, 1) := by decide +kernel
theorem dX7_longestSearch_47 : decode cX7_longestSearch 47 = .ok (.iload 4, 2) := by decide +kernel
theorem dX7_longestSearch_49 : decode cX7_longestSearch 49 = .ok (.istore_n 2, 1) := by decide +kernel
theorem dX7_longestSearch_50 : decode cX7_longestSearch 50 = .ok (.iinc 3 1, 3) := by decide +kernel
theorem dX7_longestSearch_53 : decode cX7_longestSearch 53 = .ok (.goto (-47), 3) := by decide +kernel
theorem dX7_longestSearch_56 : decode cX7_longestSearch 56 = .ok (.aload_n 0, 1) := by decide +kernel
theorem dX7_longestSearch_57 : decode cX7_longestSearch 57 = .ok (.iload_n 1, 1) := by decide +kernel
theorem dX7_longestSearch_58 : decode cX7_longestSearch 58 = .ok (.invokevirtual 108, 3) := by decide +kernel
theorem dX7_longestSearch_61 : decode cX7_longestSearch 61 = .ok (.ireturn, 1) := by decide +kernel
set_option maxRecDepth 20000 in
theorem ggX7_nextRungs_X3_coin : GoodIn wsX7_nextRungs wsX3_coin := goodIn_r _ [6, 7, 31, 32, 33, 34, 35, 36] (by decide +kernel) (by decide +kernel)
set_option maxRecDepth 20000 in
theorem gX7_nextRungs_X3_coin : GoodIn wsX7_nextRungs (wsV RX7 157 RX3 yX3_coin wsX3_coin) := goodIn_app (goodIn_of _ (by decide +kernel)) ggX7_nextRungs_X3_coin
set_option maxRecDepth 20000 in
theorem ggX7_nextRungs_X1_towerAhead : GoodIn wsX7_nextRungs wsX1_towerAhead := goodIn_r _ [12, 13, 14, 15, 11, 16, 17, 18, 19, 37, 38, 39] (by decide +kernel) (by decide +kernel)
set_option maxRecDepth 20000 in
theorem gX7_nextRungs_X1_towerAhead : GoodIn wsX7_nextRungs (wsV RX7 161 RX1 yX1_towerAhead wsX1_towerAhead) := goodIn_app (goodIn_of _ (by decide +kernel)) ggX7_nextRungs_X1_towerAhead
theorem dX7_nextRungs_0 : decode cX7_nextRungs 0 = .ok (.aload_n 0, 1) := by decide +kernel
theorem dX7_nextRungs_1 : decode cX7_nextRungs 1 = .ok (.getfield 10, 3) := by decide +kernel
theorem dX7_nextRungs_4 : decode cX7_nextRungs 4 = .ok (.invokevirtual 157, 3) := by decide +kernel
theorem dX7_nextRungs_7 : decode cX7_nextRungs 7 = .ok (.invokevirtual 161, 3) := by decide +kernel
theorem dX7_nextRungs_10 : decode cX7_nextRungs 10 = .ok (.ireturn, 1) := by decide +kernel
set_option maxRecDepth 20000 in
theorem ggX7_append_X5_take : GoodIn wsX7_append wsX5_take := goodIn_ca (goodIn_r _ [8, 9, 10, 26, 27, 28, 29] (by decide +kernel) (by decide +kernel)) (goodIn_sub (fun _ h => List.mem_cons_of_mem _ (List.mem_append_right _ h)) (by decide +kernel))
set_option maxRecDepth 20000 in
theorem gX7_append_X5_take : GoodIn wsX7_append (wsV RX7 166 RX5 yX5_take wsX5_take) := goodIn_app (goodIn_of _ (by decide +kernel)) ggX7_append_X5_take
set_option maxRecDepth 20000 in
theorem ggX7_append_X5_length : GoodIn wsX7_append wsX5_length := goodIn_r _ [14, 9, 26, 27, 28, 29] (by decide +kernel) (by decide +kernel)
set_option maxRecDepth 20000 in
theorem gX7_append_X5_length : GoodIn wsX7_append (wsV RX7 173 RX5 yX5_length wsX5_length) := goodIn_app (goodIn_of _ (by decide +kernel)) ggX7_append_X5_length
theorem dX7_append_0 : decode cX7_append 0 = .ok (.aload_n 0, 1) := by decide +kernel
theorem dX7_append_1 : decode cX7_append 1 = .ok (.getfield 42, 3) := by decide +kernel
theorem dX7_append_4 : decode cX7_append 4 = .ok (.iload_n 1, 1) := by decide +kernel
theorem dX7_append_5 : decode cX7_append 5 = .ok (.invokevirtual 166, 3) := by decide +kernel
theorem dX7_append_8 : decode cX7_append 8 = .ok (.ifCond .ne 11, 3) := by decide +kernel
theorem dX7_append_11 : decode cX7_append 11 = .ok (.new 170, 3) := by decide +kernel
theorem dX7_append_14 : decode cX7_append 14 = .ok (.dup, 1) := by decide +kernel
theorem dX7_append_15 : decode cX7_append 15 = .ok (.invokespecial 172, 3) := by decide +kernel
theorem dX7_append_18 : decode cX7_append 18 = .ok (.athrow, 1) := by decide +kernel
theorem dX7_append_19 : decode cX7_append 19 = .ok (.aload_n 0, 1) := by decide +kernel
theorem dX7_append_20 : decode cX7_append 20 = .ok (.getfield 42, 3) := by decide +kernel
theorem dX7_append_23 : decode cX7_append 23 = .ok (.invokevirtual 173, 3) := by decide +kernel
theorem dX7_append_26 : decode cX7_append 26 = .ok (.ireturn, 1) := by decide +kernel
set_option maxRecDepth 20000 in
theorem ggX7_commands_X5_findFault : GoodIn wsX7_commands wsX5_findFault := goodIn_ca (goodIn_r _ [15, 16, 17, 18, 19, 20, 14, 21, 22, 23, 24, 25, 26, 27, 28, 29, 30, 31, 32, 33, 34, 35, 36, 37, 38, 39, 40, 41, 42, 43, 44, 45, 46, 47, 48, 49, 50, 51, 52, 53, 54, 55, 56, 57, 58, 59, 60, 61, 62, 63, 64, 65, 66, 67, 68, 69, 70, 71, 292, 293, 294, 295, 296, 297, 298, 299] (by decide +kernel) (by decide +kernel)) (goodIn_sub (fun _ h => List.mem_cons_of_mem _ (List.mem_append_right _ h)) (by decide +kernel))
set_option maxRecDepth 20000 in
theorem gX7_commands_X5_findFault : GoodIn wsX7_commands (wsV RX7 176 RX5 yX5_findFault wsX5_findFault) := goodIn_app (goodIn_of _ (by decide +kernel)) ggX7_commands_X5_findFault
set_option maxRecDepth 20000 in
theorem ggX7_commands_X5_clear : GoodIn wsX7_commands wsX5_clear := goodIn_r _ [75, 30, 292, 293, 294, 295] (by decide +kernel) (by decide +kernel)
set_option maxRecDepth 20000 in
theorem gX7_commands_X5_clear : GoodIn wsX7_commands (wsV RX7 180 RX5 yX5_clear wsX5_clear) := goodIn_app (goodIn_of _ (by decide +kernel)) ggX7_commands_X5_clear
set_option maxRecDepth 20000 in
theorem ggX7_commands_X3_copyFrom : GoodIn wsX7_commands wsX3_copyFrom := goodIn_r _ [80, 81, 82, 83, 84, 85, 86, 87, 88, 89, 90, 91, 92, 93, 94, 95, 96, 97, 98, 300, 301, 302, 303, 304, 305, 306, 307, 308] (by decide +kernel) (by decide +kernel)
set_option maxRecDepth 20000 in
theorem gX7_commands_X3_copyFrom : GoodIn wsX7_commands (wsV RX7 183 RX3 yX3_copyFrom wsX3_copyFrom) := goodIn_app (goodIn_of _ (by decide +kernel)) ggX7_commands_X3_copyFrom
set_option maxRecDepth 20000 in
theorem ggX7_commands_X7_carryOutText : GoodIn wsX7_commands wsX7_carryOutText := goodIn_ca (goodIn_r _ [103, 5, 6, 104, 105, 19, 20, 14, 21, 17, 16, 106, 23, 24, 25, 26, 27, 28, 29, 30, 31, 32, 33, 34, 35, 36, 37, 38, 39, 40, 41, 42, 43, 44, 45, 46, 47, 48, 49, 50, 51, 52, 53, 54, 55, 56, 57, 58, 59, 60, 61, 62, 63, 64, 65, 66, 67, 107, 108, 109, 110, 111, 112, 113, 114, 115, 116, 117, 118, 119, 120, 121, 122, 123, 124, 125, 126, 127, 128, 129, 130, 131, 132, 133, 134, 135, 136, 137, 138, 139, 140, 79, 141, 81, 142, 143, 144, 145, 89, 146, 147, 148, 149, 150, 151, 152, 153, 154, 155, 156, 157, 158, 159, 160, 161, 162, 163, 164, 165, 86, 166, 167, 168, 169, 170, 171, 172, 173, 87, 174, 175, 176, 177, 178, 179, 180, 181, 182, 183, 184, 185, 90, 186, 187, 188, 189, 190, 191, 192, 193, 194, 195, 196, 197, 88, 198, 199, 200, 94, 201, 202, 203, 204, 205, 96, 97, 98, 206, 207, 208, 209, 210, 211, 212, 213, 214, 215, 216, 217, 218, 219, 220, 221, 222, 223, 224, 225, 226, 227, 228, 229, 230, 231, 232, 233, 234, 235, 236, 237, 238, 239, 240, 241, 242, 243, 244, 245, 246, 247, 248, 249, 250, 251, 252, 253, 254, 255, 256, 257, 258, 259, 260, 261, 262, 263, 69, 70, 71, 281, 282, 283, 284, 285, 286, 287, 288, 289, 290, 291, 292, 293, 294, 295, 296, 297, 298, 299, 309, 310, 311, 312, 313, 300, 301, 302, 303, 304, 305, 306, 307, 308] (by decide +kernel) (by decide +kernel)) (goodIn_sub (fun _ h => List.mem_cons_of_mem _ (List.mem_append_right _ h)) (by decide +kernel))
set_option maxRecDepth 20000 in
theorem gX7_commands_X7_carryOutText : GoodIn wsX7_commands (wsV RX7 186 RX7 yX7_carryOutText wsX7_carryOutText) := goodIn_app (goodIn_of _ (by decide +kernel)) ggX7_commands_X7_carryOutText
set_option maxRecDepth 20000 in
theorem ggX7_commands_X2_keep : GoodIn wsX7_commands wsX2_keep := goodIn_r _ [268, 269, 270, 271, 272, 273, 274, 275, 276, 277, 267, 278, 279, 280, 77, 78, 79, 80, 81, 82, 83, 84, 85, 86, 87, 88, 89, 90, 91, 92, 93, 94, 95, 96, 97, 98, 314, 315, 316, 300, 301, 302, 303, 304, 305, 306, 307, 308] (by decide +kernel) (by decide +kernel)
set_option maxRecDepth 20000 in
theorem gX7_commands_X2_keep : GoodIn wsX7_commands (wsV RX7 192 RX2 yX2_keep wsX2_keep) := goodIn_app (goodIn_of _ (by decide +kernel)) ggX7_commands_X2_keep
theorem dX7_commands_0 : decode cX7_commands 0 = .ok (.aload_n 0, 1) := by decide +kernel
theorem dX7_commands_1 : decode cX7_commands 1 = .ok (.aload_n 0, 1) := by decide +kernel
theorem dX7_commands_2 : decode cX7_commands 2 = .ok (.getfield 42, 3) := by decide +kernel
theorem dX7_commands_5 : decode cX7_commands 5 = .ok (.aload_n 0, 1) := by decide +kernel
theorem dX7_commands_6 : decode cX7_commands 6 = .ok (.getfield 35, 3) := by decide +kernel
theorem dX7_commands_9 : decode cX7_commands 9 = .ok (.invokevirtual 176, 3) := by decide +kernel
theorem dX7_commands_12 : decode cX7_commands 12 = .ok (.putfield 63, 3) := by decide +kernel
theorem dX7_commands_15 : decode cX7_commands 15 = .ok (.aload_n 0, 1) := by decide +kernel
theorem dX7_commands_16 : decode cX7_commands 16 = .ok (.getfield 63, 3) := by decide +kernel
theorem dX7_commands_19 : decode cX7_commands 19 = .ok (.iconst (-1), 1) := by decide +kernel
theorem dX7_commands_20 : decode cX7_commands 20 = .ok (.if_icmp .eq 18, 3) := by decide +kernel
theorem dX7_commands_23 : decode cX7_commands 23 = .ok (.aload_n 0, 1) := by decide +kernel
theorem dX7_commands_24 : decode cX7_commands 24 = .ok (.getfield 42, 3) := by decide +kernel
theorem dX7_commands_27 : decode cX7_commands 27 = .ok (.invokevirtual 180, 3) := by decide +kernel
theorem dX7_commands_30 : decode cX7_commands 30 = .ok (.new 86, 3) := by decide +kernel
theorem dX7_commands_33 : decode cX7_commands 33 = .ok (.dup, 1) := by decide +kernel
theorem dX7_commands_34 : decode cX7_commands 34 = .ok (.invokespecial 88, 3) := by decide +kernel
theorem dX7_commands_37 : decode cX7_commands 37 = .ok (.athrow, 1) := by decide +kernel
theorem dX7_commands_38 : decode cX7_commands 38 = .ok (.aload_n 0, 1) := by decide +kernel
theorem dX7_commands_39 : decode cX7_commands 39 = .ok (.getfield 53, 3) := by decide +kernel
theorem dX7_commands_42 : decode cX7_commands 42 = .ok (.aload_n 0, 1) := by decide +kernel
theorem dX7_commands_43 : decode cX7_commands 43 = .ok (.getfield 10, 3) := by decide +kernel
theorem dX7_commands_46 : decode cX7_commands 46 = .ok (.invokevirtual 183, 3) := by decide +kernel
theorem dX7_commands_49 : decode cX7_commands 49 = .ok (.aload_n 0, 1) := by decide +kernel
theorem dX7_commands_50 : decode cX7_commands 50 = .ok (.invokevirtual 186, 3) := by decide +kernel
theorem dX7_commands_53 : decode cX7_commands 53 = .ok (.istore_n 1, 1) := by decide +kernel
theorem dX7_commands_54 : decode cX7_commands 54 = .ok (.aload_n 0, 1) := by decide +kernel
theorem dX7_commands_55 : decode cX7_commands 55 = .ok (.getfield 42, 3) := by decide +kernel
theorem dX7_commands_58 : decode cX7_commands 58 = .ok (.invokevirtual 180, 3) := by decide +kernel
theorem dX7_commands_61 : decode cX7_commands 61 = .ok (.iload_n 1, 1) := by decide +kernel
theorem dX7_commands_62 : decode cX7_commands 62 = .ok (.iconst (-1), 1) := by decide +kernel
theorem dX7_commands_63 : decode cX7_commands 63 = .ok (.if_icmp .ne 22, 3) := by decide +kernel
theorem dX7_commands_66 : decode cX7_commands 66 = .ok (.aload_n 0, 1) := by decide +kernel
theorem dX7_commands_67 : decode cX7_commands 67 = .ok (.getfield 10, 3) := by decide +kernel
theorem dX7_commands_70 : decode cX7_commands 70 = .ok (.aload_n 0, 1) := by decide +kernel
theorem dX7_commands_71 : decode cX7_commands 71 = .ok (.getfield 53, 3) := by decide +kernel
theorem dX7_commands_74 : decode cX7_commands 74 = .ok (.invokevirtual 183, 3) := by decide +kernel
theorem dX7_commands_77 : decode cX7_commands 77 = .ok (.new 189, 3) := by decide +kernel
theorem dX7_commands_80 : decode cX7_commands 80 = .ok (.dup, 1) := by decide +kernel
theorem dX7_commands_81 : decode cX7_commands 81 = .ok (.invokespecial 191, 3) := by decide +kernel
theorem dX7_commands_84 : decode cX7_commands 84 = .ok (.athrow, 1) := by decide +kernel
theorem dX7_commands_85 : decode cX7_commands 85 = .ok (.aload_n 0, 1) := by decide +kernel
theorem dX7_commands_86 : decode cX7_commands 86 = .ok (.getfield 49, 3) := by decide +kernel
theorem dX7_commands_89 : decode cX7_commands 89 = .ok (.aload_n 0, 1) := by decide +kernel
theorem dX7_commands_90 : decode cX7_commands 90 = .ok (.getfield 53, 3) := by decide +kernel
theorem dX7_commands_93 : decode cX7_commands 93 = .ok (.invokevirtual 192, 3) := by decide +kernel
theorem dX7_commands_96 : decode cX7_commands 96 = .ok (.iload_n 1, 1) := by decide +kernel
theorem dX7_commands_97 : decode cX7_commands 97 = .ok (.ireturn, 1) := by decide +kernel
theorem dX7_faultPosition_0 : decode cX7_faultPosition 0 = .ok (.aload_n 0, 1) := by decide +kernel
theorem dX7_faultPosition_1 : decode cX7_faultPosition 1 = .ok (.getfield 63, 3) := by decide +kernel
theorem dX7_faultPosition_4 : decode cX7_faultPosition 4 = .ok (.ireturn, 1) := by decide +kernel
set_option maxRecDepth 20000 in
theorem ggX7_reason_X0_hasRefused : GoodIn wsX7_reason wsX0_hasRefused := goodIn_r _ [10, 11, 37, 38, 39, 40, 41] (by decide +kernel) (by decide +kernel)
set_option maxRecDepth 20000 in
theorem gX7_reason_X0_hasRefused : GoodIn wsX7_reason (wsV RX7 195 RX0 yX0_hasRefused wsX0_hasRefused) := goodIn_app (goodIn_of _ (by decide +kernel)) ggX7_reason_X0_hasRefused
set_option maxRecDepth 20000 in
theorem ggX7_reason_X0_keptReason : GoodIn wsX7_reason wsX0_keptReason := goodIn_r _ [15, 11, 37, 38, 39, 40, 41] (by decide +kernel) (by decide +kernel)
set_option maxRecDepth 20000 in
theorem gX7_reason_X0_keptReason : GoodIn wsX7_reason (wsV RX7 199 RX0 yX0_keptReason wsX0_keptReason) := goodIn_app (goodIn_of _ (by decide +kernel)) ggX7_reason_X0_keptReason
set_option maxRecDepth 20000 in
theorem ggX7_reason_X0_keptDetail : GoodIn wsX7_reason wsX0_keptDetail := goodIn_r _ [19, 20, 37, 38, 39, 40, 41] (by decide +kernel) (by decide +kernel)
set_option maxRecDepth 20000 in
theorem gX7_reason_X0_keptDetail : GoodIn wsX7_reason (wsV RX7 202 RX0 yX0_keptDetail wsX0_keptDetail) := goodIn_app (goodIn_of _ (by decide +kernel)) ggX7_reason_X0_keptDetail
set_option maxRecDepth 20000 in
theorem ggX7_reason_X0_keptIndex : GoodIn wsX7_reason wsX0_keptIndex := goodIn_r _ [24, 25, 37, 38, 39, 40, 41] (by decide +kernel) (by decide +kernel)
set_option maxRecDepth 20000 in
theorem gX7_reason_X0_keptIndex : GoodIn wsX7_reason (wsV RX7 205 RX0 yX0_keptIndex wsX0_keptIndex) := goodIn_app (goodIn_of _ (by decide +kernel)) ggX7_reason_X0_keptIndex
theorem dX7_reason_0 : decode cX7_reason 0 = .ok (.iload_n 1, 1) := by decide +kernel
theorem dX7_reason_1 : decode cX7_reason 1 = .ok (.ifCond .lt 8, 3) := by decide +kernel
theorem dX7_reason_4 : decode cX7_reason 4 = .ok (.iload_n 1, 1) := by decide +kernel
theorem dX7_reason_5 : decode cX7_reason 5 = .ok (.iconst 2, 1) := by decide +kernel
theorem dX7_reason_6 : decode cX7_reason 6 = .ok (.if_icmp .le 11, 3) := by decide +kernel
theorem dX7_reason_9 : decode cX7_reason 9 = .ok (.new 86, 3) := by decide +kernel
theorem dX7_reason_12 : decode cX7_reason 12 = .ok (.dup, 1) := by decide +kernel
theorem dX7_reason_13 : decode cX7_reason 13 = .ok (.invokespecial 88, 3) := by decide +kernel
theorem dX7_reason_16 : decode cX7_reason 16 = .ok (.athrow, 1) := by decide +kernel
theorem dX7_reason_17 : decode cX7_reason 17 = .ok (.aload_n 0, 1) := by decide +kernel
theorem dX7_reason_18 : decode cX7_reason 18 = .ok (.getfield 28, 3) := by decide +kernel
theorem dX7_reason_21 : decode cX7_reason 21 = .ok (.invokevirtual 195, 3) := by decide +kernel
theorem dX7_reason_24 : decode cX7_reason 24 = .ok (.ifCond .ne 11, 3) := by decide +kernel
theorem dX7_reason_27 : decode cX7_reason 27 = .ok (.new 118, 3) := by decide +kernel
theorem dX7_reason_30 : decode cX7_reason 30 = .ok (.dup, 1) := by decide +kernel
theorem dX7_reason_31 : decode cX7_reason 31 = .ok (.invokespecial 120, 3) := by decide +kernel
theorem dX7_reason_34 : decode cX7_reason 34 = .ok (.athrow, 1) := by decide +kernel
theorem dX7_reason_35 : decode cX7_reason 35 = .ok (.iload_n 1, 1) := by decide +kernel
theorem dX7_reason_36 : decode cX7_reason 36 = .ok (.lookupswitch 44 #[(0, 28), (1, 36)], 28) := by decide +kernel
theorem dX7_reason_64 : decode cX7_reason 64 = .ok (.aload_n 0, 1) := by decide +kernel
theorem dX7_reason_65 : decode cX7_reason 65 = .ok (.getfield 28, 3) := by decide +kernel
theorem dX7_reason_68 : decode cX7_reason 68 = .ok (.invokevirtual 199, 3) := by decide +kernel
theorem dX7_reason_71 : decode cX7_reason 71 = .ok (.ireturn, 1) := by decide +kernel
theorem dX7_reason_72 : decode cX7_reason 72 = .ok (.aload_n 0, 1) := by decide +kernel
theorem dX7_reason_73 : decode cX7_reason 73 = .ok (.getfield 28, 3) := by decide +kernel
theorem dX7_reason_76 : decode cX7_reason 76 = .ok (.invokevirtual 202, 3) := by decide +kernel
theorem dX7_reason_79 : decode cX7_reason 79 = .ok (.ireturn, 1) := by decide +kernel
theorem dX7_reason_80 : decode cX7_reason 80 = .ok (.aload_n 0, 1) := by decide +kernel
theorem dX7_reason_81 : decode cX7_reason 81 = .ok (.getfield 28, 3) := by decide +kernel
theorem dX7_reason_84 : decode cX7_reason 84 = .ok (.invokevirtual 205, 3) := by decide +kernel
theorem dX7_reason_87 : decode cX7_reason 87 = .ok (.ireturn, 1) := by decide +kernel
set_option maxRecDepth 20000 in
theorem ggX7_line_X7_demandLevel : GoodIn wsX7_line wsX7_demandLevel := goodIn_ca (goodIn_r _ [6, 7, 8] (by decide +kernel) (by decide +kernel)) (goodIn_sub (fun _ h => List.mem_cons_of_mem _ (List.mem_append_left _ (List.mem_append_right _ h))) (by decide +kernel))
set_option maxRecDepth 20000 in
theorem gX7_line_X7_demandLevel : GoodIn wsX7_line (va_wsS RX7 137 yX7_demandLevel wsX7_demandLevel) := goodIn_app (goodIn_of _ (by decide +kernel)) ggX7_line_X7_demandLevel
set_option maxRecDepth 20000 in
theorem ggX7_line_J4_setLength_d00df : GoodIn wsX7_line wsJ4_setLength_d00df := goodIn_r _ [13, 14, 15, 16, 17, 18, 19, 20, 21, 22, 23, 24, 25, 26, 27, 28, 29, 30, 31, 32, 33, 34, 35, 36, 37, 38, 39, 40, 41, 42, 43, 44, 45, 46, 47, 48, 49, 50, 51, 52, 53, 54, 55, 56, 57, 58, 59, 60, 61, 62, 63, 64, 65, 66, 67, 68, 69, 70, 71, 72, 73, 74, 75, 76, 77, 78, 79, 80, 81, 82, 83, 84, 85, 12, 86, 87, 88, 89, 90, 91, 92, 93, 234, 235, 236, 237, 238, 239, 240, 241, 242, 243, 244, 245, 246, 247, 248, 249] (by decide +kernel) (by decide +kernel)
set_option maxRecDepth 20000 in
theorem gX7_line_J4_setLength_d00df : GoodIn wsX7_line (wsV RX7 208 RJ4 yJ4_setLength_d00df wsJ4_setLength_d00df) := goodIn_app (goodIn_of _ (by decide +kernel)) ggX7_line_J4_setLength_d00df
set_option maxRecDepth 20000 in
theorem ggX7_line_J4_append_bf812 : GoodIn wsX7_line wsJ4_append_bf812 := goodIn_r _ [97, 98, 99, 16, 100, 18, 101, 23, 24, 102, 103, 104, 105, 26, 27, 28, 29, 30, 31, 32, 33, 34, 35, 36, 37, 38, 39, 40, 41, 42, 43, 44, 45, 46, 47, 48, 49, 50, 51, 52, 53, 54, 55, 56, 57, 58, 59, 60, 61, 62, 63, 64, 65, 66, 67, 68, 69, 70, 71, 72, 73, 106, 107, 108, 109, 110, 111, 112, 91, 113, 114, 115, 116, 117, 118, 119, 120, 121, 122, 123, 124, 125, 126, 127, 128, 129, 130, 131, 132, 133, 134, 135, 136, 137, 138, 139, 240, 241, 242, 243] (by decide +kernel) (by decide +kernel)
set_option maxRecDepth 20000 in
theorem gX7_line_J4_append_bf812 : GoodIn wsX7_line (wsV RX7 211 RJ4 yJ4_append_bf812 wsJ4_append_bf812) := goodIn_app (goodIn_of _ (by decide +kernel)) ggX7_line_J4_append_bf812
set_option maxRecDepth 20000 in
theorem ggX7_line_X3_isHidden : GoodIn wsX7_line wsX3_isHidden := goodIn_r _ [144, 145, 250, 251, 252, 253, 254, 255] (by decide +kernel) (by decide +kernel)
set_option maxRecDepth 20000 in
theorem gX7_line_X3_isHidden : GoodIn wsX7_line (wsV RX7 153 RX3 yX3_isHidden wsX3_isHidden) := goodIn_app (goodIn_of _ (by decide +kernel)) ggX7_line_X3_isHidden
set_option maxRecDepth 20000 in
theorem ggX7_line_J4_append_cf468 : GoodIn wsX7_line wsJ4_append_cf468 := goodIn_r _ [149, 150, 151, 16, 152, 18, 153, 23, 24, 26, 27, 28, 29, 30, 31, 32, 33, 34, 35, 36, 37, 38, 39, 40, 41, 42, 43, 44, 45, 46, 47, 48, 49, 50, 51, 52, 53, 54, 55, 56, 57, 58, 59, 60, 61, 62, 63, 64, 65, 66, 67, 68, 69, 70, 71, 72, 73, 154, 155, 76, 156, 157, 158, 159, 160, 161, 162, 163, 91, 164, 165, 166, 167, 168, 169, 170, 171, 172, 173, 174, 175, 176, 177, 118, 119, 120, 178, 179, 123, 180, 125, 181, 182, 128, 183, 135, 136, 137, 114, 138, 139, 184, 185, 186, 187, 188, 189, 190, 191, 192, 193, 194, 195, 240, 241, 242, 243] (by decide +kernel) (by decide +kernel)
set_option maxRecDepth 20000 in
theorem gX7_line_J4_append_cf468 : GoodIn wsX7_line (wsV RX7 215 RJ4 yJ4_append_cf468 wsJ4_append_cf468) := goodIn_app (goodIn_of _ (by decide +kernel)) ggX7_line_J4_append_cf468
set_option maxRecDepth 20000 in
theorem ggX7_line_X3_size : GoodIn wsX7_line wsX3_size := goodIn_r _ [199, 200, 250, 251, 252, 253, 254, 255] (by decide +kernel) (by decide +kernel)
set_option maxRecDepth 20000 in
theorem gX7_line_X3_size : GoodIn wsX7_line (wsV RX7 134 RX3 yX3_size wsX3_size) := goodIn_app (goodIn_of _ (by decide +kernel)) ggX7_line_X3_size
set_option maxRecDepth 20000 in
theorem ggX7_line_X3_hasRung : GoodIn wsX7_line wsX3_hasRung := goodIn_ca (goodIn_r _ [204, 205, 206, 207, 208, 143, 209, 200, 250, 251, 252, 253, 254, 255] (by decide +kernel) (by decide +kernel)) (goodIn_sub (fun _ h => List.mem_cons_of_mem _ (List.mem_append_right _ h)) (by decide +kernel))
set_option maxRecDepth 20000 in
theorem gX7_line_X3_hasRung : GoodIn wsX7_line (wsV RX7 147 RX3 yX3_hasRung wsX3_hasRung) := goodIn_app (goodIn_of _ (by decide +kernel)) ggX7_line_X3_hasRung
set_option maxRecDepth 20000 in
theorem ggX7_line_X3_keyOf : GoodIn wsX7_line wsX3_keyOf := goodIn_ca (goodIn_r _ [213, 214, 206, 207, 208, 143, 209, 200, 250, 251, 252, 253, 254, 255] (by decide +kernel) (by decide +kernel)) (goodIn_sub (fun _ h => List.mem_cons_of_mem _ (List.mem_append_right _ h)) (by decide +kernel))
set_option maxRecDepth 20000 in
theorem gX7_line_X3_keyOf : GoodIn wsX7_line (wsV RX7 124 RX3 yX3_keyOf wsX3_keyOf) := goodIn_app (goodIn_of _ (by decide +kernel)) ggX7_line_X3_keyOf
set_option maxRecDepth 20000 in
theorem ggX7_line_J4_length_8abf5 : GoodIn wsX7_line wsJ4_length_8abf5 := goodIn_r _ [218, 219, 220, 16, 221, 18, 222, 23, 240, 241, 242, 243] (by decide +kernel) (by decide +kernel)
set_option maxRecDepth 20000 in
theorem gX7_line_J4_length_8abf5 : GoodIn wsX7_line (wsV RX7 218 RJ4 yJ4_length_8abf5 wsJ4_length_8abf5) := goodIn_app (goodIn_of _ (by decide +kernel)) ggX7_line_J4_length_8abf5
theorem dX7_line_0 : decode cX7_line 0 = .ok (.iload_n 1, 1) := by decide +kernel
theorem dX7_line_1 : decode cX7_line 1 = .ok (.invokestatic 137, 3) := by decide +kernel
theorem dX7_line_4 : decode cX7_line 4 = .ok (.aload_n 0, 1) := by decide +kernel
theorem dX7_line_5 : decode cX7_line 5 = .ok (.getfield 70, 3) := by decide +kernel
theorem dX7_line_8 : decode cX7_line 8 = .ok (.iconst 0, 1) := by decide +kernel
theorem dX7_line_9 : decode cX7_line 9 = .ok (.invokevirtual 208, 3) := by decide +kernel
theorem dX7_line_12 : decode cX7_line 12 = .ok (.aload_n 0, 1) := by decide +kernel
theorem dX7_line_13 : decode cX7_line 13 = .ok (.getfield 70, 3) := by decide +kernel
theorem dX7_line_16 : decode cX7_line 16 = .ok (.iload_n 1, 1) := by decide +kernel
theorem dX7_line_17 : decode cX7_line 17 = .ok (.invokevirtual 211, 3) := by decide +kernel
theorem dX7_line_20 : decode cX7_line 20 = .ok (.pop, 1) := by decide +kernel
theorem dX7_line_21 : decode cX7_line 21 = .ok (.aload_n 0, 1) := by decide +kernel
theorem dX7_line_22 : decode cX7_line 22 = .ok (.getfield 10, 3) := by decide +kernel
theorem dX7_line_25 : decode cX7_line 25 = .ok (.iload_n 1, 1) := by decide +kernel
theorem dX7_line_26 : decode cX7_line 26 = .ok (.invokevirtual 153, 3) := by decide +kernel
theorem dX7_line_29 : decode cX7_line 29 = .ok (.ifCond .eq 13, 3) := by decide +kernel
theorem dX7_line_32 : decode cX7_line 32 = .ok (.aload_n 0, 1) := by decide +kernel
theorem dX7_line_33 : decode cX7_line 33 = .ok (.getfield 70, 3) := by decide +kernel
theorem dX7_line_36 : decode cX7_line 36 = .ok (.bipush 33, 2) := by decide +kernel
theorem dX7_line_38 : decode cX7_line 38 = .ok (.invokevirtual 215, 3) := by decide +kernel
theorem dX7_line_41 : decode cX7_line 41 = .ok (.pop, 1) := by decide +kernel
theorem dX7_line_42 : decode cX7_line 42 = .ok (.aload_n 0, 1) := by decide +kernel
theorem dX7_line_43 : decode cX7_line 43 = .ok (.getfield 70, 3) := by decide +kernel
theorem dX7_line_46 : decode cX7_line 46 = .ok (.bipush 58, 2) := by decide +kernel
theorem dX7_line_48 : decode cX7_line 48 = .ok (.invokevirtual 215, 3) := by decide +kernel
theorem dX7_line_51 : decode cX7_line 51 = .ok (.pop, 1) := by decide +kernel
theorem dX7_line_52 : decode cX7_line 52 = .ok (.iconst 0, 1) := by decide +kernel
theorem dX7_line_53 : decode cX7_line 53 = .ok (.istore_n 2, 1) := by decide +kernel
theorem dX7_line_54 : decode cX7_line 54 = .ok (.iload_n 2, 1) := by decide +kernel
theorem dX7_line_55 : decode cX7_line 55 = .ok (.aload_n 0, 1) := by decide +kernel
theorem dX7_line_56 : decode cX7_line 56 = .ok (.getfield 10, 3) := by decide +kernel
theorem dX7_line_59 : decode cX7_line 59 = .ok (.invokevirtual 134, 3) := by decide +kernel
theorem dX7_line_62 : decode cX7_line 62 = .ok (.if_icmp .ge 47, 3) := by decide +kernel
theorem dX7_line_65 : decode cX7_line 65 = .ok (.aload_n 0, 1) := by decide +kernel
theorem dX7_line_66 : decode cX7_line 66 = .ok (.getfield 10, 3) := by decide +kernel
theorem dX7_line_69 : decode cX7_line 69 = .ok (.iload_n 2, 1) := by decide +kernel
theorem dX7_line_70 : decode cX7_line 70 = .ok (.iload_n 1, 1) := by decide +kernel
theorem dX7_line_71 : decode cX7_line 71 = .ok (.invokevirtual 147, 3) := by decide +kernel
theorem dX7_line_74 : decode cX7_line 74 = .ok (.ifCond .eq 29, 3) := by decide +kernel
theorem dX7_line_77 : decode cX7_line 77 = .ok (.aload_n 0, 1) := by decide +kernel
theorem dX7_line_78 : decode cX7_line 78 = .ok (.getfield 70, 3) := by decide +kernel
theorem dX7_line_81 : decode cX7_line 81 = .ok (.bipush 32, 2) := by decide +kernel
theorem dX7_line_83 : decode cX7_line 83 = .ok (.invokevirtual 215, 3) := by decide +kernel
theorem dX7_line_86 : decode cX7_line 86 = .ok (.pop, 1) := by decide +kernel
theorem dX7_line_87 : decode cX7_line 87 = .ok (.aload_n 0, 1) := by decide +kernel
theorem dX7_line_88 : decode cX7_line 88 = .ok (.getfield 70, 3) := by decide +kernel
theorem dX7_line_91 : decode cX7_line 91 = .ok (.aload_n 0, 1) := by decide +kernel
theorem dX7_line_92 : decode cX7_line 92 = .ok (.getfield 10, 3) := by decide +kernel
theorem dX7_line_95 : decode cX7_line 95 = .ok (.iload_n 2, 1) := by decide +kernel
theorem dX7_line_96 : decode cX7_line 96 = .ok (.invokevirtual 124, 3) := by decide +kernel
theorem dX7_line_99 : decode cX7_line 99 = .ok (.invokevirtual 211, 3) := by decide +kernel
theorem dX7_line_102 : decode cX7_line 102 = .ok (.pop, 1) := by decide +kernel
theorem dX7_line_103 : decode cX7_line 103 = .ok (.iinc 2 1, 3) := by decide +kernel
theorem dX7_line_106 : decode cX7_line 106 = .ok (.goto (-52), 3) := by decide +kernel
theorem dX7_line_109 : decode cX7_line 109 = .ok (.aload_n 0, 1) := by decide +kernel
theorem dX7_line_110 : decode cX7_line 110 = .ok (.getfield 70, 3) := by decide +kernel
theorem dX7_line_113 : decode cX7_line 113 = .ok (.invokevirtual 218, 3) := by decide +kernel
theorem dX7_line_116 : decode cX7_line 116 = .ok (.ireturn, 1) := by decide +kernel
set_option maxRecDepth 20000 in
theorem ggX7_character_J4_length_8abf5 : GoodIn wsX7_character wsJ4_length_8abf5 := goodIn_r _ [8, 9, 10, 11, 12, 13, 14, 15, 60, 61, 62, 63] (by decide +kernel) (by decide +kernel)
set_option maxRecDepth 20000 in
theorem gX7_character_J4_length_8abf5 : GoodIn wsX7_character (wsV RX7 218 RJ4 yJ4_length_8abf5 wsJ4_length_8abf5) := goodIn_app (goodIn_of _ (by decide +kernel)) ggX7_character_J4_length_8abf5
set_option maxRecDepth 20000 in
theorem ggX7_character_J4_charAt_5068e : GoodIn wsX7_character wsJ4_charAt_5068e := goodIn_r _ [19, 20, 21, 11, 22, 13, 23, 24, 25, 15, 26, 27, 28, 29, 30, 31, 32, 33, 34, 35, 36, 37, 38, 39, 40, 41, 42, 43, 44, 45, 46, 47, 48, 60, 61, 62, 63] (by decide +kernel) (by decide +kernel)
set_option maxRecDepth 20000 in
theorem gX7_character_J4_charAt_5068e : GoodIn wsX7_character (wsV RX7 222 RJ4 yJ4_charAt_5068e wsJ4_charAt_5068e) := goodIn_app (goodIn_of _ (by decide +kernel)) ggX7_character_J4_charAt_5068e
theorem dX7_character_0 : decode cX7_character 0 = .ok (.iload_n 1, 1) := by decide +kernel
theorem dX7_character_1 : decode cX7_character 1 = .ok (.ifCond .lt 14, 3) := by decide +kernel
theorem dX7_character_4 : decode cX7_character 4 = .ok (.iload_n 1, 1) := by decide +kernel
theorem dX7_character_5 : decode cX7_character 5 = .ok (.aload_n 0, 1) := by decide +kernel
theorem dX7_character_6 : decode cX7_character 6 = .ok (.getfield 70, 3) := by decide +kernel
theorem dX7_character_9 : decode cX7_character 9 = .ok (.invokevirtual 218, 3) := by decide +kernel
theorem dX7_character_12 : decode cX7_character 12 = .ok (.if_icmp .lt 11, 3) := by decide +kernel
theorem dX7_character_15 : decode cX7_character 15 = .ok (.new 219, 3) := by decide +kernel
theorem dX7_character_18 : decode cX7_character 18 = .ok (.dup, 1) := by decide +kernel
theorem dX7_character_19 : decode cX7_character 19 = .ok (.invokespecial 221, 3) := by decide +kernel
theorem dX7_character_22 : decode cX7_character 22 = .ok (.athrow, 1) := by decide +kernel
theorem dX7_character_23 : decode cX7_character 23 = .ok (.aload_n 0, 1) := by decide +kernel
theorem dX7_character_24 : decode cX7_character 24 = .ok (.getfield 70, 3) := by decide +kernel
theorem dX7_character_27 : decode cX7_character 27 = .ok (.iload_n 1, 1) := by decide +kernel
theorem dX7_character_28 : decode cX7_character 28 = .ok (.invokevirtual 222, 3) := by decide +kernel
theorem dX7_character_31 : decode cX7_character 31 = .ok (.ireturn, 1) := by decide +kernel
set_option maxRecDepth 20000 in
theorem ggX7_meanSteps_X3_size : GoodIn wsX7_meanSteps wsX3_size := goodIn_r _ [9, 10, 89, 90, 91, 92, 93, 94] (by decide +kernel) (by decide +kernel)
set_option maxRecDepth 20000 in
theorem gX7_meanSteps_X3_size : GoodIn wsX7_meanSteps (wsV RX7 134 RX3 yX3_size wsX3_size) := goodIn_app (goodIn_of _ (by decide +kernel)) ggX7_meanSteps_X3_size
set_option maxRecDepth 20000 in
theorem ggX7_meanSteps_X3_keyOf : GoodIn wsX7_meanSteps wsX3_keyOf := goodIn_ca (goodIn_r _ [14, 15, 16, 17, 18, 8, 19, 10, 89, 90, 91, 92, 93, 94] (by decide +kernel) (by decide +kernel)) (goodIn_sub (fun _ h => List.mem_cons_of_mem _ (List.mem_append_right _ h)) (by decide +kernel))
set_option maxRecDepth 20000 in
theorem gX7_meanSteps_X3_keyOf : GoodIn wsX7_meanSteps (wsV RX7 124 RX3 yX3_keyOf wsX3_keyOf) := goodIn_app (goodIn_of _ (by decide +kernel)) ggX7_meanSteps_X3_keyOf
set_option maxRecDepth 20000 in
theorem ggX7_meanSteps_X6_stepsTo : GoodIn wsX7_meanSteps wsX6_stepsTo := goodIn_ca (goodIn_r _ [24, 25, 26, 27, 28, 29, 23, 30, 31, 32, 33, 34, 35, 36, 37, 8, 38, 39, 40, 41, 42, 10, 43, 44, 45, 46, 47, 48, 49, 50, 51, 16, 17, 18, 19, 52, 53, 54, 55, 56, 57, 58, 59, 60, 61, 62, 63, 64, 65, 66, 67, 68, 69, 70, 71, 72, 73, 74, 75, 76, 15, 77, 95, 96, 97, 98, 99, 100, 89, 90, 91, 92, 93, 94] (by decide +kernel) (by decide +kernel)) (goodIn_sub (fun _ h => List.mem_cons_of_mem _ (List.mem_append_right _ h)) (by decide +kernel))
set_option maxRecDepth 20000 in
theorem gX7_meanSteps_X6_stepsTo : GoodIn wsX7_meanSteps (wsV RX7 99 RX6 yX6_stepsTo wsX6_stepsTo) := goodIn_app (goodIn_of _ (by decide +kernel)) ggX7_meanSteps_X6_stepsTo
theorem dX7_meanSteps_0 : decode cX7_meanSteps 0 = .ok (.aload_n 0, 1) := by decide +kernel
theorem dX7_meanSteps_1 : decode cX7_meanSteps 1 = .ok (.getfield 10, 3) := by decide +kernel
theorem dX7_meanSteps_4 : decode cX7_meanSteps 4 = .ok (.invokevirtual 134, 3) := by decide +kernel
theorem dX7_meanSteps_7 : decode cX7_meanSteps 7 = .ok (.ifCond .ne 11, 3) := by decide +kernel
theorem dX7_meanSteps_10 : decode cX7_meanSteps 10 = .ok (.new 226, 3) := by decide +kernel
theorem dX7_meanSteps_13 : decode cX7_meanSteps 13 = .ok (.dup, 1) := by decide +kernel
theorem dX7_meanSteps_14 : decode cX7_meanSteps 14 = .ok (.invokespecial 228, 3) := by decide +kernel
theorem dX7_meanSteps_17 : decode cX7_meanSteps 17 = .ok (.athrow, 1) := by decide +kernel
theorem dX7_meanSteps_18 : decode cX7_meanSteps 18 = .ok (.iconst 0, 1) := by decide +kernel
theorem dX7_meanSteps_19 : decode cX7_meanSteps 19 = .ok (.istore_n 1, 1) := by decide +kernel
theorem dX7_meanSteps_20 : decode cX7_meanSteps 20 = .ok (.iconst 0, 1) := by decide +kernel
theorem dX7_meanSteps_21 : decode cX7_meanSteps 21 = .ok (.istore_n 2, 1) := by decide +kernel
theorem dX7_meanSteps_22 : decode cX7_meanSteps 22 = .ok (.iload_n 2, 1) := by decide +kernel
theorem dX7_meanSteps_23 : decode cX7_meanSteps 23 = .ok (.aload_n 0, 1) := by decide +kernel
theorem dX7_meanSteps_24 : decode cX7_meanSteps 24 = .ok (.getfield 10, 3) := by decide +kernel
theorem dX7_meanSteps_27 : decode cX7_meanSteps 27 = .ok (.invokevirtual 134, 3) := by decide +kernel
theorem dX7_meanSteps_30 : decode cX7_meanSteps 30 = .ok (.if_icmp .ge 27, 3) := by decide +kernel
theorem dX7_meanSteps_33 : decode cX7_meanSteps 33 = .ok (.iload_n 1, 1) := by decide +kernel
theorem dX7_meanSteps_34 : decode cX7_meanSteps 34 = .ok (.aload_n 0, 1) := by decide +kernel
theorem dX7_meanSteps_35 : decode cX7_meanSteps 35 = .ok (.getfield 21, 3) := by decide +kernel
theorem dX7_meanSteps_38 : decode cX7_meanSteps 38 = .ok (.aload_n 0, 1) := by decide +kernel
theorem dX7_meanSteps_39 : decode cX7_meanSteps 39 = .ok (.getfield 10, 3) := by decide +kernel
theorem dX7_meanSteps_42 : decode cX7_meanSteps 42 = .ok (.iload_n 2, 1) := by decide +kernel
theorem dX7_meanSteps_43 : decode cX7_meanSteps 43 = .ok (.invokevirtual 124, 3) := by decide +kernel
theorem dX7_meanSteps_46 : decode cX7_meanSteps 46 = .ok (.invokevirtual 99, 3) := by decide +kernel
theorem dX7_meanSteps_49 : decode cX7_meanSteps 49 = .ok (.iadd, 1) := by decide +kernel
theorem dX7_meanSteps_50 : decode cX7_meanSteps 50 = .ok (.istore_n 1, 1) := by decide +kernel
theorem dX7_meanSteps_51 : decode cX7_meanSteps 51 = .ok (.iinc 2 1, 3) := by decide +kernel
theorem dX7_meanSteps_54 : decode cX7_meanSteps 54 = .ok (.goto (-32), 3) := by decide +kernel
theorem dX7_meanSteps_57 : decode cX7_meanSteps 57 = .ok (.iload_n 1, 1) := by decide +kernel
theorem dX7_meanSteps_58 : decode cX7_meanSteps 58 = .ok (.i2d, 1) := by decide +kernel
theorem dX7_meanSteps_59 : decode cX7_meanSteps 59 = .ok (.aload_n 0, 1) := by decide +kernel
theorem dX7_meanSteps_60 : decode cX7_meanSteps 60 = .ok (.getfield 10, 3) := by decide +kernel
theorem dX7_meanSteps_63 : decode cX7_meanSteps 63 = .ok (.invokevirtual 134, 3) := by decide +kernel
theorem dX7_meanSteps_66 : decode cX7_meanSteps 66 = .ok (.i2d, 1) := by decide +kernel
theorem dX7_meanSteps_67 : decode cX7_meanSteps 67 = .ok (.ddiv, 1) := by decide +kernel
theorem dX7_meanSteps_68 : decode cX7_meanSteps 68 = .ok (.dreturn, 1) := by decide +kernel
set_option maxRecDepth 20000 in
theorem ggX7_meanRungs_X3_size : GoodIn wsX7_meanRungs wsX3_size := goodIn_r _ [8, 9, 34, 35, 36, 37, 38, 39] (by decide +kernel) (by decide +kernel)
set_option maxRecDepth 20000 in
theorem gX7_meanRungs_X3_size : GoodIn wsX7_meanRungs (wsV RX7 134 RX3 yX3_size wsX3_size) := goodIn_app (goodIn_of _ (by decide +kernel)) ggX7_meanRungs_X3_size
set_option maxRecDepth 20000 in
theorem ggX7_meanRungs_X3_allRungs : GoodIn wsX7_meanRungs wsX3_allRungs := goodIn_ca (goodIn_r _ [13, 9, 14, 15, 16, 7, 17, 18, 19, 20, 21, 22, 34, 35, 36, 37, 38, 39] (by decide +kernel) (by decide +kernel)) (goodIn_sub (fun _ h => List.mem_cons_of_mem _ (List.mem_append_right _ h)) (by decide +kernel))
set_option maxRecDepth 20000 in
theorem gX7_meanRungs_X3_allRungs : GoodIn wsX7_meanRungs (wsV RX7 229 RX3 yX3_allRungs wsX3_allRungs) := goodIn_app (goodIn_of _ (by decide +kernel)) ggX7_meanRungs_X3_allRungs
theorem dX7_meanRungs_0 : decode cX7_meanRungs 0 = .ok (.aload_n 0, 1) := by decide +kernel
theorem dX7_meanRungs_1 : decode cX7_meanRungs 1 = .ok (.getfield 10, 3) := by decide +kernel
theorem dX7_meanRungs_4 : decode cX7_meanRungs 4 = .ok (.invokevirtual 134, 3) := by decide +kernel
theorem dX7_meanRungs_7 : decode cX7_meanRungs 7 = .ok (.ifCond .ne 11, 3) := by decide +kernel
theorem dX7_meanRungs_10 : decode cX7_meanRungs 10 = .ok (.new 226, 3) := by decide +kernel
theorem dX7_meanRungs_13 : decode cX7_meanRungs 13 = .ok (.dup, 1) := by decide +kernel
theorem dX7_meanRungs_14 : decode cX7_meanRungs 14 = .ok (.invokespecial 228, 3) := by decide +kernel
theorem dX7_meanRungs_17 : decode cX7_meanRungs 17 = .ok (.athrow, 1) := by decide +kernel
theorem dX7_meanRungs_18 : decode cX7_meanRungs 18 = .ok (.aload_n 0, 1) := by decide +kernel
theorem dX7_meanRungs_19 : decode cX7_meanRungs 19 = .ok (.getfield 10, 3) := by decide +kernel
theorem dX7_meanRungs_22 : decode cX7_meanRungs 22 = .ok (.invokevirtual 229, 3) := by decide +kernel
theorem dX7_meanRungs_25 : decode cX7_meanRungs 25 = .ok (.i2f, 1) := by decide +kernel
theorem dX7_meanRungs_26 : decode cX7_meanRungs 26 = .ok (.aload_n 0, 1) := by decide +kernel
theorem dX7_meanRungs_27 : decode cX7_meanRungs 27 = .ok (.getfield 10, 3) := by decide +kernel
theorem dX7_meanRungs_30 : decode cX7_meanRungs 30 = .ok (.invokevirtual 134, 3) := by decide +kernel
theorem dX7_meanRungs_33 : decode cX7_meanRungs 33 = .ok (.i2f, 1) := by decide +kernel
theorem dX7_meanRungs_34 : decode cX7_meanRungs 34 = .ok (.fdiv, 1) := by decide +kernel
theorem dX7_meanRungs_35 : decode cX7_meanRungs 35 = .ok (.freturn, 1) := by decide +kernel
set_option maxRecDepth 20000 in
theorem ggX7_account_X3_size : GoodIn wsX7_account wsX3_size := goodIn_r _ [10, 11, 98, 99, 100, 101, 102, 103] (by decide +kernel) (by decide +kernel)
set_option maxRecDepth 20000 in
theorem gX7_account_X3_size : GoodIn wsX7_account (wsV RX7 134 RX3 yX3_size wsX3_size) := goodIn_app (goodIn_of _ (by decide +kernel)) ggX7_account_X3_size
set_option maxRecDepth 20000 in
theorem ggX7_account_X3_allRungs : GoodIn wsX7_account wsX3_allRungs := goodIn_ca (goodIn_r _ [15, 11, 16, 17, 18, 9, 19, 20, 21, 22, 23, 24, 98, 99, 100, 101, 102, 103] (by decide +kernel) (by decide +kernel)) (goodIn_sub (fun _ h => List.mem_cons_of_mem _ (List.mem_append_right _ h)) (by decide +kernel))
set_option maxRecDepth 20000 in
theorem gX7_account_X3_allRungs : GoodIn wsX7_account (wsV RX7 229 RX3 yX3_allRungs wsX3_allRungs) := goodIn_app (goodIn_of _ (by decide +kernel)) ggX7_account_X3_allRungs
set_option maxRecDepth 20000 in
theorem ggX7_account_X3_allWeights : GoodIn wsX7_account wsX3_allWeights := goodIn_ca (goodIn_r _ [28, 11, 29, 30, 31, 9, 32, 33, 21, 22, 23, 24, 98, 99, 100, 101, 102, 103] (by decide +kernel) (by decide +kernel)) (goodIn_sub (fun _ h => List.mem_cons_of_mem _ (List.mem_append_right _ h)) (by decide +kernel))
set_option maxRecDepth 20000 in
theorem gX7_account_X3_allWeights : GoodIn wsX7_account (wsV RX7 232 RX3 yX3_allWeights wsX3_allWeights) := goodIn_app (goodIn_of _ (by decide +kernel)) ggX7_account_X3_allWeights
set_option maxRecDepth 20000 in
theorem ggX7_account_X3_coin : GoodIn wsX7_account wsX3_coin := goodIn_r _ [37, 38, 98, 99, 100, 101, 102, 103] (by decide +kernel) (by decide +kernel)
set_option maxRecDepth 20000 in
theorem gX7_account_X3_coin : GoodIn wsX7_account (wsV RX7 157 RX3 yX3_coin wsX3_coin) := goodIn_app (goodIn_of _ (by decide +kernel)) ggX7_account_X3_coin
set_option maxRecDepth 20000 in
theorem ggX7_account_X1_number : GoodIn wsX7_account wsX1_number := goodIn_r _ [43, 44, 104, 105, 106] (by decide +kernel) (by decide +kernel)
set_option maxRecDepth 20000 in
theorem gX7_account_X1_number : GoodIn wsX7_account (wsV RX7 235 RX1 yX1_number wsX1_number) := goodIn_app (goodIn_of _ (by decide +kernel)) ggX7_account_X1_number
set_option maxRecDepth 20000 in
theorem ggX7_account_X1_tossed : GoodIn wsX7_account wsX1_tossed := goodIn_r _ [48, 49, 104, 105, 106] (by decide +kernel) (by decide +kernel)
set_option maxRecDepth 20000 in
theorem gX7_account_X1_tossed : GoodIn wsX7_account (wsV RX7 238 RX1 yX1_tossed wsX1_tossed) := goodIn_app (goodIn_of _ (by decide +kernel)) ggX7_account_X1_tossed
set_option maxRecDepth 20000 in
theorem ggX7_account_X1_heads : GoodIn wsX7_account wsX1_heads := goodIn_r _ [53, 54, 104, 105, 106] (by decide +kernel) (by decide +kernel)
set_option maxRecDepth 20000 in
theorem gX7_account_X1_heads : GoodIn wsX7_account (wsV RX7 241 RX1 yX1_heads wsX1_heads) := goodIn_app (goodIn_of _ (by decide +kernel)) ggX7_account_X1_heads
set_option maxRecDepth 20000 in
theorem ggX7_account_X3_hiddenLevels : GoodIn wsX7_account wsX3_hiddenLevels := goodIn_r _ [58, 59, 60, 61, 62, 63, 64, 65, 66, 98, 99, 100, 101, 102, 103] (by decide +kernel) (by decide +kernel)
set_option maxRecDepth 20000 in
theorem gX7_account_X3_hiddenLevels : GoodIn wsX7_account (wsV RX7 244 RX3 yX3_hiddenLevels wsX3_hiddenLevels) := goodIn_app (goodIn_of _ (by decide +kernel)) ggX7_account_X3_hiddenLevels
set_option maxRecDepth 20000 in
theorem ggX7_account_X3_highestLevel : GoodIn wsX7_account wsX3_highestLevel := goodIn_ca (goodIn_r _ [70, 11, 71, 72, 73, 74, 16, 17, 18, 9, 19, 20, 21, 22, 23, 24, 98, 99, 100, 101, 102, 103] (by decide +kernel) (by decide +kernel)) (goodIn_sub (fun _ h => List.mem_cons_of_mem _ (List.mem_append_right _ h)) (by decide +kernel))
set_option maxRecDepth 20000 in
theorem gX7_account_X3_highestLevel : GoodIn wsX7_account (wsV RX7 247 RX3 yX3_highestLevel wsX3_highestLevel) := goodIn_app (goodIn_of _ (by decide +kernel)) ggX7_account_X3_highestLevel
set_option maxRecDepth 20000 in
theorem ggX7_account_X2_amount : GoodIn wsX7_account wsX2_amount := goodIn_r _ [79, 80, 107, 108, 109] (by decide +kernel) (by decide +kernel)
set_option maxRecDepth 20000 in
theorem gX7_account_X2_amount : GoodIn wsX7_account (wsV RX7 250 RX2 yX2_amount wsX2_amount) := goodIn_app (goodIn_of _ (by decide +kernel)) ggX7_account_X2_amount
set_option maxRecDepth 20000 in
theorem ggX7_account_X5_length : GoodIn wsX7_account wsX5_length := goodIn_r _ [85, 86, 110, 111, 112, 113] (by decide +kernel) (by decide +kernel)
set_option maxRecDepth 20000 in
theorem gX7_account_X5_length : GoodIn wsX7_account (wsV RX7 173 RX5 yX5_length wsX5_length) := goodIn_app (goodIn_of _ (by decide +kernel)) ggX7_account_X5_length
theorem dX7_account_0 : decode cX7_account 0 = .ok (.iload_n 1, 1) := by decide +kernel
theorem dX7_account_1 : decode cX7_account 1 = .ok (.tableswitch 144 0 9 #[55, 63, 71, 79, 90, 101, 112, 120, 128, 136], 55) := by decide +kernel
theorem dX7_account_56 : decode cX7_account 56 = .ok (.aload_n 0, 1) := by decide +kernel
theorem dX7_account_57 : decode cX7_account 57 = .ok (.getfield 10, 3) := by decide +kernel
theorem dX7_account_60 : decode cX7_account 60 = .ok (.invokevirtual 134, 3) := by decide +kernel
theorem dX7_account_63 : decode cX7_account 63 = .ok (.ireturn, 1) := by decide +kernel
theorem dX7_account_64 : decode cX7_account 64 = .ok (.aload_n 0, 1) := by decide +kernel
theorem dX7_account_65 : decode cX7_account 65 = .ok (.getfield 10, 3) := by decide +kernel
theorem dX7_account_68 : decode cX7_account 68 = .ok (.invokevirtual 229, 3) := by decide +kernel
theorem dX7_account_71 : decode cX7_account 71 = .ok (.ireturn, 1) := by decide +kernel
theorem dX7_account_72 : decode cX7_account 72 = .ok (.aload_n 0, 1) := by decide +kernel
theorem dX7_account_73 : decode cX7_account 73 = .ok (.getfield 10, 3) := by decide +kernel
theorem dX7_account_76 : decode cX7_account 76 = .ok (.invokevirtual 232, 3) := by decide +kernel
theorem dX7_account_79 : decode cX7_account 79 = .ok (.ireturn, 1) := by decide +kernel
theorem dX7_account_80 : decode cX7_account 80 = .ok (.aload_n 0, 1) := by decide +kernel
theorem dX7_account_81 : decode cX7_account 81 = .ok (.getfield 10, 3) := by decide +kernel
theorem dX7_account_84 : decode cX7_account 84 = .ok (.invokevirtual 157, 3) := by decide +kernel
theorem dX7_account_87 : decode cX7_account 87 = .ok (.invokevirtual 235, 3) := by decide +kernel
theorem dX7_account_90 : decode cX7_account 90 = .ok (.ireturn, 1) := by decide +kernel
theorem dX7_account_91 : decode cX7_account 91 = .ok (.aload_n 0, 1) := by decide +kernel
theorem dX7_account_92 : decode cX7_account 92 = .ok (.getfield 10, 3) := by decide +kernel
theorem dX7_account_95 : decode cX7_account 95 = .ok (.invokevirtual 157, 3) := by decide +kernel
theorem dX7_account_98 : decode cX7_account 98 = .ok (.invokevirtual 238, 3) := by decide +kernel
theorem dX7_account_101 : decode cX7_account 101 = .ok (.ireturn, 1) := by decide +kernel
theorem dX7_account_102 : decode cX7_account 102 = .ok (.aload_n 0, 1) := by decide +kernel
theorem dX7_account_103 : decode cX7_account 103 = .ok (.getfield 10, 3) := by decide +kernel
theorem dX7_account_106 : decode cX7_account 106 = .ok (.invokevirtual 157, 3) := by decide +kernel
theorem dX7_account_109 : decode cX7_account 109 = .ok (.invokevirtual 241, 3) := by decide +kernel
theorem dX7_account_112 : decode cX7_account 112 = .ok (.ireturn, 1) := by decide +kernel
theorem dX7_account_113 : decode cX7_account 113 = .ok (.aload_n 0, 1) := by decide +kernel
theorem dX7_account_114 : decode cX7_account 114 = .ok (.getfield 10, 3) := by decide +kernel
theorem dX7_account_117 : decode cX7_account 117 = .ok (.invokevirtual 244, 3) := by decide +kernel
theorem dX7_account_120 : decode cX7_account 120 = .ok (.ireturn, 1) := by decide +kernel
theorem dX7_account_121 : decode cX7_account 121 = .ok (.aload_n 0, 1) := by decide +kernel
theorem dX7_account_122 : decode cX7_account 122 = .ok (.getfield 10, 3) := by decide +kernel
theorem dX7_account_125 : decode cX7_account 125 = .ok (.invokevirtual 247, 3) := by decide +kernel
theorem dX7_account_128 : decode cX7_account 128 = .ok (.ireturn, 1) := by decide +kernel
theorem dX7_account_129 : decode cX7_account 129 = .ok (.aload_n 0, 1) := by decide +kernel
theorem dX7_account_130 : decode cX7_account 130 = .ok (.getfield 49, 3) := by decide +kernel
theorem dX7_account_133 : decode cX7_account 133 = .ok (.invokevirtual 250, 3) := by decide +kernel
theorem dX7_account_136 : decode cX7_account 136 = .ok (.ireturn, 1) := by decide +kernel
theorem dX7_account_137 : decode cX7_account 137 = .ok (.aload_n 0, 1) := by decide +kernel
theorem dX7_account_138 : decode cX7_account 138 = .ok (.getfield 42, 3) := by decide +kernel
theorem dX7_account_141 : decode cX7_account 141 = .ok (.invokevirtual 173, 3) := by decide +kernel
theorem dX7_account_144 : decode cX7_account 144 = .ok (.ireturn, 1) := by decide +kernel
theorem dX7_account_145 : decode cX7_account 145 = .ok (.new 86, 3) := by decide +kernel
theorem dX7_account_148 : decode cX7_account 148 = .ok (.dup, 1) := by decide +kernel
theorem dX7_account_149 : decode cX7_account 149 = .ok (.invokespecial 88, 3) := by decide +kernel
theorem dX7_account_152 : decode cX7_account 152 = .ok (.athrow, 1) := by decide +kernel
set_option maxRecDepth 20000 in
theorem ggX7_undo_X2_takeBack : GoodIn wsX7_undo wsX2_takeBack := goodIn_r _ [9, 10, 11, 12, 13, 14, 8, 15, 16, 17, 18, 19, 20, 21, 22, 23, 24, 25, 26, 27, 28, 29, 30, 31, 32, 33, 34, 35, 36, 37, 38, 39, 55, 56, 57, 58, 59, 60, 61, 62, 63, 64, 65, 66] (by decide +kernel) (by decide +kernel)
set_option maxRecDepth 20000 in
theorem gX7_undo_X2_takeBack : GoodIn wsX7_undo (wsV RX7 253 RX2 yX2_takeBack wsX2_takeBack) := goodIn_app (goodIn_of _ (by decide +kernel)) ggX7_undo_X2_takeBack
set_option maxRecDepth 20000 in
theorem ggX7_undo_X2_amount : GoodIn wsX7_undo wsX2_amount := goodIn_r _ [43, 10, 55, 56, 57] (by decide +kernel) (by decide +kernel)
set_option maxRecDepth 20000 in
theorem gX7_undo_X2_amount : GoodIn wsX7_undo (wsV RX7 250 RX2 yX2_amount wsX2_amount) := goodIn_app (goodIn_of _ (by decide +kernel)) ggX7_undo_X2_amount
theorem dX7_undo_0 : decode cX7_undo 0 = .ok (.aload_n 0, 1) := by decide +kernel
theorem dX7_undo_1 : decode cX7_undo 1 = .ok (.getfield 49, 3) := by decide +kernel
theorem dX7_undo_4 : decode cX7_undo 4 = .ok (.aload_n 0, 1) := by decide +kernel
theorem dX7_undo_5 : decode cX7_undo 5 = .ok (.getfield 10, 3) := by decide +kernel
theorem dX7_undo_8 : decode cX7_undo 8 = .ok (.invokevirtual 253, 3) := by decide +kernel
theorem dX7_undo_11 : decode cX7_undo 11 = .ok (.ifCond .ne 11, 3) := by decide +kernel
theorem dX7_undo_14 : decode cX7_undo 14 = .ok (.new 170, 3) := by decide +kernel
theorem dX7_undo_17 : decode cX7_undo 17 = .ok (.dup, 1) := by decide +kernel
theorem dX7_undo_18 : decode cX7_undo 18 = .ok (.invokespecial 172, 3) := by decide +kernel
theorem dX7_undo_21 : decode cX7_undo 21 = .ok (.athrow, 1) := by decide +kernel
theorem dX7_undo_22 : decode cX7_undo 22 = .ok (.aload_n 0, 1) := by decide +kernel
theorem dX7_undo_23 : decode cX7_undo 23 = .ok (.getfield 49, 3) := by decide +kernel
theorem dX7_undo_26 : decode cX7_undo 26 = .ok (.invokevirtual 250, 3) := by decide +kernel
theorem dX7_undo_29 : decode cX7_undo 29 = .ok (.ireturn, 1) := by decide +kernel
set_option maxRecDepth 20000 in
theorem ggX7_save_X3_copyFrom : GoodIn wsX7_save wsX3_copyFrom := goodIn_r _ [8, 9, 10, 11, 12, 13, 14, 15, 16, 17, 18, 19, 20, 21, 22, 23, 24, 25, 26, 42, 43, 44, 45, 46, 47, 48, 49, 50] (by decide +kernel) (by decide +kernel)
set_option maxRecDepth 20000 in
theorem gX7_save_X3_copyFrom : GoodIn wsX7_save (wsV RX7 183 RX3 yX3_copyFrom wsX3_copyFrom) := goodIn_app (goodIn_of _ (by decide +kernel)) ggX7_save_X3_copyFrom
set_option maxRecDepth 20000 in
theorem ggX7_save_X3_size : GoodIn wsX7_save wsX3_size := goodIn_r _ [30, 17, 42, 43, 44, 45, 46, 47] (by decide +kernel) (by decide +kernel)
set_option maxRecDepth 20000 in
theorem gX7_save_X3_size : GoodIn wsX7_save (wsV RX7 134 RX3 yX3_size wsX3_size) := goodIn_app (goodIn_of _ (by decide +kernel)) ggX7_save_X3_size
theorem dX7_save_0 : decode cX7_save 0 = .ok (.aload_n 0, 1) := by decide +kernel
theorem dX7_save_1 : decode cX7_save 1 = .ok (.getfield 56, 3) := by decide +kernel
theorem dX7_save_4 : decode cX7_save 4 = .ok (.aload_n 0, 1) := by decide +kernel
theorem dX7_save_5 : decode cX7_save 5 = .ok (.getfield 10, 3) := by decide +kernel
theorem dX7_save_8 : decode cX7_save 8 = .ok (.invokevirtual 183, 3) := by decide +kernel
theorem dX7_save_11 : decode cX7_save 11 = .ok (.aload_n 0, 1) := by decide +kernel
theorem dX7_save_12 : decode cX7_save 12 = .ok (.iconst 1, 1) := by decide +kernel
theorem dX7_save_13 : decode cX7_save 13 = .ok (.putfield 59, 3) := by decide +kernel
theorem dX7_save_16 : decode cX7_save 16 = .ok (.aload_n 0, 1) := by decide +kernel
theorem dX7_save_17 : decode cX7_save 17 = .ok (.getfield 10, 3) := by decide +kernel
theorem dX7_save_20 : decode cX7_save 20 = .ok (.invokevirtual 134, 3) := by decide +kernel
theorem dX7_save_23 : decode cX7_save 23 = .ok (.ireturn, 1) := by decide +kernel
set_option maxRecDepth 20000 in
theorem ggX7_restore_X3_copyFrom : GoodIn wsX7_restore wsX3_copyFrom := goodIn_r _ [11, 12, 13, 14, 15, 16, 17, 18, 19, 20, 21, 22, 23, 24, 25, 26, 27, 28, 29, 51, 52, 53, 54, 55, 56, 57, 58, 59] (by decide +kernel) (by decide +kernel)
set_option maxRecDepth 20000 in
theorem gX7_restore_X3_copyFrom : GoodIn wsX7_restore (wsV RX7 183 RX3 yX3_copyFrom wsX3_copyFrom) := goodIn_app (goodIn_of _ (by decide +kernel)) ggX7_restore_X3_copyFrom
set_option maxRecDepth 20000 in
theorem ggX7_restore_X2_clear : GoodIn wsX7_restore wsX2_clear := goodIn_r _ [34, 35, 60, 61, 62] (by decide +kernel) (by decide +kernel)
set_option maxRecDepth 20000 in
theorem gX7_restore_X2_clear : GoodIn wsX7_restore (wsV RX7 257 RX2 yX2_clear wsX2_clear) := goodIn_app (goodIn_of _ (by decide +kernel)) ggX7_restore_X2_clear
set_option maxRecDepth 20000 in
theorem ggX7_restore_X3_size : GoodIn wsX7_restore wsX3_size := goodIn_r _ [39, 20, 51, 52, 53, 54, 55, 56] (by decide +kernel) (by decide +kernel)
set_option maxRecDepth 20000 in
theorem gX7_restore_X3_size : GoodIn wsX7_restore (wsV RX7 134 RX3 yX3_size wsX3_size) := goodIn_app (goodIn_of _ (by decide +kernel)) ggX7_restore_X3_size
theorem dX7_restore_0 : decode cX7_restore 0 = .ok (.aload_n 0, 1) := by decide +kernel
theorem dX7_restore_1 : decode cX7_restore 1 = .ok (.getfield 59, 3) := by decide +kernel
theorem dX7_restore_4 : decode cX7_restore 4 = .ok (.ifCond .ne 11, 3) := by decide +kernel
theorem dX7_restore_7 : decode cX7_restore 7 = .ok (.new 170, 3) := by decide +kernel
theorem dX7_restore_10 : decode cX7_restore 10 = .ok (.dup, 1) := by decide +kernel
theorem dX7_restore_11 : decode cX7_restore 11 = .ok (.invokespecial 172, 3) := by decide +kernel
theorem dX7_restore_14 : decode cX7_restore 14 = .ok (.athrow, 1) := by decide +kernel
theorem dX7_restore_15 : decode cX7_restore 15 = .ok (.aload_n 0, 1) := by decide +kernel
theorem dX7_restore_16 : decode cX7_restore 16 = .ok (.getfield 10, 3) := by decide +kernel
theorem dX7_restore_19 : decode cX7_restore 19 = .ok (.aload_n 0, 1) := by decide +kernel
theorem dX7_restore_20 : decode cX7_restore 20 = .ok (.getfield 56, 3) := by decide +kernel
theorem dX7_restore_23 : decode cX7_restore 23 = .ok (.invokevirtual 183, 3) := by decide +kernel
theorem dX7_restore_26 : decode cX7_restore 26 = .ok (.aload_n 0, 1) := by decide +kernel
theorem dX7_restore_27 : decode cX7_restore 27 = .ok (.getfield 49, 3) := by decide +kernel
theorem dX7_restore_30 : decode cX7_restore 30 = .ok (.invokevirtual 257, 3) := by decide +kernel
theorem dX7_restore_33 : decode cX7_restore 33 = .ok (.aload_n 0, 1) := by decide +kernel
theorem dX7_restore_34 : decode cX7_restore 34 = .ok (.getfield 10, 3) := by decide +kernel
theorem dX7_restore_37 : decode cX7_restore 37 = .ok (.invokevirtual 134, 3) := by decide +kernel
theorem dX7_restore_40 : decode cX7_restore 40 = .ok (.ireturn, 1) := by decide +kernel
set_option maxRecDepth 20000 in
theorem ggX7_change_X0_refuses : GoodIn wsX7_change wsX0_refuses := goodIn_ca (goodIn_r _ [11, 12, 13, 14, 15, 16, 17, 18, 10, 19, 20, 21, 22, 23, 24, 25, 26, 27, 28, 29, 30, 31, 32, 33, 34, 35, 36, 37, 38, 39, 40, 41, 42, 43, 44, 45, 46, 47, 48, 49, 50, 51, 52, 53, 54, 55, 56, 57, 58, 59, 60, 61, 62, 63, 64, 65, 66, 67, 68, 69, 70, 71, 72, 73, 74, 75, 76, 77, 78, 79, 80, 81, 82, 83, 84, 85, 86, 87, 88, 89, 90, 91, 92, 93, 94, 95, 96, 97, 98, 99, 100, 101, 102, 224, 225, 226, 227, 228, 229, 230, 231, 232, 233, 234, 235, 236, 237, 238] (by decide +kernel) (by decide +kernel)) (goodIn_sub (fun _ h => List.mem_cons_of_mem _ (List.mem_append_right _ h)) (by decide +kernel))
set_option maxRecDepth 20000 in
theorem gX7_change_X0_refuses : GoodIn wsX7_change (wsV RX7 258 RX0 yX0_refuses wsX0_refuses) := goodIn_app (goodIn_of _ (by decide +kernel)) ggX7_change_X0_refuses
set_option maxRecDepth 20000 in
theorem ggX7_change_X2_keep : GoodIn wsX7_change wsX2_keep := goodIn_r _ [107, 108, 109, 110, 111, 112, 113, 114, 115, 116, 106, 117, 118, 119, 120, 121, 52, 122, 54, 123, 124, 125, 126, 80, 89, 127, 59, 102, 128, 129, 130, 131, 132, 133, 134, 135, 239, 240, 241, 233, 234, 235, 236, 237, 238, 242, 243, 244] (by decide +kernel) (by decide +kernel)
set_option maxRecDepth 20000 in
theorem gX7_change_X2_keep : GoodIn wsX7_change (wsV RX7 192 RX2 yX2_keep wsX2_keep) := goodIn_app (goodIn_of _ (by decide +kernel)) ggX7_change_X2_keep
set_option maxRecDepth 20000 in
theorem ggX7_change_X0_carryOut : GoodIn wsX7_change wsX0_carryOut := goodIn_ca (goodIn_r _ [139, 30, 31, 32, 33, 23, 34, 35, 49, 50, 51, 52, 53, 54, 55, 56, 57, 58, 59, 60, 61, 62, 63, 20, 21, 22, 24, 25, 140, 141, 142, 10, 143, 144, 145, 146, 147, 127, 148, 149, 150, 131, 151, 152, 153, 154, 155, 133, 134, 135, 156, 157, 158, 159, 160, 161, 39, 40, 41, 42, 43, 162, 163, 164, 165, 166, 69, 70, 71, 167, 168, 169, 170, 171, 77, 78, 79, 80, 172, 86, 87, 88, 89, 173, 174, 175, 176, 44, 45, 46, 47, 48, 177, 178, 179, 180, 181, 182, 183, 184, 185, 186, 187, 188, 189, 85, 190, 76, 191, 192, 193, 194, 195, 102, 196, 197, 198, 199, 200, 201, 202, 203, 204, 205, 206, 207, 208, 209, 210, 211, 212, 224, 225, 226, 227, 228, 229, 230, 231, 232, 233, 234, 235, 236, 237, 238, 242, 243, 244] (by decide +kernel) (by decide +kernel)) (goodIn_sub (fun _ h => List.mem_cons_of_mem _ (List.mem_append_right _ h)) (by decide +kernel))
set_option maxRecDepth 20000 in
theorem gX7_change_X0_carryOut : GoodIn wsX7_change (wsV RX7 262 RX0 yX0_carryOut wsX0_carryOut) := goodIn_app (goodIn_of _ (by decide +kernel)) ggX7_change_X0_carryOut
theorem dX7_change_0 : decode cX7_change 0 = .ok (.aload_n 0, 1) := by decide +kernel
theorem dX7_change_1 : decode cX7_change 1 = .ok (.getfield 28, 3) := by decide +kernel
theorem dX7_change_4 : decode cX7_change 4 = .ok (.aload_n 0, 1) := by decide +kernel
theorem dX7_change_5 : decode cX7_change 5 = .ok (.getfield 35, 3) := by decide +kernel
theorem dX7_change_8 : decode cX7_change 8 = .ok (.iconst 0, 1) := by decide +kernel
theorem dX7_change_9 : decode cX7_change 9 = .ok (.invokevirtual 258, 3) := by decide +kernel
theorem dX7_change_12 : decode cX7_change 12 = .ok (.ifCond .eq 11, 3) := by decide +kernel
theorem dX7_change_15 : decode cX7_change 15 = .ok (.new 189, 3) := by decide +kernel
theorem dX7_change_18 : decode cX7_change 18 = .ok (.dup, 1) := by decide +kernel
theorem dX7_change_19 : decode cX7_change 19 = .ok (.invokespecial 191, 3) := by decide +kernel
theorem dX7_change_22 : decode cX7_change 22 = .ok (.athrow, 1) := by decide +kernel
theorem dX7_change_23 : decode cX7_change 23 = .ok (.aload_n 0, 1) := by decide +kernel
theorem dX7_change_24 : decode cX7_change 24 = .ok (.getfield 49, 3) := by decide +kernel
theorem dX7_change_27 : decode cX7_change 27 = .ok (.aload_n 0, 1) := by decide +kernel
theorem dX7_change_28 : decode cX7_change 28 = .ok (.getfield 10, 3) := by decide +kernel
theorem dX7_change_31 : decode cX7_change 31 = .ok (.invokevirtual 192, 3) := by decide +kernel
theorem dX7_change_34 : decode cX7_change 34 = .ok (.aload_n 0, 1) := by decide +kernel
theorem dX7_change_35 : decode cX7_change 35 = .ok (.getfield 28, 3) := by decide +kernel
theorem dX7_change_38 : decode cX7_change 38 = .ok (.aload_n 0, 1) := by decide +kernel
theorem dX7_change_39 : decode cX7_change 39 = .ok (.getfield 35, 3) := by decide +kernel
theorem dX7_change_42 : decode cX7_change 42 = .ok (.invokevirtual 262, 3) := by decide +kernel
theorem dX7_change_45 : decode cX7_change 45 = .ok (.ireturn, 1) := by decide +kernel
set_option maxRecDepth 20000 in
theorem ggX7_carryOutText_X5_rewind : GoodIn wsX7_carryOutText wsX5_rewind := goodIn_r _ [8, 9, 10, 239, 240, 241, 242] (by decide +kernel) (by decide +kernel)
set_option maxRecDepth 20000 in
theorem gX7_carryOutText_X5_rewind : GoodIn wsX7_carryOutText (wsV RX7 265 RX5 yX5_rewind wsX5_rewind) := goodIn_app (goodIn_of _ (by decide +kernel)) ggX7_carryOutText_X5_rewind
set_option maxRecDepth 20000 in
theorem ggX7_carryOutText_X5_readOrder : GoodIn wsX7_carryOutText wsX5_readOrder := goodIn_ca (goodIn_r _ [14, 9, 10, 15, 16, 17, 7, 18, 19, 20, 21, 22, 23, 24, 25, 26, 27, 28, 29, 30, 31, 32, 33, 34, 35, 36, 37, 38, 39, 40, 41, 42, 43, 44, 45, 46, 47, 48, 49, 50, 51, 52, 53, 54, 55, 56, 239, 240, 241, 242, 243, 244, 245, 246] (by decide +kernel) (by decide +kernel)) (goodIn_sub (fun _ h => List.mem_cons_of_mem _ (List.mem_append_right _ h)) (by decide +kernel))
set_option maxRecDepth 20000 in
theorem gX7_carryOutText_X5_readOrder : GoodIn wsX7_carryOutText (wsV RX7 268 RX5 yX5_readOrder wsX5_readOrder) := goodIn_app (goodIn_of _ (by decide +kernel)) ggX7_carryOutText_X5_readOrder
set_option maxRecDepth 20000 in
theorem ggX7_carryOutText_X0_refuses : GoodIn wsX7_carryOutText wsX0_refuses := goodIn_ca (goodIn_r _ [61, 62, 63, 64, 65, 66, 67, 68, 60, 69, 70, 71, 72, 43, 73, 45, 74, 75, 76, 77, 78, 79, 50, 51, 52, 46, 80, 81, 82, 83, 54, 55, 56, 47, 84, 85, 86, 87, 48, 88, 89, 90, 91, 92, 93, 94, 95, 96, 97, 98, 99, 100, 101, 102, 103, 104, 105, 106, 107, 108, 109, 110, 111, 112, 113, 114, 115, 116, 117, 118, 119, 120, 121, 122, 123, 124, 125, 126, 127, 128, 129, 130, 131, 132, 133, 134, 135, 136, 137, 138, 139, 140, 141, 247, 248, 249, 250, 251, 243, 244, 245, 246, 252, 253, 254, 255, 256, 257] (by decide +kernel) (by decide +kernel)) (goodIn_sub (fun _ h => List.mem_cons_of_mem _ (List.mem_append_right _ h)) (by decide +kernel))
set_option maxRecDepth 20000 in
theorem gX7_carryOutText_X0_refuses : GoodIn wsX7_carryOutText (wsV RX7 258 RX0 yX0_refuses wsX0_refuses) := goodIn_app (goodIn_of _ (by decide +kernel)) ggX7_carryOutText_X0_refuses
set_option maxRecDepth 20000 in
theorem ggX7_carryOutText_X0_carryOut : GoodIn wsX7_carryOutText wsX0_carryOut := goodIn_ca (goodIn_r _ [145, 78, 79, 50, 51, 43, 52, 46, 88, 89, 90, 91, 92, 93, 94, 95, 96, 97, 98, 99, 100, 101, 102, 70, 71, 72, 73, 45, 146, 147, 148, 60, 149, 150, 151, 152, 153, 154, 155, 156, 157, 158, 159, 160, 161, 162, 163, 164, 165, 166, 167, 168, 169, 170, 171, 172, 83, 54, 55, 56, 47, 173, 174, 175, 176, 177, 108, 109, 110, 178, 179, 180, 181, 182, 116, 117, 118, 119, 183, 125, 126, 127, 128, 184, 185, 186, 187, 84, 85, 86, 87, 48, 188, 189, 190, 191, 192, 193, 194, 195, 196, 197, 198, 199, 200, 124, 201, 115, 202, 203, 204, 205, 206, 141, 207, 208, 209, 210, 211, 212, 213, 214, 215, 216, 217, 218, 219, 220, 221, 222, 223, 247, 248, 249, 250, 251, 243, 244, 245, 246, 252, 253, 254, 255, 256, 257, 258, 259, 260] (by decide +kernel) (by decide +kernel)) (goodIn_sub (fun _ h => List.mem_cons_of_mem _ (List.mem_append_right _ h)) (by decide +kernel))
set_option maxRecDepth 20000 in
theorem gX7_carryOutText_X0_carryOut : GoodIn wsX7_carryOutText (wsV RX7 262 RX0 yX0_carryOut wsX0_carryOut) := goodIn_app (goodIn_of _ (by decide +kernel)) ggX7_carryOutText_X0_carryOut
set_option maxRecDepth 20000 in
theorem ggX7_carryOutText_X5_passSeparator : GoodIn wsX7_carryOutText wsX5_passSeparator := goodIn_ca (goodIn_r _ [227, 10, 15, 16, 17, 7, 18, 9, 19, 20, 36, 37, 38, 39, 239, 240, 241, 242] (by decide +kernel) (by decide +kernel)) (goodIn_sub (fun _ h => List.mem_cons_of_mem _ (List.mem_append_right _ h)) (by decide +kernel))
set_option maxRecDepth 20000 in
theorem gX7_carryOutText_X5_passSeparator : GoodIn wsX7_carryOutText (wsV RX7 272 RX5 yX5_passSeparator wsX5_passSeparator) := goodIn_app (goodIn_of _ (by decide +kernel)) ggX7_carryOutText_X5_passSeparator
theorem dX7_carryOutText_0 : decode cX7_carryOutText 0 = .ok (.iconst 0, 1) := by decide +kernel
theorem dX7_carryOutText_1 : decode cX7_carryOutText 1 = .ok (.istore_n 1, 1) := by decide +kernel
theorem dX7_carryOutText_2 : decode cX7_carryOutText 2 = .ok (.aload_n 0, 1) := by decide +kernel
theorem dX7_carryOutText_3 : decode cX7_carryOutText 3 = .ok (.getfield 42, 3) := by decide +kernel
theorem dX7_carryOutText_6 : decode cX7_carryOutText 6 = .ok (.invokevirtual 265, 3) := by decide +kernel
theorem dX7_carryOutText_9 : decode cX7_carryOutText 9 = .ok (.iconst 1, 1) := by decide +kernel
theorem dX7_carryOutText_10 : decode cX7_carryOutText 10 = .ok (.istore_n 2, 1) := by decide +kernel
theorem dX7_carryOutText_11 : decode cX7_carryOutText 11 = .ok (.iload_n 2, 1) := by decide +kernel
theorem dX7_carryOutText_12 : decode cX7_carryOutText 12 = .ok (.ifCond .eq 63, 3) := by decide +kernel
theorem dX7_carryOutText_15 : decode cX7_carryOutText 15 = .ok (.iload_n 1, 1) := by decide +kernel
theorem dX7_carryOutText_16 : decode cX7_carryOutText 16 = .ok (.bipush 60, 2) := by decide +kernel
theorem dX7_carryOutText_18 : decode cX7_carryOutText 18 = .ok (.if_icmp .ge 57, 3) := by decide +kernel
theorem dX7_carryOutText_21 : decode cX7_carryOutText 21 = .ok (.aload_n 0, 1) := by decide +kernel
theorem dX7_carryOutText_22 : decode cX7_carryOutText 22 = .ok (.getfield 42, 3) := by decide +kernel
theorem dX7_carryOutText_25 : decode cX7_carryOutText 25 = .ok (.aload_n 0, 1) := by decide +kernel
theorem dX7_carryOutText_26 : decode cX7_carryOutText 26 = .ok (.getfield 35, 3) := by decide +kernel
theorem dX7_carryOutText_29 : decode cX7_carryOutText 29 = .ok (.invokevirtual 268, 3) := by decide +kernel
theorem dX7_carryOutText_32 : decode cX7_carryOutText 32 = .ok (.aload_n 0, 1) := by decide +kernel
theorem dX7_carryOutText_33 : decode cX7_carryOutText 33 = .ok (.getfield 28, 3) := by decide +kernel
theorem dX7_carryOutText_36 : decode cX7_carryOutText 36 = .ok (.aload_n 0, 1) := by decide +kernel
theorem dX7_carryOutText_37 : decode cX7_carryOutText 37 = .ok (.getfield 35, 3) := by decide +kernel
theorem dX7_carryOutText_40 : decode cX7_carryOutText 40 = .ok (.iload_n 1, 1) := by decide +kernel
theorem dX7_carryOutText_41 : decode cX7_carryOutText 41 = .ok (.invokevirtual 258, 3) := by decide +kernel
theorem dX7_carryOutText_44 : decode cX7_carryOutText 44 = .ok (.ifCond .eq 5, 3) := by decide +kernel
theorem dX7_carryOutText_47 : decode cX7_carryOutText 47 = .ok (.iconst (-1), 1) := by decide +kernel
theorem dX7_carryOutText_48 : decode cX7_carryOutText 48 = .ok (.ireturn, 1) := by decide +kernel
theorem dX7_carryOutText_49 : decode cX7_carryOutText 49 = .ok (.aload_n 0, 1) := by decide +kernel
theorem dX7_carryOutText_50 : decode cX7_carryOutText 50 = .ok (.getfield 28, 3) := by decide +kernel
theorem dX7_carryOutText_53 : decode cX7_carryOutText 53 = .ok (.aload_n 0, 1) := by decide +kernel
theorem dX7_carryOutText_54 : decode cX7_carryOutText 54 = .ok (.getfield 35, 3) := by decide +kernel
theorem dX7_carryOutText_57 : decode cX7_carryOutText 57 = .ok (.invokevirtual 262, 3) := by decide +kernel
theorem dX7_carryOutText_60 : decode cX7_carryOutText 60 = .ok (.pop, 1) := by decide +kernel
theorem dX7_carryOutText_61 : decode cX7_carryOutText 61 = .ok (.iinc 1 1, 3) := by decide +kernel
theorem dX7_carryOutText_64 : decode cX7_carryOutText 64 = .ok (.aload_n 0, 1) := by decide +kernel
theorem dX7_carryOutText_65 : decode cX7_carryOutText 65 = .ok (.getfield 42, 3) := by decide +kernel
theorem dX7_carryOutText_68 : decode cX7_carryOutText 68 = .ok (.invokevirtual 272, 3) := by decide +kernel
theorem dX7_carryOutText_71 : decode cX7_carryOutText 71 = .ok (.istore_n 2, 1) := by decide +kernel
theorem dX7_carryOutText_72 : decode cX7_carryOutText 72 = .ok (.goto (-61), 3) := by decide +kernel
theorem dX7_carryOutText_75 : decode cX7_carryOutText 75 = .ok (.iload_n 1, 1) := by decide +kernel
theorem dX7_carryOutText_76 : decode cX7_carryOutText 76 = .ok (.ireturn, 1) := by decide +kernel
theorem dX7_demandKey_0 : decode cX7_demandKey 0 = .ok (.iload_n 0, 1) := by decide +kernel
theorem dX7_demandKey_1 : decode cX7_demandKey 1 = .ok (.ifCond .lt 10, 3) := by decide +kernel
theorem dX7_demandKey_4 : decode cX7_demandKey 4 = .ok (.iload_n 0, 1) := by decide +kernel
theorem dX7_demandKey_5 : decode cX7_demandKey 5 = .ok (.sipush 999, 3) := by decide +kernel
theorem dX7_demandKey_8 : decode cX7_demandKey 8 = .ok (.if_icmp .le 11, 3) := by decide +kernel
theorem dX7_demandKey_11 : decode cX7_demandKey 11 = .ok (.new 86, 3) := by decide +kernel
theorem dX7_demandKey_14 : decode cX7_demandKey 14 = .ok (.dup, 1) := by decide +kernel
theorem dX7_demandKey_15 : decode cX7_demandKey 15 = .ok (.invokespecial 88, 3) := by decide +kernel
theorem dX7_demandKey_18 : decode cX7_demandKey 18 = .ok (.athrow, 1) := by decide +kernel
theorem dX7_demandKey_19 : decode cX7_demandKey 19 = .ok (.return_, 1) := by decide +kernel
set_option maxRecDepth 20000 in
theorem ggX7_demandRange_X7_demandKey : GoodIn wsX7_demandRange wsX7_demandKey := goodIn_ca (goodIn_r _ [6, 1, 2] (by decide +kernel) (by decide +kernel)) (goodIn_sub (fun _ h => List.mem_cons_of_mem _ (List.mem_append_right _ h)) (by decide +kernel))
set_option maxRecDepth 20000 in
theorem gX7_demandRange_X7_demandKey : GoodIn wsX7_demandRange (va_wsS RX7 82 yX7_demandKey wsX7_demandKey) := goodIn_app (goodIn_of _ (by decide +kernel)) ggX7_demandRange_X7_demandKey
theorem dX7_demandRange_0 : decode cX7_demandRange 0 = .ok (.iload_n 0, 1) := by decide +kernel
theorem dX7_demandRange_1 : decode cX7_demandRange 1 = .ok (.invokestatic 82, 3) := by decide +kernel
theorem dX7_demandRange_4 : decode cX7_demandRange 4 = .ok (.iload_n 1, 1) := by decide +kernel
theorem dX7_demandRange_5 : decode cX7_demandRange 5 = .ok (.invokestatic 82, 3) := by decide +kernel
theorem dX7_demandRange_8 : decode cX7_demandRange 8 = .ok (.iload_n 1, 1) := by decide +kernel
theorem dX7_demandRange_9 : decode cX7_demandRange 9 = .ok (.iload_n 0, 1) := by decide +kernel
theorem dX7_demandRange_10 : decode cX7_demandRange 10 = .ok (.if_icmp .ge 11, 3) := by decide +kernel
theorem dX7_demandRange_13 : decode cX7_demandRange 13 = .ok (.new 86, 3) := by decide +kernel
theorem dX7_demandRange_16 : decode cX7_demandRange 16 = .ok (.dup, 1) := by decide +kernel
theorem dX7_demandRange_17 : decode cX7_demandRange 17 = .ok (.invokespecial 88, 3) := by decide +kernel
theorem dX7_demandRange_20 : decode cX7_demandRange 20 = .ok (.athrow, 1) := by decide +kernel
theorem dX7_demandRange_21 : decode cX7_demandRange 21 = .ok (.return_, 1) := by decide +kernel
theorem dX7_demandLevel_0 : decode cX7_demandLevel 0 = .ok (.iload_n 0, 1) := by decide +kernel
theorem dX7_demandLevel_1 : decode cX7_demandLevel 1 = .ok (.ifCond .lt 8, 3) := by decide +kernel
theorem dX7_demandLevel_4 : decode cX7_demandLevel 4 = .ok (.iload_n 0, 1) := by decide +kernel
theorem dX7_demandLevel_5 : decode cX7_demandLevel 5 = .ok (.iconst 5, 1) := by decide +kernel
theorem dX7_demandLevel_6 : decode cX7_demandLevel 6 = .ok (.if_icmp .lt 11, 3) := by decide +kernel
theorem dX7_demandLevel_9 : decode cX7_demandLevel 9 = .ok (.new 219, 3) := by decide +kernel
theorem dX7_demandLevel_12 : decode cX7_demandLevel 12 = .ok (.dup, 1) := by decide +kernel
theorem dX7_demandLevel_13 : decode cX7_demandLevel 13 = .ok (.invokespecial 221, 3) := by decide +kernel
theorem dX7_demandLevel_16 : decode cX7_demandLevel 16 = .ok (.athrow, 1) := by decide +kernel
theorem dX7_demandLevel_17 : decode cX7_demandLevel 17 = .ok (.return_, 1) := by decide +kernel
set_option maxRecDepth 20000 in
theorem ggX7_demandFolder_X3_placeWith : GoodIn wsX7_demandFolder wsX3_placeWith := goodIn_ca (goodIn_r _ [8, 9, 10, 11, 12, 7, 13, 14, 15, 16, 17, 18, 30, 31, 32, 33, 34, 35] (by decide +kernel) (by decide +kernel)) (goodIn_sub (fun _ h => List.mem_cons_of_mem _ (List.mem_append_right _ h)) (by decide +kernel))
set_option maxRecDepth 20000 in
theorem gX7_demandFolder_X3_placeWith : GoodIn wsX7_demandFolder (wsV RX7 275 RX3 yX3_placeWith wsX3_placeWith) := goodIn_app (goodIn_of _ (by decide +kernel)) ggX7_demandFolder_X3_placeWith
theorem dX7_demandFolder_0 : decode cX7_demandFolder 0 = .ok (.aload_n 0, 1) := by decide +kernel
theorem dX7_demandFolder_1 : decode cX7_demandFolder 1 = .ok (.getfield 10, 3) := by decide +kernel
theorem dX7_demandFolder_4 : decode cX7_demandFolder 4 = .ok (.iload_n 1, 1) := by decide +kernel
theorem dX7_demandFolder_5 : decode cX7_demandFolder 5 = .ok (.invokevirtual 275, 3) := by decide +kernel
theorem dX7_demandFolder_8 : decode cX7_demandFolder 8 = .ok (.istore_n 2, 1) := by decide +kernel
theorem dX7_demandFolder_9 : decode cX7_demandFolder 9 = .ok (.iload_n 2, 1) := by decide +kernel
theorem dX7_demandFolder_10 : decode cX7_demandFolder 10 = .ok (.iconst (-1), 1) := by decide +kernel
theorem dX7_demandFolder_11 : decode cX7_demandFolder 11 = .ok (.if_icmp .ne 11, 3) := by decide +kernel
theorem dX7_demandFolder_14 : decode cX7_demandFolder 14 = .ok (.new 118, 3) := by decide +kernel
theorem dX7_demandFolder_17 : decode cX7_demandFolder 17 = .ok (.dup, 1) := by decide +kernel
theorem dX7_demandFolder_18 : decode cX7_demandFolder 18 = .ok (.invokespecial 120, 3) := by decide +kernel
theorem dX7_demandFolder_21 : decode cX7_demandFolder 21 = .ok (.athrow, 1) := by decide +kernel
theorem dX7_demandFolder_22 : decode cX7_demandFolder 22 = .ok (.iload_n 2, 1) := by decide +kernel
theorem dX7_demandFolder_23 : decode cX7_demandFolder 23 = .ok (.ireturn, 1) := by decide +kernel
set_option maxRecDepth 20000 in
theorem ggX7_keyOrNone_X3_holds : GoodIn wsX7_keyOrNone wsX3_holds := goodIn_r _ [8, 9, 27, 28, 29, 30, 31, 32] (by decide +kernel) (by decide +kernel)
set_option maxRecDepth 20000 in
theorem gX7_keyOrNone_X3_holds : GoodIn wsX7_keyOrNone (wsV RX7 278 RX3 yX3_holds wsX3_holds) := goodIn_app (goodIn_of _ (by decide +kernel)) ggX7_keyOrNone_X3_holds
set_option maxRecDepth 20000 in
theorem ggX7_keyOrNone_X3_keyOf : GoodIn wsX7_keyOrNone wsX3_keyOf := goodIn_ca (goodIn_r _ [13, 14, 15, 5, 6, 7, 8, 9, 27, 28, 29, 30, 31, 32] (by decide +kernel) (by decide +kernel)) (goodIn_sub (fun _ h => List.mem_cons_of_mem _ (List.mem_append_right _ h)) (by decide +kernel))
set_option maxRecDepth 20000 in
theorem gX7_keyOrNone_X3_keyOf : GoodIn wsX7_keyOrNone (wsV RX7 124 RX3 yX3_keyOf wsX3_keyOf) := goodIn_app (goodIn_of _ (by decide +kernel)) ggX7_keyOrNone_X3_keyOf
theorem dX7_keyOrNone_0 : decode cX7_keyOrNone 0 = .ok (.aload_n 0, 1) := by decide +kernel
theorem dX7_keyOrNone_1 : decode cX7_keyOrNone 1 = .ok (.getfield 10, 3) := by decide +kernel
theorem dX7_keyOrNone_4 : decode cX7_keyOrNone 4 = .ok (.iload_n 1, 1) := by decide +kernel
theorem dX7_keyOrNone_5 : decode cX7_keyOrNone 5 = .ok (.invokevirtual 278, 3) := by decide +kernel
theorem dX7_keyOrNone_8 : decode cX7_keyOrNone 8 = .ok (.ifCond .ne 11, 3) := by decide +kernel
theorem dX7_keyOrNone_11 : decode cX7_keyOrNone 11 = .ok (.new 118, 3) := by decide +kernel
theorem dX7_keyOrNone_14 : decode cX7_keyOrNone 14 = .ok (.dup, 1) := by decide +kernel
theorem dX7_keyOrNone_15 : decode cX7_keyOrNone 15 = .ok (.invokespecial 120, 3) := by decide +kernel
theorem dX7_keyOrNone_18 : decode cX7_keyOrNone 18 = .ok (.athrow, 1) := by decide +kernel
theorem dX7_keyOrNone_19 : decode cX7_keyOrNone 19 = .ok (.aload_n 0, 1) := by decide +kernel
theorem dX7_keyOrNone_20 : decode cX7_keyOrNone 20 = .ok (.getfield 10, 3) := by decide +kernel
theorem dX7_keyOrNone_23 : decode cX7_keyOrNone 23 = .ok (.iload_n 1, 1) := by decide +kernel
theorem dX7_keyOrNone_24 : decode cX7_keyOrNone 24 = .ok (.invokevirtual 124, 3) := by decide +kernel
theorem dX7_keyOrNone_27 : decode cX7_keyOrNone 27 = .ok (.ireturn, 1) := by decide +kernel
