theorem dL_at_0 : decode cL_at 0 = .ok (.iload_n 1, 1) := by decide +kernel
theorem dL_at_1 : decode cL_at 1 = .ok (.aload_n 0, 1) := by decide +kernel
theorem dL_at_2 : decode cL_at 2 = .ok (.arraylength, 1) := by decide +kernel
theorem dL_at_3 : decode cL_at 3 = .ok (.if_icmp .ge 9, 3) := by decide +kernel
theorem dL_at_6 : decode cL_at 6 = .ok (.aload_n 0, 1) := by decide +kernel
theorem dL_at_7 : decode cL_at 7 = .ok (.iload_n 1, 1) := by decide +kernel
theorem dL_at_8 : decode cL_at 8 = .ok (.iaload, 1) := by decide +kernel
theorem dL_at_9 : decode cL_at 9 = .ok (.goto 4, 3) := by decide +kernel
theorem dL_at_12 : decode cL_at 12 = .ok (.iconst 0, 1) := by decide +kernel
theorem dL_at_13 : decode cL_at 13 = .ok (.ireturn, 1) := by decide +kernel
theorem dL_some_0 : decode cL_some 0 = .ok (.iload_n 0, 1) := by decide +kernel
theorem dL_some_1 : decode cL_some 1 = .ok (.iload_n 1, 1) := by decide +kernel
theorem dL_some_2 : decode cL_some 2 = .ok (.irem, 1) := by decide +kernel
theorem dL_some_3 : decode cL_some 3 = .ok (.istore_n 2, 1) := by decide +kernel
theorem dL_some_4 : decode cL_some 4 = .ok (.iload_n 2, 1) := by decide +kernel
theorem dL_some_5 : decode cL_some 5 = .ok (.ifCond .ge 9, 3) := by decide +kernel
theorem dL_some_8 : decode cL_some 8 = .ok (.iload_n 2, 1) := by decide +kernel
theorem dL_some_9 : decode cL_some 9 = .ok (.iload_n 1, 1) := by decide +kernel
theorem dL_some_10 : decode cL_some 10 = .ok (.iadd, 1) := by decide +kernel
theorem dL_some_11 : decode cL_some 11 = .ok (.goto 4, 3) := by decide +kernel
theorem dL_some_14 : decode cL_some 14 = .ok (.iload_n 2, 1) := by decide +kernel
theorem dL_some_15 : decode cL_some 15 = .ok (.ireturn, 1) := by decide +kernel
set_option maxRecDepth 20000 in
theorem ggL_reads_J0_length_8abf5 : GoodIn wsL_reads wsJ0_length_8abf5 := goodIn_r _ [5, 6, 7, 8, 9, 4, 10, 11, 12, 358, 359, 360, 361] (by decide +kernel) (by decide +kernel)
set_option maxRecDepth 20000 in
theorem gL_reads_J0_length_8abf5 : GoodIn wsL_reads (wsV RL 147 RJ0 yJ0_length_8abf5 wsJ0_length_8abf5) := goodIn_app (goodIn_of _ (by decide +kernel)) ggL_reads_J0_length_8abf5
set_option maxRecDepth 20000 in
theorem ggL_reads_J0_charAt_5068e : GoodIn wsL_reads wsJ0_charAt_5068e := goodIn_r _ [16, 6, 17, 18, 19, 4, 20, 11, 12, 21, 22, 23, 24, 25, 26, 27, 28, 29, 30, 31, 32, 33, 34, 35, 36, 37, 38, 39, 40, 41, 42, 43, 44, 45, 46, 47, 48, 49, 358, 359, 360, 361] (by decide +kernel) (by decide +kernel)
set_option maxRecDepth 20000 in
theorem gL_reads_J0_charAt_5068e : GoodIn wsL_reads (wsV RL 152 RJ0 yJ0_charAt_5068e wsJ0_charAt_5068e) := goodIn_app (goodIn_of _ (by decide +kernel)) ggL_reads_J0_charAt_5068e
set_option maxRecDepth 20000 in
theorem ggL_reads_L_append : GoodIn wsL_reads wsL_append := goodIn_ca (goodIn_ca (goodIn_r _ [53, 54, 55, 56, 57, 58, 59, 60, 61, 62, 63, 64, 65, 66, 67, 68, 69, 70, 71, 72, 73, 362, 363, 364, 365, 366, 367, 368, 369, 370, 371, 372, 373, 374, 375, 376] (by decide +kernel) (by decide +kernel)) (goodIn_sub (fun _ h => List.mem_cons_of_mem _ (List.mem_append_left _ (List.mem_append_left _ (List.mem_append_left _ (List.mem_append_right _ h))))) (by decide +kernel))) (goodIn_sub (fun _ h => List.mem_cons_of_mem _ (List.mem_append_left _ (List.mem_append_left _ (List.mem_append_right _ h)))) (by decide +kernel))
set_option maxRecDepth 20000 in
theorem gL_reads_L_append : GoodIn wsL_reads (va_wsS RL 155 yL_append wsL_append) := goodIn_app (goodIn_of _ (by decide +kernel)) ggL_reads_L_append
set_option maxRecDepth 20000 in
theorem ggL_reads_L_commands : GoodIn wsL_reads wsL_commands := goodIn_ca (goodIn_ca (goodIn_ca (goodIn_r _ [76, 77, 78, 79, 80, 81, 58, 82, 83, 84, 85, 86, 62, 87, 88, 89, 90, 91, 92, 93, 94, 66, 95, 96, 97, 98, 99, 100, 101, 102, 103, 104, 105, 106, 107, 108, 109, 68, 69, 110, 111, 112, 113, 114, 115, 116, 117, 118, 119, 120, 121, 122, 123, 124, 125, 126, 127, 128, 129, 130, 131, 132, 133, 134, 135, 136, 137, 138, 139, 140, 141, 142, 143, 144, 145, 146, 147, 148, 149, 150, 151, 152, 153, 154, 155, 156, 157, 158, 159, 160, 161, 162, 163, 164, 165, 166, 167, 168, 169, 170, 171, 172, 173, 174, 175, 176, 177, 178, 179, 180, 181, 182, 183, 184, 185, 186, 187, 188, 189, 190, 191, 192, 193, 194, 195, 196, 197, 198, 199, 200, 201, 202, 203, 204, 205, 206, 207, 208, 209, 210, 211, 212, 213, 214, 215, 216, 217, 218, 219, 220, 221, 222, 223, 224, 225, 226, 227, 228, 229, 230, 231, 232, 233, 234, 235, 236, 237, 238, 239, 240, 241, 242, 243, 244, 245, 246, 247, 248, 249, 250, 251, 252, 253, 254, 255, 256, 257, 258, 259, 260, 261, 262, 263, 264, 265, 266, 267, 268, 269, 270, 271, 272, 273, 274, 275, 276, 277, 278, 279, 280, 281, 282, 283, 284, 285, 286, 287, 288, 289, 290, 291, 292, 293, 294, 295, 296, 297, 298, 299, 300, 301, 302, 303, 304, 305, 306, 307, 308, 309, 310, 311, 312, 313, 314, 315, 316, 317, 318, 319, 320, 321, 322, 323, 324, 325, 326, 327, 328, 329, 330, 331, 332, 333, 334, 335, 336, 337, 338, 339, 340, 341, 342, 343, 344, 345, 346, 347, 348, 349, 350, 351, 352, 353, 354, 355, 356, 357, 362, 363, 364, 365, 366, 367, 368, 369, 370, 371, 372, 373, 374, 375, 376, 377, 378, 379, 380, 381, 382, 383, 384, 385, 386, 387, 388, 389, 390, 391, 392, 393, 394, 395, 396, 397] (by decide +kernel) (by decide +kernel)) (goodIn_sub (fun _ h => List.mem_cons_of_mem _ (List.mem_append_left _ (List.mem_append_right _ h))) (by decide +kernel))) (goodIn_sub (fun _ h => List.mem_cons_of_mem _ (List.mem_append_right _ h)) (by decide +kernel))) (goodIn_sub (fun _ h => List.mem_cons_of_mem _ (List.mem_append_left _ (List.mem_append_left _ (List.mem_append_right _ h)))) (by decide +kernel))
set_option maxRecDepth 20000 in
theorem gL_reads_L_commands : GoodIn wsL_reads (va_wsS RL 160 yL_commands wsL_commands) := goodIn_app (goodIn_of _ (by decide +kernel)) ggL_reads_L_commands
theorem dL_reads_0 : decode cL_reads 0 = .ok (.iconst 0, 1) := by decide +kernel
theorem dL_reads_1 : decode cL_reads 1 = .ok (.istore_n 2, 1) := by decide +kernel
theorem dL_reads_2 : decode cL_reads 2 = .ok (.iload_n 2, 1) := by decide +kernel
theorem dL_reads_3 : decode cL_reads 3 = .ok (.aload_n 1, 1) := by decide +kernel
theorem dL_reads_4 : decode cL_reads 4 = .ok (.invokevirtual 147, 3) := by decide +kernel
theorem dL_reads_7 : decode cL_reads 7 = .ok (.if_icmp .ge 28, 3) := by decide +kernel
theorem dL_reads_10 : decode cL_reads 10 = .ok (.aload_n 0, 1) := by decide +kernel
theorem dL_reads_11 : decode cL_reads 11 = .ok (.aload_n 1, 1) := by decide +kernel
theorem dL_reads_12 : decode cL_reads 12 = .ok (.iload_n 2, 1) := by decide +kernel
theorem dL_reads_13 : decode cL_reads 13 = .ok (.invokevirtual 152, 3) := by decide +kernel
theorem dL_reads_16 : decode cL_reads 16 = .ok (.invokestatic 155, 3) := by decide +kernel
theorem dL_reads_19 : decode cL_reads 19 = .ok (.iload_n 2, 1) := by decide +kernel
theorem dL_reads_20 : decode cL_reads 20 = .ok (.iconst 1, 1) := by decide +kernel
theorem dL_reads_21 : decode cL_reads 21 = .ok (.iadd, 1) := by decide +kernel
theorem dL_reads_22 : decode cL_reads 22 = .ok (.if_icmp .eq 7, 3) := by decide +kernel
theorem dL_reads_25 : decode cL_reads 25 = .ok (.sipush (-9999), 3) := by decide +kernel
theorem dL_reads_28 : decode cL_reads 28 = .ok (.ireturn, 1) := by decide +kernel
theorem dL_reads_29 : decode cL_reads 29 = .ok (.iinc 2 1, 3) := by decide +kernel
theorem dL_reads_32 : decode cL_reads 32 = .ok (.goto (-30), 3) := by decide +kernel
theorem dL_reads_35 : decode cL_reads 35 = .ok (.aload_n 0, 1) := by decide +kernel
theorem dL_reads_36 : decode cL_reads 36 = .ok (.invokestatic 160, 3) := by decide +kernel
theorem dL_reads_39 : decode cL_reads 39 = .ok (.ireturn, 1) := by decide +kernel
set_option maxRecDepth 20000 in
theorem ggL_is_L_reason : GoodIn wsL_is wsL_reason := goodIn_ca (goodIn_ca (goodIn_r _ [4, 5, 6, 7, 8, 9, 10, 11, 12, 13, 14, 15, 16, 17, 18, 19, 20, 21, 22, 23, 24, 25, 26, 27, 28, 29, 30, 31, 32, 33, 34, 35, 36, 37, 38, 39, 40, 41, 42, 43, 44, 45, 46, 47, 48, 49, 50, 51, 52] (by decide +kernel) (by decide +kernel)) (goodIn_sub (fun _ h => List.mem_cons_of_mem _ (List.mem_append_left _ (List.mem_append_right _ h))) (by decide +kernel))) (goodIn_sub (fun _ h => List.mem_cons_of_mem _ (List.mem_append_right _ h)) (by decide +kernel))
set_option maxRecDepth 20000 in
theorem gL_is_L_reason : GoodIn wsL_is (va_wsS RL 163 yL_reason wsL_reason) := goodIn_app (goodIn_of _ (by decide +kernel)) ggL_is_L_reason
theorem dL_is_0 : decode cL_is 0 = .ok (.aload_n 0, 1) := by decide +kernel
theorem dL_is_1 : decode cL_is 1 = .ok (.iconst 0, 1) := by decide +kernel
theorem dL_is_2 : decode cL_is 2 = .ok (.invokestatic 163, 3) := by decide +kernel
theorem dL_is_5 : decode cL_is 5 = .ok (.iload_n 1, 1) := by decide +kernel
theorem dL_is_6 : decode cL_is 6 = .ok (.if_icmp .ne 25, 3) := by decide +kernel
theorem dL_is_9 : decode cL_is 9 = .ok (.aload_n 0, 1) := by decide +kernel
theorem dL_is_10 : decode cL_is 10 = .ok (.iconst 1, 1) := by decide +kernel
theorem dL_is_11 : decode cL_is 11 = .ok (.invokestatic 163, 3) := by decide +kernel
theorem dL_is_14 : decode cL_is 14 = .ok (.iload_n 2, 1) := by decide +kernel
theorem dL_is_15 : decode cL_is 15 = .ok (.if_icmp .ne 16, 3) := by decide +kernel
theorem dL_is_18 : decode cL_is 18 = .ok (.aload_n 0, 1) := by decide +kernel
theorem dL_is_19 : decode cL_is 19 = .ok (.iconst 2, 1) := by decide +kernel
theorem dL_is_20 : decode cL_is 20 = .ok (.invokestatic 163, 3) := by decide +kernel
theorem dL_is_23 : decode cL_is 23 = .ok (.iload_n 3, 1) := by decide +kernel
theorem dL_is_24 : decode cL_is 24 = .ok (.if_icmp .ne 7, 3) := by decide +kernel
theorem dL_is_27 : decode cL_is 27 = .ok (.iconst 1, 1) := by decide +kernel
theorem dL_is_28 : decode cL_is 28 = .ok (.goto 4, 3) := by decide +kernel
theorem dL_is_31 : decode cL_is 31 = .ok (.iconst 0, 1) := by decide +kernel
theorem dL_is_32 : decode cL_is 32 = .ok (.ireturn, 1) := by decide +kernel
set_option maxRecDepth 20000 in
theorem ggL_isRange_L_is : GoodIn wsL_isRange wsL_is := goodIn_ca (goodIn_ca (goodIn_r _ [4, 5, 6, 3, 7, 8, 9, 10, 11, 12, 13, 14, 15, 16, 17, 18, 19, 20, 21, 22, 23, 24, 25, 26, 27, 28, 29, 30, 31, 32, 33, 34, 35, 36, 37, 38, 39, 40, 41, 42, 43, 44, 45, 46, 47, 48, 49, 50, 51, 52, 53, 54, 55] (by decide +kernel) (by decide +kernel)) (goodIn_sub (fun _ h => List.mem_cons_of_mem _ (List.mem_append_left _ (List.mem_append_right _ h))) (by decide +kernel))) (goodIn_sub (fun _ h => List.mem_cons_of_mem _ (List.mem_append_right _ h)) (by decide +kernel))
set_option maxRecDepth 20000 in
theorem gL_isRange_L_is : GoodIn wsL_isRange (va_wsS RL 294 yL_is wsL_is) := goodIn_app (goodIn_of _ (by decide +kernel)) ggL_isRange_L_is
theorem dL_isRange_0 : decode cL_isRange 0 = .ok (.iload_n 1, 1) := by decide +kernel
theorem dL_isRange_1 : decode cL_isRange 1 = .ok (.sipush (-1001), 3) := by decide +kernel
theorem dL_isRange_4 : decode cL_isRange 4 = .ok (.if_icmp .ne 17, 3) := by decide +kernel
theorem dL_isRange_7 : decode cL_isRange 7 = .ok (.aload_n 0, 1) := by decide +kernel
theorem dL_isRange_8 : decode cL_isRange 8 = .ok (.iconst 1, 1) := by decide +kernel
theorem dL_isRange_9 : decode cL_isRange 9 = .ok (.iconst 0, 1) := by decide +kernel
theorem dL_isRange_10 : decode cL_isRange 10 = .ok (.iconst 0, 1) := by decide +kernel
theorem dL_isRange_11 : decode cL_isRange 11 = .ok (.invokestatic 294, 3) := by decide +kernel
theorem dL_isRange_14 : decode cL_isRange 14 = .ok (.ifCond .eq 7, 3) := by decide +kernel
theorem dL_isRange_17 : decode cL_isRange 17 = .ok (.iconst 1, 1) := by decide +kernel
theorem dL_isRange_18 : decode cL_isRange 18 = .ok (.goto 4, 3) := by decide +kernel
theorem dL_isRange_21 : decode cL_isRange 21 = .ok (.iconst 0, 1) := by decide +kernel
theorem dL_isRange_22 : decode cL_isRange 22 = .ok (.ireturn, 1) := by decide +kernel
set_option maxRecDepth 20000 in
theorem ggL_makes_L_at : GoodIn wsL_makes wsL_at := goodIn_ca (goodIn_r _ [4] (by decide +kernel) (by decide +kernel)) (goodIn_sub (fun _ h => List.mem_cons_of_mem _ (List.mem_append_left _ (List.mem_append_left _ (List.mem_append_left _ (List.mem_append_left _ (List.mem_append_right _ h)))))) (by decide +kernel))
set_option maxRecDepth 20000 in
theorem gL_makes_L_at : GoodIn wsL_makes (va_wsS RL 170 yL_at wsL_at) := goodIn_app (goodIn_of _ (by decide +kernel)) ggL_makes_L_at
set_option maxRecDepth 20000 in
theorem ggL_makes_L_some : GoodIn wsL_makes wsL_some := goodIn_ca (goodIn_r _ [7] (by decide +kernel) (by decide +kernel)) (goodIn_sub (fun _ h => List.mem_cons_of_mem _ (List.mem_append_left _ (List.mem_append_left _ (List.mem_append_left _ (List.mem_append_right _ h))))) (by decide +kernel))
set_option maxRecDepth 20000 in
theorem gL_makes_L_some : GoodIn wsL_makes (va_wsS RL 174 yL_some wsL_some) := goodIn_app (goodIn_of _ (by decide +kernel)) ggL_makes_L_some
set_option maxRecDepth 20000 in
theorem ggL_makes_L_fileTall : GoodIn wsL_makes wsL_fileTall := goodIn_ca (goodIn_ca (goodIn_r _ [10, 11, 12, 13, 14, 15, 16, 17, 18, 19, 20, 21, 22, 23, 24, 25, 26, 27, 28, 29, 30, 31, 32, 33, 34, 35, 36, 37, 38, 39, 40, 41, 42, 43, 44, 45, 46, 47, 48, 49, 50, 51, 52, 53, 54, 55, 56, 57, 58, 59, 60, 61, 62, 63, 64, 65, 66, 67, 68, 69, 70, 71, 72, 73, 74, 75, 76, 77, 78, 79, 80, 81, 82, 83, 84, 85, 86, 87, 88, 89, 90, 91, 92, 93, 94, 95, 96, 97, 98, 99, 100, 101, 102, 103, 104, 105, 106, 107, 108, 109, 110, 111, 112, 113, 114, 115, 116, 117, 118, 119, 120, 121, 122, 123, 124, 125, 126, 127, 128, 129, 130, 131, 132, 133, 134, 135, 136, 137, 138, 139, 140, 141, 142, 143, 144, 145, 146, 147, 148, 149, 150, 151, 152, 153, 154, 155, 156, 157, 158, 159, 160, 161, 162, 163, 164, 165, 166, 167, 168, 169, 170, 171, 172, 173, 174, 175, 176, 177, 178, 179, 180, 181, 182, 183, 184, 185, 186, 187, 188, 189, 190, 191, 192, 193, 194, 195, 196, 197, 198, 199, 200, 201, 202, 203, 204, 205, 206, 207, 208, 209, 210, 211, 212, 213, 214, 215, 216, 217, 218, 219, 220, 221, 222, 223, 224, 225, 226, 227, 228, 229, 230, 231, 232, 233, 234, 235, 236, 280, 281, 282, 283, 284, 285, 286, 287, 288, 289, 290, 291, 292, 293, 294, 295, 296, 297, 298, 299, 300, 301, 302, 303, 304, 305, 306, 307, 308, 309, 310, 311] (by decide +kernel) (by decide +kernel)) (goodIn_sub (fun _ h => List.mem_cons_of_mem _ (List.mem_append_left _ (List.mem_append_left _ (List.mem_append_right _ h)))) (by decide +kernel))) (goodIn_sub (fun _ h => List.mem_cons_of_mem _ (List.mem_append_left _ (List.mem_append_left _ (List.mem_append_left _ (List.mem_append_left _ (List.mem_append_right _ h)))))) (by decide +kernel))
set_option maxRecDepth 20000 in
theorem gL_makes_L_fileTall : GoodIn wsL_makes (va_wsS RL 177 yL_fileTall wsL_fileTall) := goodIn_app (goodIn_of _ (by decide +kernel)) ggL_makes_L_fileTall
set_option maxRecDepth 20000 in
theorem ggL_makes_L_file : GoodIn wsL_makes wsL_file := goodIn_ca (goodIn_ca (goodIn_r _ [239, 11, 240, 241, 242, 15, 243, 17, 18, 19, 20, 21, 22, 23, 24, 25, 26, 27, 28, 29, 30, 31, 32, 33, 34, 35, 36, 37, 38, 39, 40, 41, 42, 43, 44, 45, 46, 47, 48, 49, 50, 51, 52, 53, 54, 55, 56, 57, 58, 59, 60, 61, 62, 63, 64, 65, 66, 67, 68, 69, 70, 71, 72, 73, 74, 75, 76, 77, 78, 79, 80, 81, 82, 83, 84, 85, 86, 87, 88, 89, 90, 91, 92, 93, 94, 95, 96, 97, 98, 99, 100, 101, 102, 103, 104, 105, 106, 107, 108, 109, 110, 111, 112, 113, 114, 115, 116, 117, 118, 119, 120, 121, 122, 123, 124, 125, 126, 127, 128, 129, 130, 131, 132, 133, 134, 135, 136, 137, 138, 139, 140, 141, 142, 143, 144, 145, 146, 147, 148, 149, 150, 151, 152, 153, 154, 155, 156, 157, 158, 159, 160, 161, 162, 163, 164, 165, 166, 167, 168, 169, 170, 171, 172, 173, 174, 175, 176, 177, 178, 179, 180, 181, 182, 183, 184, 185, 186, 187, 188, 189, 190, 191, 192, 193, 194, 195, 196, 197, 198, 199, 200, 201, 202, 203, 204, 205, 206, 207, 208, 209, 210, 211, 212, 213, 214, 215, 216, 217, 218, 219, 220, 221, 222, 223, 224, 225, 226, 227, 228, 229, 230, 231, 232, 233, 234, 235, 236, 280, 281, 282, 283, 284, 285, 286, 287, 288, 289, 290, 291, 292, 293, 294, 295, 296, 297, 298, 299, 300, 301, 302, 303, 304, 305, 306, 307, 308, 309, 310, 311] (by decide +kernel) (by decide +kernel)) (goodIn_sub (fun _ h => List.mem_cons_of_mem _ (List.mem_append_left _ (List.mem_append_left _ (List.mem_append_right _ h)))) (by decide +kernel))) (goodIn_sub (fun _ h => List.mem_cons_of_mem _ (List.mem_append_left _ (List.mem_append_left _ (List.mem_append_left _ (List.mem_append_left _ (List.mem_append_right _ h)))))) (by decide +kernel))
set_option maxRecDepth 20000 in
theorem gL_makes_L_file : GoodIn wsL_makes (va_wsS RL 180 yL_file wsL_file) := goodIn_app (goodIn_of _ (by decide +kernel)) ggL_makes_L_file
set_option maxRecDepth 20000 in
theorem ggL_makes_L_reason : GoodIn wsL_makes wsL_reason := goodIn_ca (goodIn_ca (goodIn_r _ [246, 247, 248, 249, 250, 251, 15, 252, 253, 254, 255, 256, 33, 257, 258, 259, 39, 260, 42, 261, 262, 263, 264, 265, 266, 267, 268, 43, 269, 270, 271, 272, 44, 280, 281, 282, 283, 284, 285, 286, 287, 288, 289, 290, 295, 296, 297, 298, 299] (by decide +kernel) (by decide +kernel)) (goodIn_sub (fun _ h => List.mem_cons_of_mem _ (List.mem_append_left _ (List.mem_append_right _ h))) (by decide +kernel))) (goodIn_sub (fun _ h => List.mem_cons_of_mem _ (List.mem_append_right _ h)) (by decide +kernel))
set_option maxRecDepth 20000 in
theorem gL_makes_L_reason : GoodIn wsL_makes (va_wsS RL 163 yL_reason wsL_reason) := goodIn_app (goodIn_of _ (by decide +kernel)) ggL_makes_L_reason
set_option maxRecDepth 20000 in
theorem ggL_makes_L_forget : GoodIn wsL_makes wsL_forget := goodIn_ca (goodIn_ca (goodIn_r _ [275, 11, 276, 277, 278, 15, 279, 17, 18, 19, 20, 21, 22, 23, 24, 25, 26, 27, 28, 29, 30, 31, 32, 33, 34, 35, 36, 37, 38, 39, 40, 41, 42, 43, 44, 45, 46, 47, 48, 49, 50, 51, 52, 53, 54, 55, 56, 57, 58, 59, 60, 61, 62, 63, 64, 65, 66, 67, 68, 69, 70, 71, 72, 73, 74, 75, 76, 77, 78, 79, 80, 81, 82, 83, 84, 85, 86, 87, 88, 89, 90, 91, 92, 93, 94, 95, 96, 97, 98, 99, 100, 101, 102, 103, 104, 105, 106, 107, 108, 109, 110, 111, 112, 113, 114, 115, 116, 117, 118, 119, 120, 121, 122, 123, 124, 125, 126, 127, 128, 129, 130, 131, 132, 133, 134, 135, 136, 137, 138, 139, 140, 141, 142, 143, 144, 145, 146, 147, 148, 149, 150, 151, 152, 153, 154, 155, 156, 157, 158, 159, 160, 161, 162, 163, 164, 165, 166, 167, 168, 169, 170, 171, 172, 173, 174, 175, 176, 177, 178, 179, 180, 181, 182, 183, 184, 185, 186, 187, 188, 189, 190, 191, 192, 193, 194, 195, 196, 197, 198, 199, 200, 201, 202, 203, 204, 205, 206, 207, 208, 209, 210, 211, 212, 213, 214, 215, 216, 217, 218, 219, 220, 221, 222, 223, 224, 225, 226, 227, 228, 229, 230, 231, 232, 233, 234, 235, 236, 280, 281, 282, 283, 284, 285, 286, 287, 288, 289, 290, 291, 292, 293, 294, 295, 296, 297, 298, 299, 300, 301, 302, 303, 304, 305, 306, 307, 308, 309, 310, 311] (by decide +kernel) (by decide +kernel)) (goodIn_sub (fun _ h => List.mem_cons_of_mem _ (List.mem_append_left _ (List.mem_append_left _ (List.mem_append_right _ h)))) (by decide +kernel))) (goodIn_sub (fun _ h => List.mem_cons_of_mem _ (List.mem_append_left _ (List.mem_append_left _ (List.mem_append_left _ (List.mem_append_left _ (List.mem_append_right _ h)))))) (by decide +kernel))
set_option maxRecDepth 20000 in
theorem gL_makes_L_forget : GoodIn wsL_makes (va_wsS RL 183 yL_forget wsL_forget) := goodIn_app (goodIn_of _ (by decide +kernel)) ggL_makes_L_forget
theorem dL_makes_0 : decode cL_makes 0 = .ok (.bipush 6, 2) := by decide +kernel
theorem dL_makes_2 : decode cL_makes 2 = .ok (.aload_n 1, 1) := by decide +kernel
theorem dL_makes_3 : decode cL_makes 3 = .ok (.iconst 0, 1) := by decide +kernel
theorem dL_makes_4 : decode cL_makes 4 = .ok (.invokestatic 170, 3) := by decide +kernel
theorem dL_makes_7 : decode cL_makes 7 = .ok (.bipush 10, 2) := by decide +kernel
theorem dL_makes_9 : decode cL_makes 9 = .ok (.invokestatic 174, 3) := by decide +kernel
theorem dL_makes_12 : decode cL_makes 12 = .ok (.iadd, 1) := by decide +kernel
theorem dL_makes_13 : decode cL_makes 13 = .ok (.istore_n 2, 1) := by decide +kernel
theorem dL_makes_14 : decode cL_makes 14 = .ok (.iconst 0, 1) := by decide +kernel
theorem dL_makes_15 : decode cL_makes 15 = .ok (.istore_n 3, 1) := by decide +kernel
theorem dL_makes_16 : decode cL_makes 16 = .ok (.iload_n 3, 1) := by decide +kernel
theorem dL_makes_17 : decode cL_makes 17 = .ok (.iload_n 2, 1) := by decide +kernel
theorem dL_makes_18 : decode cL_makes 18 = .ok (.if_icmp .ge 116, 3) := by decide +kernel
theorem dL_makes_21 : decode cL_makes 21 = .ok (.aload_n 1, 1) := by decide +kernel
theorem dL_makes_22 : decode cL_makes 22 = .ok (.iconst 1, 1) := by decide +kernel
theorem dL_makes_23 : decode cL_makes 23 = .ok (.iload_n 3, 1) := by decide +kernel
theorem dL_makes_24 : decode cL_makes 24 = .ok (.iadd, 1) := by decide +kernel
theorem dL_makes_25 : decode cL_makes 25 = .ok (.invokestatic 170, 3) := by decide +kernel
theorem dL_makes_28 : decode cL_makes 28 = .ok (.iload_n 3, 1) := by decide +kernel
theorem dL_makes_29 : decode cL_makes 29 = .ok (.sipush 7919, 3) := by decide +kernel
theorem dL_makes_32 : decode cL_makes 32 = .ok (.imul, 1) := by decide +kernel
theorem dL_makes_33 : decode cL_makes 33 = .ok (.ixor, 1) := by decide +kernel
theorem dL_makes_34 : decode cL_makes 34 = .ok (.istore 4, 2) := by decide +kernel
theorem dL_makes_36 : decode cL_makes 36 = .ok (.iload 4, 2) := by decide +kernel
theorem dL_makes_38 : decode cL_makes 38 = .ok (.iload 4, 2) := by decide +kernel
theorem dL_makes_40 : decode cL_makes 40 = .ok (.iconst 1, 1) := by decide +kernel
theorem dL_makes_41 : decode cL_makes 41 = .ok (.iand, 1) := by decide +kernel
theorem dL_makes_42 : decode cL_makes 42 = .ok (.ifCond .ne 8, 3) := by decide +kernel
theorem dL_makes_45 : decode cL_makes 45 = .ok (.bipush 60, 2) := by decide +kernel
theorem dL_makes_47 : decode cL_makes 47 = .ok (.goto 6, 3) := by decide +kernel
theorem dL_makes_50 : decode cL_makes 50 = .ok (.sipush 1000, 3) := by decide +kernel
theorem dL_makes_53 : decode cL_makes 53 = .ok (.invokestatic 174, 3) := by decide +kernel
theorem dL_makes_56 : decode cL_makes 56 = .ok (.istore 5, 2) := by decide +kernel
theorem dL_makes_58 : decode cL_makes 58 = .ok (.iload 4, 2) := by decide +kernel
theorem dL_makes_60 : decode cL_makes 60 = .ok (.bipush 6, 2) := by decide +kernel
theorem dL_makes_62 : decode cL_makes 62 = .ok (.iand, 1) := by decide +kernel
theorem dL_makes_63 : decode cL_makes 63 = .ok (.ifCond .ne 32, 3) := by decide +kernel
theorem dL_makes_66 : decode cL_makes 66 = .ok (.aload_n 0, 1) := by decide +kernel
theorem dL_makes_67 : decode cL_makes 67 = .ok (.iload 5, 2) := by decide +kernel
theorem dL_makes_69 : decode cL_makes 69 = .ok (.iload 4, 2) := by decide +kernel
theorem dL_makes_71 : decode cL_makes 71 = .ok (.iconst 4, 1) := by decide +kernel
theorem dL_makes_72 : decode cL_makes 72 = .ok (.ishr, 1) := by decide +kernel
theorem dL_makes_73 : decode cL_makes 73 = .ok (.bipush 100, 2) := by decide +kernel
theorem dL_makes_75 : decode cL_makes 75 = .ok (.invokestatic 174, 3) := by decide +kernel
theorem dL_makes_78 : decode cL_makes 78 = .ok (.iconst 1, 1) := by decide +kernel
theorem dL_makes_79 : decode cL_makes 79 = .ok (.iload 4, 2) := by decide +kernel
theorem dL_makes_81 : decode cL_makes 81 = .ok (.bipush 6, 2) := by decide +kernel
theorem dL_makes_83 : decode cL_makes 83 = .ok (.ishr, 1) := by decide +kernel
theorem dL_makes_84 : decode cL_makes 84 = .ok (.iconst 5, 1) := by decide +kernel
theorem dL_makes_85 : decode cL_makes 85 = .ok (.invokestatic 174, 3) := by decide +kernel
theorem dL_makes_88 : decode cL_makes 88 = .ok (.iadd, 1) := by decide +kernel
theorem dL_makes_89 : decode cL_makes 89 = .ok (.invokestatic 177, 3) := by decide +kernel
theorem dL_makes_92 : decode cL_makes 92 = .ok (.goto 18, 3) := by decide +kernel
theorem dL_makes_95 : decode cL_makes 95 = .ok (.aload_n 0, 1) := by decide +kernel
theorem dL_makes_96 : decode cL_makes 96 = .ok (.iload 5, 2) := by decide +kernel
theorem dL_makes_98 : decode cL_makes 98 = .ok (.iload 4, 2) := by decide +kernel
theorem dL_makes_100 : decode cL_makes 100 = .ok (.iconst 4, 1) := by decide +kernel
theorem dL_makes_101 : decode cL_makes 101 = .ok (.ishr, 1) := by decide +kernel
theorem dL_makes_102 : decode cL_makes 102 = .ok (.bipush 100, 2) := by decide +kernel
theorem dL_makes_104 : decode cL_makes 104 = .ok (.invokestatic 174, 3) := by decide +kernel
theorem dL_makes_107 : decode cL_makes 107 = .ok (.invokestatic 180, 3) := by decide +kernel
theorem dL_makes_110 : decode cL_makes 110 = .ok (.istore 6, 2) := by decide +kernel
theorem dL_makes_112 : decode cL_makes 112 = .ok (.iload 6, 2) := by decide +kernel
theorem dL_makes_114 : decode cL_makes 114 = .ok (.ifCond .ge 14, 3) := by decide +kernel
theorem dL_makes_117 : decode cL_makes 117 = .ok (.aload_n 0, 1) := by decide +kernel
theorem dL_makes_118 : decode cL_makes 118 = .ok (.iconst 0, 1) := by decide +kernel
theorem dL_makes_119 : decode cL_makes 119 = .ok (.invokestatic 163, 3) := by decide +kernel
theorem dL_makes_122 : decode cL_makes 122 = .ok (.iconst 4, 1) := by decide +kernel
theorem dL_makes_123 : decode cL_makes 123 = .ok (.if_icmp .eq 5, 3) := by decide +kernel
theorem dL_makes_126 : decode cL_makes 126 = .ok (.iconst 0, 1) := by decide +kernel
theorem dL_makes_127 : decode cL_makes 127 = .ok (.ireturn, 1) := by decide +kernel
theorem dL_makes_128 : decode cL_makes 128 = .ok (.iinc 3 1, 3) := by decide +kernel
theorem dL_makes_131 : decode cL_makes 131 = .ok (.goto (-115), 3) := by decide +kernel
theorem dL_makes_134 : decode cL_makes 134 = .ok (.aload_n 1, 1) := by decide +kernel
theorem dL_makes_135 : decode cL_makes 135 = .ok (.bipush 17, 2) := by decide +kernel
theorem dL_makes_137 : decode cL_makes 137 = .ok (.invokestatic 170, 3) := by decide +kernel
theorem dL_makes_140 : decode cL_makes 140 = .ok (.iconst 5, 1) := by decide +kernel
theorem dL_makes_141 : decode cL_makes 141 = .ok (.invokestatic 174, 3) := by decide +kernel
theorem dL_makes_144 : decode cL_makes 144 = .ok (.istore_n 3, 1) := by decide +kernel
theorem dL_makes_145 : decode cL_makes 145 = .ok (.iload_n 3, 1) := by decide +kernel
theorem dL_makes_146 : decode cL_makes 146 = .ok (.ifCond .eq 11, 3) := by decide +kernel
theorem dL_makes_149 : decode cL_makes 149 = .ok (.aload_n 0, 1) := by decide +kernel
theorem dL_makes_150 : decode cL_makes 150 = .ok (.iload_n 3, 1) := by decide +kernel
theorem dL_makes_151 : decode cL_makes 151 = .ok (.invokestatic 183, 3) := by decide +kernel
theorem dL_makes_154 : decode cL_makes 154 = .ok (.ifCond .lt 7, 3) := by decide +kernel
theorem dL_makes_157 : decode cL_makes 157 = .ok (.iconst 1, 1) := by decide +kernel
theorem dL_makes_158 : decode cL_makes 158 = .ok (.goto 4, 3) := by decide +kernel
theorem dL_makes_161 : decode cL_makes 161 = .ok (.iconst 0, 1) := by decide +kernel
theorem dL_makes_162 : decode cL_makes 162 = .ok (.ireturn, 1) := by decide +kernel
