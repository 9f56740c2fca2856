set_option maxRecDepth 20000 in
theorem ggL_changes_L_account : GoodIn wsL_changes wsL_account := goodIn_ca (goodIn_ca (goodIn_r _ [11, 12, 13, 14, 15, 16, 17, 18, 19, 20, 21, 22, 23, 24, 25, 26, 27, 28, 29, 30, 31, 32, 33, 34, 35, 36, 37, 38, 39, 40, 41, 42, 43, 44, 45, 46, 47, 48, 49, 50, 51, 52, 53, 54, 55, 56, 57, 58, 59, 60, 61, 62, 63, 64, 65, 66, 67, 68, 69, 70, 71, 72, 73, 74, 75, 76, 77, 78, 79, 80, 81, 82, 83, 84, 85, 86, 87, 88, 89, 6, 90, 91, 92, 93, 94, 95, 96, 97, 98, 99, 100, 101, 102, 705, 706, 707, 708, 709, 710, 711, 712, 713, 714, 715, 716, 717, 718, 719, 720, 721, 722, 723, 724, 725, 726, 727, 728, 729, 730, 731] (by decide +kernel) (by decide +kernel)) (goodIn_sub (fun _ h => List.mem_cons_of_mem _ (List.mem_append_left _ (List.mem_append_left _ (List.mem_append_left _ (List.mem_append_left _ (List.mem_append_left _ (List.mem_append_right _ h))))))) (by decide +kernel))) (goodIn_sub (fun _ h => List.mem_cons_of_mem _ (List.mem_append_left _ (List.mem_append_left _ (List.mem_append_left _ (List.mem_append_left _ (List.mem_append_right _ h)))))) (by decide +kernel))
set_option maxRecDepth 20000 in
theorem gL_changes_L_account : GoodIn wsL_changes (va_wsS RL 205 yL_account wsL_account) := goodIn_app (goodIn_of _ (by decide +kernel)) ggL_changes_L_account
set_option maxRecDepth 20000 in
theorem ggL_changes_L_some : GoodIn wsL_changes wsL_some := goodIn_ca (goodIn_r _ [105] (by decide +kernel) (by decide +kernel)) (goodIn_sub (fun _ h => List.mem_cons_of_mem _ (List.mem_append_left _ (List.mem_append_left _ (List.mem_append_left _ (List.mem_append_right _ h))))) (by decide +kernel))
set_option maxRecDepth 20000 in
theorem gL_changes_L_some : GoodIn wsL_changes (va_wsS RL 174 yL_some wsL_some) := goodIn_app (goodIn_of _ (by decide +kernel)) ggL_changes_L_some
set_option maxRecDepth 20000 in
theorem ggL_changes_L_keyAt : GoodIn wsL_changes wsL_keyAt := goodIn_ca (goodIn_ca (goodIn_r _ [108, 109, 110, 111, 112, 16, 113, 114, 115, 116, 117, 118, 119, 20, 120, 39, 40, 26, 41, 28, 121, 122, 123, 124, 125, 38, 705, 706, 707, 708, 709, 710, 711, 712, 713, 714, 715, 716, 717, 718, 719, 720, 721] (by decide +kernel) (by decide +kernel)) (goodIn_sub (fun _ h => List.mem_cons_of_mem _ (List.mem_append_left _ (List.mem_append_left _ (List.mem_append_right _ h)))) (by decide +kernel))) (goodIn_sub (fun _ h => List.mem_cons_of_mem _ (List.mem_append_left _ (List.mem_append_left _ (List.mem_append_left _ (List.mem_append_left _ (List.mem_append_right _ h)))))) (by decide +kernel))
set_option maxRecDepth 20000 in
theorem gL_changes_L_keyAt : GoodIn wsL_changes (va_wsS RL 207 yL_keyAt wsL_keyAt) := goodIn_app (goodIn_of _ (by decide +kernel)) ggL_changes_L_keyAt
set_option maxRecDepth 20000 in
theorem ggL_changes_L_file : GoodIn wsL_changes wsL_file := goodIn_ca (goodIn_ca (goodIn_r _ [128, 129, 130, 131, 132, 16, 133, 134, 135, 136, 137, 138, 139, 140, 141, 142, 143, 144, 145, 146, 147, 148, 149, 150, 21, 20, 151, 152, 153, 154, 155, 156, 157, 158, 159, 160, 161, 162, 163, 164, 165, 166, 167, 168, 169, 170, 171, 172, 173, 174, 175, 176, 177, 178, 179, 180, 181, 182, 183, 184, 185, 186, 187, 188, 189, 190, 26, 191, 125, 192, 193, 194, 195, 28, 38, 39, 40, 41, 196, 197, 198, 199, 200, 201, 202, 203, 204, 205, 206, 207, 208, 47, 48, 49, 50, 209, 210, 211, 212, 213, 34, 35, 36, 37, 214, 215, 216, 217, 218, 219, 220, 221, 222, 223, 224, 225, 76, 226, 227, 228, 94, 229, 230, 96, 231, 232, 6, 233, 234, 235, 236, 237, 238, 239, 240, 241, 242, 243, 244, 245, 246, 55, 247, 248, 249, 59, 250, 61, 66, 71, 251, 252, 253, 254, 255, 256, 257, 258, 259, 52, 53, 54, 260, 261, 262, 263, 264, 265, 266, 267, 268, 269, 270, 271, 272, 273, 274, 275, 276, 277, 278, 279, 122, 123, 124, 46, 33, 280, 281, 282, 283, 284, 285, 286, 287, 288, 289, 24, 25, 27, 290, 291, 292, 293, 294, 295, 296, 297, 298, 299, 300, 301, 302, 303, 304, 305, 306, 307, 308, 309, 310, 311, 312, 313, 314, 315, 316, 705, 706, 707, 708, 709, 710, 711, 712, 713, 714, 715, 732, 733, 734, 735, 736, 737, 738, 739, 740, 716, 717, 718, 719, 720, 721, 725, 726, 727, 722, 723, 724] (by decide +kernel) (by decide +kernel)) (goodIn_sub (fun _ h => List.mem_cons_of_mem _ (List.mem_append_left _ (List.mem_append_right _ h))) (by decide +kernel))) (goodIn_sub (fun _ h => List.mem_cons_of_mem _ (List.mem_append_left _ (List.mem_append_left _ (List.mem_append_left _ (List.mem_append_left _ (List.mem_append_right _ h)))))) (by decide +kernel))
set_option maxRecDepth 20000 in
theorem gL_changes_L_file : GoodIn wsL_changes (va_wsS RL 180 yL_file wsL_file) := goodIn_app (goodIn_of _ (by decide +kernel)) ggL_changes_L_file
set_option maxRecDepth 20000 in
theorem ggL_changes_L_fileTall : GoodIn wsL_changes wsL_fileTall := goodIn_ca (goodIn_ca (goodIn_r _ [319, 129, 320, 321, 322, 16, 323, 134, 135, 136, 137, 138, 139, 140, 141, 142, 143, 144, 145, 146, 147, 148, 149, 150, 21, 20, 151, 152, 153, 154, 155, 156, 157, 158, 159, 160, 161, 162, 163, 164, 165, 166, 167, 168, 169, 170, 171, 172, 173, 174, 175, 176, 177, 178, 179, 180, 181, 182, 183, 184, 185, 186, 187, 188, 189, 190, 26, 191, 125, 192, 193, 194, 195, 28, 38, 39, 40, 41, 196, 197, 198, 199, 200, 201, 202, 203, 204, 205, 206, 207, 208, 47, 48, 49, 50, 209, 210, 211, 212, 213, 34, 35, 36, 37, 214, 215, 216, 217, 218, 219, 220, 221, 222, 223, 224, 225, 76, 226, 227, 228, 94, 229, 230, 96, 231, 232, 6, 233, 234, 235, 236, 237, 238, 239, 240, 241, 242, 243, 244, 245, 246, 55, 247, 248, 249, 59, 250, 61, 66, 71, 251, 252, 253, 254, 255, 256, 257, 258, 259, 52, 53, 54, 260, 261, 262, 263, 264, 265, 266, 267, 268, 269, 270, 271, 272, 273, 274, 275, 276, 277, 278, 279, 122, 123, 124, 46, 33, 280, 281, 282, 283, 284, 285, 286, 287, 288, 289, 24, 25, 27, 290, 291, 292, 293, 294, 295, 296, 297, 298, 299, 300, 301, 302, 303, 304, 305, 306, 307, 308, 309, 310, 311, 312, 313, 314, 315, 316, 705, 706, 707, 708, 709, 710, 711, 712, 713, 714, 715, 732, 733, 734, 735, 736, 737, 738, 739, 740, 716, 717, 718, 719, 720, 721, 725, 726, 727, 722, 723, 724] (by decide +kernel) (by decide +kernel)) (goodIn_sub (fun _ h => List.mem_cons_of_mem _ (List.mem_append_left _ (List.mem_append_right _ h))) (by decide +kernel))) (goodIn_sub (fun _ h => List.mem_cons_of_mem _ (List.mem_append_left _ (List.mem_append_left _ (List.mem_append_left _ (List.mem_append_left _ (List.mem_append_right _ h)))))) (by decide +kernel))
set_option maxRecDepth 20000 in
theorem gL_changes_L_fileTall : GoodIn wsL_changes (va_wsS RL 177 yL_fileTall wsL_fileTall) := goodIn_app (goodIn_of _ (by decide +kernel)) ggL_changes_L_fileTall
set_option maxRecDepth 20000 in
theorem ggL_changes_L_drop : GoodIn wsL_changes wsL_drop := goodIn_ca (goodIn_ca (goodIn_r _ [326, 129, 327, 328, 329, 16, 330, 134, 135, 136, 137, 138, 139, 140, 141, 142, 143, 144, 145, 146, 147, 148, 149, 150, 21, 20, 151, 152, 153, 154, 155, 156, 157, 158, 159, 160, 161, 162, 163, 164, 165, 166, 167, 168, 169, 170, 171, 172, 173, 174, 175, 176, 177, 178, 179, 180, 181, 182, 183, 184, 185, 186, 187, 188, 189, 190, 26, 191, 125, 192, 193, 194, 195, 28, 38, 39, 40, 41, 196, 197, 198, 199, 200, 201, 202, 203, 204, 205, 206, 207, 208, 47, 48, 49, 50, 209, 210, 211, 212, 213, 34, 35, 36, 37, 214, 215, 216, 217, 218, 219, 220, 221, 222, 223, 224, 225, 76, 226, 227, 228, 94, 229, 230, 96, 231, 232, 6, 233, 234, 235, 236, 237, 238, 239, 240, 241, 242, 243, 244, 245, 246, 55, 247, 248, 249, 59, 250, 61, 66, 71, 251, 252, 253, 254, 255, 256, 257, 258, 259, 52, 53, 54, 260, 261, 262, 263, 264, 265, 266, 267, 268, 269, 270, 271, 272, 273, 274, 275, 276, 277, 278, 279, 122, 123, 124, 46, 33, 280, 281, 282, 283, 284, 285, 286, 287, 288, 289, 24, 25, 27, 290, 291, 292, 293, 294, 295, 296, 297, 298, 299, 300, 301, 302, 303, 304, 305, 306, 307, 308, 309, 310, 311, 312, 313, 314, 315, 316, 705, 706, 707, 708, 709, 710, 711, 712, 713, 714, 715, 732, 733, 734, 735, 736, 737, 738, 739, 740, 716, 717, 718, 719, 720, 721, 725, 726, 727, 722, 723, 724] (by decide +kernel) (by decide +kernel)) (goodIn_sub (fun _ h => List.mem_cons_of_mem _ (List.mem_append_left _ (List.mem_append_right _ h))) (by decide +kernel))) (goodIn_sub (fun _ h => List.mem_cons_of_mem _ (List.mem_append_left _ (List.mem_append_left _ (List.mem_append_left _ (List.mem_append_left _ (List.mem_append_right _ h)))))) (by decide +kernel))
set_option maxRecDepth 20000 in
theorem gL_changes_L_drop : GoodIn wsL_changes (va_wsS RL 249 yL_drop wsL_drop) := goodIn_app (goodIn_of _ (by decide +kernel)) ggL_changes_L_drop
set_option maxRecDepth 20000 in
theorem ggL_changes_L_raise : GoodIn wsL_changes wsL_raise := goodIn_ca (goodIn_ca (goodIn_r _ [333, 129, 334, 335, 336, 16, 337, 134, 135, 136, 137, 138, 139, 140, 141, 142, 143, 144, 145, 146, 147, 148, 149, 150, 21, 20, 151, 152, 153, 154, 155, 156, 157, 158, 159, 160, 161, 162, 163, 164, 165, 166, 167, 168, 169, 170, 171, 172, 173, 174, 175, 176, 177, 178, 179, 180, 181, 182, 183, 184, 185, 186, 187, 188, 189, 190, 26, 191, 125, 192, 193, 194, 195, 28, 38, 39, 40, 41, 196, 197, 198, 199, 200, 201, 202, 203, 204, 205, 206, 207, 208, 47, 48, 49, 50, 209, 210, 211, 212, 213, 34, 35, 36, 37, 214, 215, 216, 217, 218, 219, 220, 221, 222, 223, 224, 225, 76, 226, 227, 228, 94, 229, 230, 96, 231, 232, 6, 233, 234, 235, 236, 237, 238, 239, 240, 241, 242, 243, 244, 245, 246, 55, 247, 248, 249, 59, 250, 61, 66, 71, 251, 252, 253, 254, 255, 256, 257, 258, 259, 52, 53, 54, 260, 261, 262, 263, 264, 265, 266, 267, 268, 269, 270, 271, 272, 273, 274, 275, 276, 277, 278, 279, 122, 123, 124, 46, 33, 280, 281, 282, 283, 284, 285, 286, 287, 288, 289, 24, 25, 27, 290, 291, 292, 293, 294, 295, 296, 297, 298, 299, 300, 301, 302, 303, 304, 305, 306, 307, 308, 309, 310, 311, 312, 313, 314, 315, 316, 705, 706, 707, 708, 709, 710, 711, 712, 713, 714, 715, 732, 733, 734, 735, 736, 737, 738, 739, 740, 716, 717, 718, 719, 720, 721, 725, 726, 727, 722, 723, 724] (by decide +kernel) (by decide +kernel)) (goodIn_sub (fun _ h => List.mem_cons_of_mem _ (List.mem_append_left _ (List.mem_append_right _ h))) (by decide +kernel))) (goodIn_sub (fun _ h => List.mem_cons_of_mem _ (List.mem_append_left _ (List.mem_append_left _ (List.mem_append_left _ (List.mem_append_left _ (List.mem_append_right _ h)))))) (by decide +kernel))
set_option maxRecDepth 20000 in
theorem gL_changes_L_raise : GoodIn wsL_changes (va_wsS RL 251 yL_raise wsL_raise) := goodIn_app (goodIn_of _ (by decide +kernel)) ggL_changes_L_raise
set_option maxRecDepth 20000 in
theorem ggL_changes_L_lower : GoodIn wsL_changes wsL_lower := goodIn_ca (goodIn_ca (goodIn_r _ [340, 129, 341, 342, 343, 16, 344, 134, 135, 136, 137, 138, 139, 140, 141, 142, 143, 144, 145, 146, 147, 148, 149, 150, 21, 20, 151, 152, 153, 154, 155, 156, 157, 158, 159, 160, 161, 162, 163, 164, 165, 166, 167, 168, 169, 170, 171, 172, 173, 174, 175, 176, 177, 178, 179, 180, 181, 182, 183, 184, 185, 186, 187, 188, 189, 190, 26, 191, 125, 192, 193, 194, 195, 28, 38, 39, 40, 41, 196, 197, 198, 199, 200, 201, 202, 203, 204, 205, 206, 207, 208, 47, 48, 49, 50, 209, 210, 211, 212, 213, 34, 35, 36, 37, 214, 215, 216, 217, 218, 219, 220, 221, 222, 223, 224, 225, 76, 226, 227, 228, 94, 229, 230, 96, 231, 232, 6, 233, 234, 235, 236, 237, 238, 239, 240, 241, 242, 243, 244, 245, 246, 55, 247, 248, 249, 59, 250, 61, 66, 71, 251, 252, 253, 254, 255, 256, 257, 258, 259, 52, 53, 54, 260, 261, 262, 263, 264, 265, 266, 267, 268, 269, 270, 271, 272, 273, 274, 275, 276, 277, 278, 279, 122, 123, 124, 46, 33, 280, 281, 282, 283, 284, 285, 286, 287, 288, 289, 24, 25, 27, 290, 291, 292, 293, 294, 295, 296, 297, 298, 299, 300, 301, 302, 303, 304, 305, 306, 307, 308, 309, 310, 311, 312, 313, 314, 315, 316, 705, 706, 707, 708, 709, 710, 711, 712, 713, 714, 715, 732, 733, 734, 735, 736, 737, 738, 739, 740, 716, 717, 718, 719, 720, 721, 725, 726, 727, 722, 723, 724] (by decide +kernel) (by decide +kernel)) (goodIn_sub (fun _ h => List.mem_cons_of_mem _ (List.mem_append_left _ (List.mem_append_right _ h))) (by decide +kernel))) (goodIn_sub (fun _ h => List.mem_cons_of_mem _ (List.mem_append_left _ (List.mem_append_left _ (List.mem_append_left _ (List.mem_append_left _ (List.mem_append_right _ h)))))) (by decide +kernel))
set_option maxRecDepth 20000 in
theorem gL_changes_L_lower : GoodIn wsL_changes (va_wsS RL 253 yL_lower wsL_lower) := goodIn_app (goodIn_of _ (by decide +kernel)) ggL_changes_L_lower
set_option maxRecDepth 20000 in
theorem ggL_changes_L_forget : GoodIn wsL_changes wsL_forget := goodIn_ca (goodIn_ca (goodIn_r _ [347, 129, 348, 349, 350, 16, 351, 134, 135, 136, 137, 138, 139, 140, 141, 142, 143, 144, 145, 146, 147, 148, 149, 150, 21, 20, 151, 152, 153, 154, 155, 156, 157, 158, 159, 160, 161, 162, 163, 164, 165, 166, 167, 168, 169, 170, 171, 172, 173, 174, 175, 176, 177, 178, 179, 180, 181, 182, 183, 184, 185, 186, 187, 188, 189, 190, 26, 191, 125, 192, 193, 194, 195, 28, 38, 39, 40, 41, 196, 197, 198, 199, 200, 201, 202, 203, 204, 205, 206, 207, 208, 47, 48, 49, 50, 209, 210, 211, 212, 213, 34, 35, 36, 37, 214, 215, 216, 217, 218, 219, 220, 221, 222, 223, 224, 225, 76, 226, 227, 228, 94, 229, 230, 96, 231, 232, 6, 233, 234, 235, 236, 237, 238, 239, 240, 241, 242, 243, 244, 245, 246, 55, 247, 248, 249, 59, 250, 61, 66, 71, 251, 252, 253, 254, 255, 256, 257, 258, 259, 52, 53, 54, 260, 261, 262, 263, 264, 265, 266, 267, 268, 269, 270, 271, 272, 273, 274, 275, 276, 277, 278, 279, 122, 123, 124, 46, 33, 280, 281, 282, 283, 284, 285, 286, 287, 288, 289, 24, 25, 27, 290, 291, 292, 293, 294, 295, 296, 297, 298, 299, 300, 301, 302, 303, 304, 305, 306, 307, 308, 309, 310, 311, 312, 313, 314, 315, 316, 705, 706, 707, 708, 709, 710, 711, 712, 713, 714, 715, 732, 733, 734, 735, 736, 737, 738, 739, 740, 716, 717, 718, 719, 720, 721, 725, 726, 727, 722, 723, 724] (by decide +kernel) (by decide +kernel)) (goodIn_sub (fun _ h => List.mem_cons_of_mem _ (List.mem_append_left _ (List.mem_append_right _ h))) (by decide +kernel))) (goodIn_sub (fun _ h => List.mem_cons_of_mem _ (List.mem_append_left _ (List.mem_append_left _ (List.mem_append_left _ (List.mem_append_left _ (List.mem_append_right _ h)))))) (by decide +kernel))
set_option maxRecDepth 20000 in
theorem gL_changes_L_forget : GoodIn wsL_changes (va_wsS RL 183 yL_forget wsL_forget) := goodIn_app (goodIn_of _ (by decide +kernel)) ggL_changes_L_forget
set_option maxRecDepth 20000 in
theorem ggL_changes_L_recall : GoodIn wsL_changes wsL_recall := goodIn_ca (goodIn_ca (goodIn_r _ [354, 129, 355, 356, 357, 16, 358, 134, 135, 136, 137, 138, 139, 140, 141, 142, 143, 144, 145, 146, 147, 148, 149, 150, 21, 20, 151, 152, 153, 154, 155, 156, 157, 158, 159, 160, 161, 162, 163, 164, 165, 166, 167, 168, 169, 170, 171, 172, 173, 174, 175, 176, 177, 178, 179, 180, 181, 182, 183, 184, 185, 186, 187, 188, 189, 190, 26, 191, 125, 192, 193, 194, 195, 28, 38, 39, 40, 41, 196, 197, 198, 199, 200, 201, 202, 203, 204, 205, 206, 207, 208, 47, 48, 49, 50, 209, 210, 211, 212, 213, 34, 35, 36, 37, 214, 215, 216, 217, 218, 219, 220, 221, 222, 223, 224, 225, 76, 226, 227, 228, 94, 229, 230, 96, 231, 232, 6, 233, 234, 235, 236, 237, 238, 239, 240, 241, 242, 243, 244, 245, 246, 55, 247, 248, 249, 59, 250, 61, 66, 71, 251, 252, 253, 254, 255, 256, 257, 258, 259, 52, 53, 54, 260, 261, 262, 263, 264, 265, 266, 267, 268, 269, 270, 271, 272, 273, 274, 275, 276, 277, 278, 279, 122, 123, 124, 46, 33, 280, 281, 282, 283, 284, 285, 286, 287, 288, 289, 24, 25, 27, 290, 291, 292, 293, 294, 295, 296, 297, 298, 299, 300, 301, 302, 303, 304, 305, 306, 307, 308, 309, 310, 311, 312, 313, 314, 315, 316, 705, 706, 707, 708, 709, 710, 711, 712, 713, 714, 715, 732, 733, 734, 735, 736, 737, 738, 739, 740, 716, 717, 718, 719, 720, 721, 725, 726, 727, 722, 723, 724] (by decide +kernel) (by decide +kernel)) (goodIn_sub (fun _ h => List.mem_cons_of_mem _ (List.mem_append_left _ (List.mem_append_right _ h))) (by decide +kernel))) (goodIn_sub (fun _ h => List.mem_cons_of_mem _ (List.mem_append_left _ (List.mem_append_left _ (List.mem_append_left _ (List.mem_append_left _ (List.mem_append_right _ h)))))) (by decide +kernel))
set_option maxRecDepth 20000 in
theorem gL_changes_L_recall : GoodIn wsL_changes (va_wsS RL 255 yL_recall wsL_recall) := goodIn_app (goodIn_of _ (by decide +kernel)) ggL_changes_L_recall
set_option maxRecDepth 20000 in
theorem ggL_changes_L_weigh : GoodIn wsL_changes wsL_weigh := goodIn_ca (goodIn_ca (goodIn_r _ [361, 129, 362, 363, 364, 16, 365, 134, 135, 136, 137, 138, 139, 140, 141, 142, 143, 144, 145, 146, 147, 148, 149, 150, 21, 20, 151, 152, 153, 154, 155, 156, 157, 158, 159, 160, 161, 162, 163, 164, 165, 166, 167, 168, 169, 170, 171, 172, 173, 174, 175, 176, 177, 178, 179, 180, 181, 182, 183, 184, 185, 186, 187, 188, 189, 190, 26, 191, 125, 192, 193, 194, 195, 28, 38, 39, 40, 41, 196, 197, 198, 199, 200, 201, 202, 203, 204, 205, 206, 207, 208, 47, 48, 49, 50, 209, 210, 211, 212, 213, 34, 35, 36, 37, 214, 215, 216, 217, 218, 219, 220, 221, 222, 223, 224, 225, 76, 226, 227, 228, 94, 229, 230, 96, 231, 232, 6, 233, 234, 235, 236, 237, 238, 239, 240, 241, 242, 243, 244, 245, 246, 55, 247, 248, 249, 59, 250, 61, 66, 71, 251, 252, 253, 254, 255, 256, 257, 258, 259, 52, 53, 54, 260, 261, 262, 263, 264, 265, 266, 267, 268, 269, 270, 271, 272, 273, 274, 275, 276, 277, 278, 279, 122, 123, 124, 46, 33, 280, 281, 282, 283, 284, 285, 286, 287, 288, 289, 24, 25, 27, 290, 291, 292, 293, 294, 295, 296, 297, 298, 299, 300, 301, 302, 303, 304, 305, 306, 307, 308, 309, 310, 311, 312, 313, 314, 315, 316, 705, 706, 707, 708, 709, 710, 711, 712, 713, 714, 715, 732, 733, 734, 735, 736, 737, 738, 739, 740, 716, 717, 718, 719, 720, 721, 725, 726, 727, 722, 723, 724] (by decide +kernel) (by decide +kernel)) (goodIn_sub (fun _ h => List.mem_cons_of_mem _ (List.mem_append_left _ (List.mem_append_right _ h))) (by decide +kernel))) (goodIn_sub (fun _ h => List.mem_cons_of_mem _ (List.mem_append_left _ (List.mem_append_left _ (List.mem_append_left _ (List.mem_append_left _ (List.mem_append_right _ h)))))) (by decide +kernel))
set_option maxRecDepth 20000 in
theorem gL_changes_L_weigh : GoodIn wsL_changes (va_wsS RL 257 yL_weigh wsL_weigh) := goodIn_app (goodIn_of _ (by decide +kernel)) ggL_changes_L_weigh
set_option maxRecDepth 20000 in
theorem ggL_changes_X7_toss : GoodIn wsL_changes wsX7_toss := goodIn_ca (goodIn_ca (goodIn_r _ [369, 134, 135, 136, 137, 138, 139, 140, 141, 142, 143, 144, 145, 146, 16, 147, 148, 149, 150, 21, 20, 151, 152, 153, 154, 155, 156, 157, 158, 159, 160, 161, 162, 163, 164, 165, 166, 167, 168, 169, 170, 171, 172, 173, 174, 175, 176, 177, 178, 179, 180, 181, 182, 183, 184, 185, 186, 187, 188, 189, 190, 26, 191, 125, 192, 193, 194, 195, 28, 38, 39, 40, 41, 196, 197, 198, 199, 200, 201, 202, 203, 204, 205, 206, 207, 208, 47, 48, 49, 50, 209, 210, 211, 212, 213, 34, 35, 36, 37, 214, 215, 216, 217, 218, 219, 220, 221, 222, 223, 224, 225, 76, 226, 227, 228, 94, 229, 230, 96, 231, 232, 6, 233, 234, 235, 236, 237, 238, 239, 240, 241, 242, 243, 244, 245, 246, 55, 247, 248, 249, 59, 250, 61, 66, 71, 251, 252, 253, 254, 255, 256, 257, 258, 259, 52, 53, 54, 260, 261, 262, 263, 264, 265, 266, 267, 268, 269, 270, 271, 272, 273, 274, 275, 276, 277, 278, 279, 122, 123, 124, 46, 33, 280, 281, 282, 283, 284, 285, 286, 287, 288, 289, 24, 25, 27, 290, 291, 292, 293, 294, 295, 296, 297, 298, 299, 300, 301, 302, 303, 304, 305, 306, 307, 308, 309, 310, 311, 312, 313, 314, 315, 316, 705, 706, 707, 708, 709, 710, 711, 712, 713, 714, 715, 732, 733, 734, 735, 736, 737, 738, 739, 740, 716, 717, 718, 719, 720, 721, 725, 726, 727, 722, 723, 724] (by decide +kernel) (by decide +kernel)) (goodIn_sub (fun _ h => List.mem_cons_of_mem _ (List.mem_append_left _ (List.mem_append_right _ h))) (by decide +kernel))) (goodIn_sub (fun _ h => List.mem_cons_of_mem _ (List.mem_append_left _ (List.mem_append_left _ (List.mem_append_left _ (List.mem_append_left _ (List.mem_append_right _ h)))))) (by decide +kernel))
set_option maxRecDepth 20000 in
theorem gL_changes_X7_toss : GoodIn wsL_changes (wsV RL 259 RX7 yX7_toss wsX7_toss) := goodIn_app (goodIn_of _ (by decide +kernel)) ggL_changes_X7_toss
set_option maxRecDepth 20000 in
theorem ggL_changes_J4_init_da8c8 : GoodIn wsL_changes wsJ4_init_da8c8 := goodIn_r _ [372, 373, 374, 375, 376, 377, 378, 379, 380, 381, 382, 383, 384, 385, 386, 387, 388, 389, 390, 391, 701, 702, 703, 704] (by decide +kernel) (by decide +kernel)
set_option maxRecDepth 20000 in
theorem gL_changes_J4_init_da8c8 : GoodIn wsL_changes (wsJ4_init_da8c8) := ggL_changes_J4_init_da8c8
set_option maxRecDepth 20000 in
theorem ggL_changes_J4_append_15ec4 : GoodIn wsL_changes wsJ4_append_15ec4 := goodIn_r _ [395, 396, 397, 398, 399, 375, 400, 401, 402, 403, 404, 405, 406, 382, 407, 408, 409, 410, 411, 383, 412, 413, 414, 415, 416, 417, 418, 419, 420, 421, 422, 89, 6, 90, 423, 424, 425, 426, 427, 428, 429, 430, 431, 432, 433, 434, 435, 436, 381, 437, 232, 233, 438, 244, 245, 246, 439, 440, 441, 442, 443, 380, 444, 445, 386, 446, 447, 448, 449, 450, 451, 452, 453, 454, 455, 456, 457, 458, 459, 460, 461, 462, 463, 464, 465, 466, 467, 468, 469, 470, 471, 472, 473, 474, 475, 476, 477, 478, 479, 480, 481, 482, 483, 484, 485, 486, 487, 488, 489, 490, 491, 492, 493, 494, 384, 385, 387, 388, 389, 390, 391, 495, 496, 497, 498, 499, 500, 501, 502, 503, 504, 505, 506, 507, 508, 509, 510, 511, 512, 513, 514, 515, 516, 701, 702, 703, 704, 741, 742, 743, 744] (by decide +kernel) (by decide +kernel)
set_option maxRecDepth 20000 in
theorem gL_changes_J4_append_15ec4 : GoodIn wsL_changes (wsV RL 267 RJ4 yJ4_append_15ec4 wsJ4_append_15ec4) := goodIn_app (goodIn_of _ (by decide +kernel)) ggL_changes_J4_append_15ec4
set_option maxRecDepth 20000 in
theorem ggL_changes_J4_append_bf812 : GoodIn wsL_changes wsJ4_append_bf812 := goodIn_r _ [520, 521, 522, 398, 523, 375, 524, 401, 382, 525, 526, 79, 527, 407, 408, 409, 410, 411, 383, 412, 413, 414, 415, 416, 417, 418, 419, 420, 421, 422, 89, 6, 90, 423, 424, 425, 426, 427, 428, 429, 430, 431, 432, 433, 434, 435, 436, 381, 437, 232, 233, 438, 244, 245, 246, 439, 440, 441, 442, 443, 380, 528, 529, 530, 531, 532, 533, 534, 386, 535, 447, 448, 449, 450, 451, 452, 453, 454, 455, 456, 457, 458, 459, 460, 461, 462, 536, 537, 538, 539, 540, 463, 464, 465, 466, 467, 701, 702, 703, 704] (by decide +kernel) (by decide +kernel)
set_option maxRecDepth 20000 in
theorem gL_changes_J4_append_bf812 : GoodIn wsL_changes (wsV RL 270 RJ4 yJ4_append_bf812 wsJ4_append_bf812) := goodIn_app (goodIn_of _ (by decide +kernel)) ggL_changes_J4_append_bf812
set_option maxRecDepth 20000 in
theorem ggL_changes_J4_toString_0e30d : GoodIn wsL_changes wsJ4_toString_0e30d := goodIn_r _ [544, 545, 546, 456, 547, 548, 549, 550, 551, 552, 553, 378, 379, 478, 472, 477, 554, 555, 556, 557, 558, 375, 559, 382, 560, 561, 562, 563, 564, 3, 565, 566, 398, 567, 568, 401, 569, 440, 441, 442, 443, 380, 383, 570, 571, 429, 572, 431, 432, 433, 434, 435, 436, 573, 574, 575, 381, 437, 232, 6, 233, 438, 244, 245, 246, 576, 577, 578, 579, 2, 580, 581, 386, 582, 583, 584, 585, 502, 503, 504, 451, 452, 453, 505, 506, 507, 458, 508, 509, 461, 510, 586, 587, 588, 447, 466, 467, 388, 389, 390, 391, 589, 590, 591, 592, 741, 742, 743, 744, 701, 702, 703, 704] (by decide +kernel) (by decide +kernel)
set_option maxRecDepth 20000 in
theorem gL_changes_J4_toString_0e30d : GoodIn wsL_changes (wsV RL 277 RJ4 yJ4_toString_0e30d wsJ4_toString_0e30d) := goodIn_app (goodIn_of _ (by decide +kernel)) ggL_changes_J4_toString_0e30d
set_option maxRecDepth 20000 in
theorem ggL_changes_L_reads : GoodIn wsL_changes wsL_reads := goodIn_ca (goodIn_ca (goodIn_ca (goodIn_ca (goodIn_r _ [595, 596, 469, 470, 456, 471, 472, 473, 474, 475, 476, 477, 478, 597, 598, 599, 600, 601, 602, 603, 604, 605, 606, 497, 607, 608, 609, 610, 458, 611, 612, 461, 613, 614, 615, 386, 616, 617, 618, 619, 451, 452, 453, 620, 586, 587, 588, 447, 466, 467, 621, 622, 10, 623, 624, 625, 626, 627, 16, 628, 629, 630, 22, 631, 632, 633, 100, 634, 102, 635, 97, 98, 99, 101, 636, 637, 638, 12, 129, 639, 640, 641, 642, 18, 19, 148, 149, 134, 643, 644, 20, 21, 645, 646, 647, 648, 649, 650, 651, 652, 653, 654, 655, 656, 657, 658, 659, 660, 661, 662, 663, 664, 665, 666, 667, 668, 669, 670, 671, 672, 673, 674, 675, 676, 677, 678, 679, 680, 681, 682, 136, 137, 138, 139, 140, 141, 142, 143, 683, 174, 175, 176, 684, 181, 182, 183, 685, 686, 687, 688, 689, 690, 691, 692, 693, 240, 241, 26, 242, 125, 243, 244, 245, 246, 50, 37, 55, 28, 76, 247, 248, 249, 59, 250, 61, 66, 71, 694, 695, 696, 697, 150, 698, 699, 151, 152, 153, 154, 155, 156, 157, 158, 159, 160, 161, 162, 163, 164, 165, 166, 167, 168, 169, 170, 171, 172, 173, 177, 178, 179, 180, 184, 185, 186, 187, 188, 189, 190, 191, 192, 193, 194, 195, 38, 39, 40, 41, 196, 197, 198, 199, 200, 201, 202, 203, 204, 205, 206, 207, 208, 47, 48, 49, 209, 210, 211, 212, 213, 34, 35, 36, 214, 215, 216, 217, 218, 219, 220, 221, 222, 223, 224, 225, 251, 252, 253, 254, 255, 256, 257, 258, 259, 52, 53, 54, 260, 261, 262, 263, 264, 265, 266, 267, 268, 269, 270, 271, 272, 273, 274, 275, 276, 277, 278, 279, 122, 123, 124, 46, 33, 280, 281, 282, 283, 284, 285, 286, 287, 288, 289, 24, 25, 27, 290, 291, 292, 293, 294, 295, 296, 297, 298, 299, 300, 301, 302, 303, 304, 305, 306, 307, 308, 309, 310, 311, 312, 313, 314, 315, 316, 700, 226, 227, 228, 94, 229, 230, 96, 231, 232, 6, 233, 234, 235, 236, 237, 238, 239, 741, 742, 743, 744, 705, 706, 707, 708, 709, 710, 711, 712, 713, 714, 715, 728, 729, 730, 731, 732, 733, 734, 735, 716, 717, 718, 719, 720, 721, 722, 723, 724, 736, 737, 738, 739, 740, 725, 726, 727] (by decide +kernel) (by decide +kernel)) (goodIn_sub (fun _ h => List.mem_cons_of_mem _ (List.mem_append_right _ h)) (by decide +kernel))) (goodIn_sub (fun _ h => List.mem_cons_of_mem _ (List.mem_append_left _ (List.mem_append_left _ (List.mem_append_left _ (List.mem_append_left _ (List.mem_append_right _ h)))))) (by decide +kernel))) (goodIn_sub (fun _ h => List.mem_cons_of_mem _ (List.mem_append_left _ (List.mem_append_left _ (List.mem_append_left _ (List.mem_append_left _ (List.mem_append_left _ (List.mem_append_right _ h))))))) (by decide +kernel))) (goodIn_sub (fun _ h => List.mem_cons_of_mem _ (List.mem_append_left _ (List.mem_append_right _ h))) (by decide +kernel))
set_option maxRecDepth 20000 in
theorem gL_changes_L_reads : GoodIn wsL_changes (va_wsS RL 290 yL_reads wsL_reads) := goodIn_app (goodIn_of _ (by decide +kernel)) ggL_changes_L_reads
theorem dL_changes_0 : decode cL_changes 0 = .ok (.aload_n 0, 1) := by decide +kernel
theorem dL_changes_1 : decode cL_changes 1 = .ok (.iconst 0, 1) := by decide +kernel
theorem dL_changes_2 : decode cL_changes 2 = .ok (.invokestatic 205, 3) := by decide +kernel
theorem dL_changes_5 : decode cL_changes 5 = .ok (.istore_n 2, 1) := by decide +kernel
theorem dL_changes_6 : decode cL_changes 6 = .ok (.iload_n 2, 1) := by decide +kernel
theorem dL_changes_7 : decode cL_changes 7 = .ok (.ifCond .eq 11, 3) := by decide +kernel
theorem dL_changes_10 : decode cL_changes 10 = .ok (.iload_n 1, 1) := by decide +kernel
theorem dL_changes_11 : decode cL_changes 11 = .ok (.iconst 5, 1) := by decide +kernel
theorem dL_changes_12 : decode cL_changes 12 = .ok (.ishr, 1) := by decide +kernel
theorem dL_changes_13 : decode cL_changes 13 = .ok (.iconst 3, 1) := by decide +kernel
theorem dL_changes_14 : decode cL_changes 14 = .ok (.iand, 1) := by decide +kernel
theorem dL_changes_15 : decode cL_changes 15 = .ok (.ifCond .ne 18, 3) := by decide +kernel
theorem dL_changes_18 : decode cL_changes 18 = .ok (.iload_n 1, 1) := by decide +kernel
theorem dL_changes_19 : decode cL_changes 19 = .ok (.bipush 6, 2) := by decide +kernel
theorem dL_changes_21 : decode cL_changes 21 = .ok (.ishr, 1) := by decide +kernel
theorem dL_changes_22 : decode cL_changes 22 = .ok (.sipush 1002, 3) := by decide +kernel
theorem dL_changes_25 : decode cL_changes 25 = .ok (.invokestatic 174, 3) := by decide +kernel
theorem dL_changes_28 : decode cL_changes 28 = .ok (.iconst 1, 1) := by decide +kernel
theorem dL_changes_29 : decode cL_changes 29 = .ok (.isub, 1) := by decide +kernel
theorem dL_changes_30 : decode cL_changes 30 = .ok (.goto 15, 3) := by decide +kernel
theorem dL_changes_33 : decode cL_changes 33 = .ok (.aload_n 0, 1) := by decide +kernel
theorem dL_changes_34 : decode cL_changes 34 = .ok (.iload_n 1, 1) := by decide +kernel
theorem dL_changes_35 : decode cL_changes 35 = .ok (.bipush 6, 2) := by decide +kernel
theorem dL_changes_37 : decode cL_changes 37 = .ok (.ishr, 1) := by decide +kernel
theorem dL_changes_38 : decode cL_changes 38 = .ok (.iload_n 2, 1) := by decide +kernel
theorem dL_changes_39 : decode cL_changes 39 = .ok (.invokestatic 174, 3) := by decide +kernel
theorem dL_changes_42 : decode cL_changes 42 = .ok (.invokestatic 207, 3) := by decide +kernel
theorem dL_changes_45 : decode cL_changes 45 = .ok (.istore_n 3, 1) := by decide +kernel
theorem dL_changes_46 : decode cL_changes 46 = .ok (.iload_n 1, 1) := by decide +kernel
theorem dL_changes_47 : decode cL_changes 47 = .ok (.bipush 18, 2) := by decide +kernel
theorem dL_changes_49 : decode cL_changes 49 = .ok (.invokestatic 174, 3) := by decide +kernel
theorem dL_changes_52 : decode cL_changes 52 = .ok (.tableswitch 273 0 14 #[76, 76, 76, 111, 111, 151, 165, 165, 179, 193, 193, 214, 214, 235, 260], 76) := by decide +kernel
theorem dL_changes_128 : decode cL_changes 128 = .ok (.aload_n 0, 1) := by decide +kernel
theorem dL_changes_129 : decode cL_changes 129 = .ok (.iload_n 1, 1) := by decide +kernel
theorem dL_changes_130 : decode cL_changes 130 = .ok (.iconst 4, 1) := by decide +kernel
theorem dL_changes_131 : decode cL_changes 131 = .ok (.ishr, 1) := by decide +kernel
theorem dL_changes_132 : decode cL_changes 132 = .ok (.sipush 1002, 3) := by decide +kernel
theorem dL_changes_135 : decode cL_changes 135 = .ok (.invokestatic 174, 3) := by decide +kernel
theorem dL_changes_138 : decode cL_changes 138 = .ok (.iconst 1, 1) := by decide +kernel
theorem dL_changes_139 : decode cL_changes 139 = .ok (.isub, 1) := by decide +kernel
theorem dL_changes_140 : decode cL_changes 140 = .ok (.iload_n 1, 1) := by decide +kernel
theorem dL_changes_141 : decode cL_changes 141 = .ok (.bipush 8, 2) := by decide +kernel
theorem dL_changes_143 : decode cL_changes 143 = .ok (.ishr, 1) := by decide +kernel
theorem dL_changes_144 : decode cL_changes 144 = .ok (.bipush 102, 2) := by decide +kernel
theorem dL_changes_146 : decode cL_changes 146 = .ok (.invokestatic 174, 3) := by decide +kernel
theorem dL_changes_149 : decode cL_changes 149 = .ok (.iconst 1, 1) := by decide +kernel
theorem dL_changes_150 : decode cL_changes 150 = .ok (.isub, 1) := by decide +kernel
theorem dL_changes_151 : decode cL_changes 151 = .ok (.invokestatic 180, 3) := by decide +kernel
theorem dL_changes_154 : decode cL_changes 154 = .ok (.ifCond .lt 7, 3) := by decide +kernel
theorem dL_changes_157 : decode cL_changes 157 = .ok (.iconst 1, 1) := by decide +kernel
theorem dL_changes_158 : decode cL_changes 158 = .ok (.goto 4, 3) := by decide +kernel
theorem dL_changes_161 : decode cL_changes 161 = .ok (.iconst 0, 1) := by decide +kernel
theorem dL_changes_162 : decode cL_changes 162 = .ok (.ireturn, 1) := by decide +kernel
theorem dL_changes_163 : decode cL_changes 163 = .ok (.aload_n 0, 1) := by decide +kernel
theorem dL_changes_164 : decode cL_changes 164 = .ok (.iload_n 1, 1) := by decide +kernel
theorem dL_changes_165 : decode cL_changes 165 = .ok (.iconst 4, 1) := by decide +kernel
theorem dL_changes_166 : decode cL_changes 166 = .ok (.ishr, 1) := by decide +kernel
theorem dL_changes_167 : decode cL_changes 167 = .ok (.sipush 1000, 3) := by decide +kernel
theorem dL_changes_170 : decode cL_changes 170 = .ok (.invokestatic 174, 3) := by decide +kernel
theorem dL_changes_173 : decode cL_changes 173 = .ok (.iload_n 1, 1) := by decide +kernel
theorem dL_changes_174 : decode cL_changes 174 = .ok (.bipush 8, 2) := by decide +kernel
theorem dL_changes_176 : decode cL_changes 176 = .ok (.ishr, 1) := by decide +kernel
theorem dL_changes_177 : decode cL_changes 177 = .ok (.bipush 100, 2) := by decide +kernel
theorem dL_changes_179 : decode cL_changes 179 = .ok (.invokestatic 174, 3) := by decide +kernel
theorem dL_changes_182 : decode cL_changes 182 = .ok (.iload_n 1, 1) := by decide +kernel
theorem dL_changes_183 : decode cL_changes 183 = .ok (.bipush 9, 2) := by decide +kernel
theorem dL_changes_185 : decode cL_changes 185 = .ok (.ishr, 1) := by decide +kernel
theorem dL_changes_186 : decode cL_changes 186 = .ok (.bipush 7, 2) := by decide +kernel
theorem dL_changes_188 : decode cL_changes 188 = .ok (.invokestatic 174, 3) := by decide +kernel
theorem dL_changes_191 : decode cL_changes 191 = .ok (.invokestatic 177, 3) := by decide +kernel
theorem dL_changes_194 : decode cL_changes 194 = .ok (.ifCond .lt 7, 3) := by decide +kernel
theorem dL_changes_197 : decode cL_changes 197 = .ok (.iconst 1, 1) := by decide +kernel
theorem dL_changes_198 : decode cL_changes 198 = .ok (.goto 4, 3) := by decide +kernel
theorem dL_changes_201 : decode cL_changes 201 = .ok (.iconst 0, 1) := by decide +kernel
theorem dL_changes_202 : decode cL_changes 202 = .ok (.ireturn, 1) := by decide +kernel
theorem dL_changes_203 : decode cL_changes 203 = .ok (.aload_n 0, 1) := by decide +kernel
theorem dL_changes_204 : decode cL_changes 204 = .ok (.iload_n 3, 1) := by decide +kernel
theorem dL_changes_205 : decode cL_changes 205 = .ok (.invokestatic 249, 3) := by decide +kernel
theorem dL_changes_208 : decode cL_changes 208 = .ok (.ifCond .lt 7, 3) := by decide +kernel
theorem dL_changes_211 : decode cL_changes 211 = .ok (.iconst 1, 1) := by decide +kernel
theorem dL_changes_212 : decode cL_changes 212 = .ok (.goto 4, 3) := by decide +kernel
theorem dL_changes_215 : decode cL_changes 215 = .ok (.iconst 0, 1) := by decide +kernel
theorem dL_changes_216 : decode cL_changes 216 = .ok (.ireturn, 1) := by decide +kernel
theorem dL_changes_217 : decode cL_changes 217 = .ok (.aload_n 0, 1) := by decide +kernel
theorem dL_changes_218 : decode cL_changes 218 = .ok (.iload_n 3, 1) := by decide +kernel
theorem dL_changes_219 : decode cL_changes 219 = .ok (.invokestatic 251, 3) := by decide +kernel
theorem dL_changes_222 : decode cL_changes 222 = .ok (.ifCond .lt 7, 3) := by decide +kernel
theorem dL_changes_225 : decode cL_changes 225 = .ok (.iconst 1, 1) := by decide +kernel
theorem dL_changes_226 : decode cL_changes 226 = .ok (.goto 4, 3) := by decide +kernel
theorem dL_changes_229 : decode cL_changes 229 = .ok (.iconst 0, 1) := by decide +kernel
theorem dL_changes_230 : decode cL_changes 230 = .ok (.ireturn, 1) := by decide +kernel
theorem dL_changes_231 : decode cL_changes 231 = .ok (.aload_n 0, 1) := by decide +kernel
theorem dL_changes_232 : decode cL_changes 232 = .ok (.iload_n 3, 1) := by decide +kernel
theorem dL_changes_233 : decode cL_changes 233 = .ok (.invokestatic 253, 3) := by decide +kernel
theorem dL_changes_236 : decode cL_changes 236 = .ok (.ifCond .lt 7, 3) := by decide +kernel
theorem dL_changes_239 : decode cL_changes 239 = .ok (.iconst 1, 1) := by decide +kernel
theorem dL_changes_240 : decode cL_changes 240 = .ok (.goto 4, 3) := by decide +kernel
theorem dL_changes_243 : decode cL_changes 243 = .ok (.iconst 0, 1) := by decide +kernel
theorem dL_changes_244 : decode cL_changes 244 = .ok (.ireturn, 1) := by decide +kernel
theorem dL_changes_245 : decode cL_changes 245 = .ok (.aload_n 0, 1) := by decide +kernel
theorem dL_changes_246 : decode cL_changes 246 = .ok (.iload_n 1, 1) := by decide +kernel
theorem dL_changes_247 : decode cL_changes 247 = .ok (.iconst 4, 1) := by decide +kernel
theorem dL_changes_248 : decode cL_changes 248 = .ok (.ishr, 1) := by decide +kernel
theorem dL_changes_249 : decode cL_changes 249 = .ok (.bipush 6, 2) := by decide +kernel
theorem dL_changes_251 : decode cL_changes 251 = .ok (.invokestatic 174, 3) := by decide +kernel
theorem dL_changes_254 : decode cL_changes 254 = .ok (.invokestatic 183, 3) := by decide +kernel
theorem dL_changes_257 : decode cL_changes 257 = .ok (.ifCond .lt 7, 3) := by decide +kernel
theorem dL_changes_260 : decode cL_changes 260 = .ok (.iconst 1, 1) := by decide +kernel
theorem dL_changes_261 : decode cL_changes 261 = .ok (.goto 4, 3) := by decide +kernel
theorem dL_changes_264 : decode cL_changes 264 = .ok (.iconst 0, 1) := by decide +kernel
theorem dL_changes_265 : decode cL_changes 265 = .ok (.ireturn, 1) := by decide +kernel
theorem dL_changes_266 : decode cL_changes 266 = .ok (.aload_n 0, 1) := by decide +kernel
theorem dL_changes_267 : decode cL_changes 267 = .ok (.iload_n 1, 1) := by decide +kernel
theorem dL_changes_268 : decode cL_changes 268 = .ok (.iconst 4, 1) := by decide +kernel
theorem dL_changes_269 : decode cL_changes 269 = .ok (.ishr, 1) := by decide +kernel
theorem dL_changes_270 : decode cL_changes 270 = .ok (.bipush 6, 2) := by decide +kernel
theorem dL_changes_272 : decode cL_changes 272 = .ok (.invokestatic 174, 3) := by decide +kernel
theorem dL_changes_275 : decode cL_changes 275 = .ok (.invokestatic 255, 3) := by decide +kernel
theorem dL_changes_278 : decode cL_changes 278 = .ok (.ifCond .lt 7, 3) := by decide +kernel
theorem dL_changes_281 : decode cL_changes 281 = .ok (.iconst 1, 1) := by decide +kernel
theorem dL_changes_282 : decode cL_changes 282 = .ok (.goto 4, 3) := by decide +kernel
theorem dL_changes_285 : decode cL_changes 285 = .ok (.iconst 0, 1) := by decide +kernel
theorem dL_changes_286 : decode cL_changes 286 = .ok (.ireturn, 1) := by decide +kernel
theorem dL_changes_287 : decode cL_changes 287 = .ok (.aload_n 0, 1) := by decide +kernel
theorem dL_changes_288 : decode cL_changes 288 = .ok (.iload_n 3, 1) := by decide +kernel
theorem dL_changes_289 : decode cL_changes 289 = .ok (.iload_n 1, 1) := by decide +kernel
theorem dL_changes_290 : decode cL_changes 290 = .ok (.bipush 8, 2) := by decide +kernel
theorem dL_changes_292 : decode cL_changes 292 = .ok (.ishr, 1) := by decide +kernel
theorem dL_changes_293 : decode cL_changes 293 = .ok (.bipush 102, 2) := by decide +kernel
theorem dL_changes_295 : decode cL_changes 295 = .ok (.invokestatic 174, 3) := by decide +kernel
theorem dL_changes_298 : decode cL_changes 298 = .ok (.iconst 1, 1) := by decide +kernel
theorem dL_changes_299 : decode cL_changes 299 = .ok (.isub, 1) := by decide +kernel
theorem dL_changes_300 : decode cL_changes 300 = .ok (.invokestatic 257, 3) := by decide +kernel
theorem dL_changes_303 : decode cL_changes 303 = .ok (.ifCond .lt 7, 3) := by decide +kernel
theorem dL_changes_306 : decode cL_changes 306 = .ok (.iconst 1, 1) := by decide +kernel
theorem dL_changes_307 : decode cL_changes 307 = .ok (.goto 4, 3) := by decide +kernel
theorem dL_changes_310 : decode cL_changes 310 = .ok (.iconst 0, 1) := by decide +kernel
theorem dL_changes_311 : decode cL_changes 311 = .ok (.ireturn, 1) := by decide +kernel
theorem dL_changes_312 : decode cL_changes 312 = .ok (.aload_n 0, 1) := by decide +kernel
theorem dL_changes_313 : decode cL_changes 313 = .ok (.invokevirtual 259, 3) := by decide +kernel
theorem dL_changes_316 : decode cL_changes 316 = .ok (.ifCond .lt 7, 3) := by decide +kernel
theorem dL_changes_319 : decode cL_changes 319 = .ok (.iconst 1, 1) := by decide +kernel
theorem dL_changes_320 : decode cL_changes 320 = .ok (.goto 4, 3) := by decide +kernel
theorem dL_changes_323 : decode cL_changes 323 = .ok (.iconst 0, 1) := by decide +kernel
theorem dL_changes_324 : decode cL_changes 324 = .ok (.ireturn, 1) := by decide +kernel
theorem dL_changes_325 : decode cL_changes 325 = .ok (.aload_n 0, 1) := by decide +kernel
theorem dL_changes_326 : decode cL_changes 326 = .ok (.iload_n 1, 1) := by decide +kernel
theorem dL_changes_327 : decode cL_changes 327 = .ok (.bipush 6, 2) := by decide +kernel
theorem dL_changes_329 : decode cL_changes 329 = .ok (.ishr, 1) := by decide +kernel
theorem dL_changes_330 : decode cL_changes 330 = .ok (.iconst 1, 1) := by decide +kernel
theorem dL_changes_331 : decode cL_changes 331 = .ok (.iand, 1) := by decide +kernel
theorem dL_changes_332 : decode cL_changes 332 = .ok (.ifCond .ne 58, 3) := by decide +kernel
theorem dL_changes_335 : decode cL_changes 335 = .ok (.new 262, 3) := by decide +kernel
theorem dL_changes_338 : decode cL_changes 338 = .ok (.dup, 1) := by decide +kernel
theorem dL_changes_339 : decode cL_changes 339 = .ok (.invokespecial 264, 3) := by decide +kernel
theorem dL_changes_342 : decode cL_changes 342 = .ok (.ldc_w 265, 3) := by decide +kernel
theorem dL_changes_345 : decode cL_changes 345 = .ok (.invokevirtual 267, 3) := by decide +kernel
theorem dL_changes_348 : decode cL_changes 348 = .ok (.iload_n 1, 1) := by decide +kernel
theorem dL_changes_349 : decode cL_changes 349 = .ok (.iconst 4, 1) := by decide +kernel
theorem dL_changes_350 : decode cL_changes 350 = .ok (.ishr, 1) := by decide +kernel
theorem dL_changes_351 : decode cL_changes 351 = .ok (.sipush 1000, 3) := by decide +kernel
theorem dL_changes_354 : decode cL_changes 354 = .ok (.invokestatic 174, 3) := by decide +kernel
theorem dL_changes_357 : decode cL_changes 357 = .ok (.invokevirtual 270, 3) := by decide +kernel
theorem dL_changes_360 : decode cL_changes 360 = .ok (.ldc_w 273, 3) := by decide +kernel
theorem dL_changes_363 : decode cL_changes 363 = .ok (.invokevirtual 267, 3) := by decide +kernel
theorem dL_changes_366 : decode cL_changes 366 = .ok (.iload_n 1, 1) := by decide +kernel
theorem dL_changes_367 : decode cL_changes 367 = .ok (.bipush 8, 2) := by decide +kernel
theorem dL_changes_369 : decode cL_changes 369 = .ok (.ishr, 1) := by decide +kernel
theorem dL_changes_370 : decode cL_changes 370 = .ok (.bipush 100, 2) := by decide +kernel
theorem dL_changes_372 : decode cL_changes 372 = .ok (.invokestatic 174, 3) := by decide +kernel
theorem dL_changes_375 : decode cL_changes 375 = .ok (.invokevirtual 270, 3) := by decide +kernel
theorem dL_changes_378 : decode cL_changes 378 = .ok (.ldc_w 275, 3) := by decide +kernel
theorem dL_changes_381 : decode cL_changes 381 = .ok (.invokevirtual 267, 3) := by decide +kernel
theorem dL_changes_384 : decode cL_changes 384 = .ok (.invokevirtual 277, 3) := by decide +kernel
theorem dL_changes_387 : decode cL_changes 387 = .ok (.goto 52, 3) := by decide +kernel
theorem dL_changes_390 : decode cL_changes 390 = .ok (.new 262, 3) := by decide +kernel
theorem dL_changes_393 : decode cL_changes 393 = .ok (.dup, 1) := by decide +kernel
theorem dL_changes_394 : decode cL_changes 394 = .ok (.invokespecial 264, 3) := by decide +kernel
theorem dL_changes_397 : decode cL_changes 397 = .ok (.ldc_w 281, 3) := by decide +kernel
theorem dL_changes_400 : decode cL_changes 400 = .ok (.invokevirtual 267, 3) := by decide +kernel
theorem dL_changes_403 : decode cL_changes 403 = .ok (.iload_n 1, 1) := by decide +kernel
theorem dL_changes_404 : decode cL_changes 404 = .ok (.iconst 4, 1) := by decide +kernel
theorem dL_changes_405 : decode cL_changes 405 = .ok (.ishr, 1) := by decide +kernel
theorem dL_changes_406 : decode cL_changes 406 = .ok (.iconst 5, 1) := by decide +kernel
theorem dL_changes_407 : decode cL_changes 407 = .ok (.invokestatic 174, 3) := by decide +kernel
theorem dL_changes_410 : decode cL_changes 410 = .ok (.invokevirtual 270, 3) := by decide +kernel
theorem dL_changes_413 : decode cL_changes 413 = .ok (.ldc_w 283, 3) := by decide +kernel
theorem dL_changes_416 : decode cL_changes 416 = .ok (.invokevirtual 267, 3) := by decide +kernel
theorem dL_changes_419 : decode cL_changes 419 = .ok (.iload_n 3, 1) := by decide +kernel
theorem dL_changes_420 : decode cL_changes 420 = .ok (.invokestatic 285, 3) := by decide +kernel
theorem dL_changes_423 : decode cL_changes 423 = .ok (.sipush 1000, 3) := by decide +kernel
theorem dL_changes_426 : decode cL_changes 426 = .ok (.irem, 1) := by decide +kernel
theorem dL_changes_427 : decode cL_changes 427 = .ok (.invokevirtual 270, 3) := by decide +kernel
theorem dL_changes_430 : decode cL_changes 430 = .ok (.ldc_w 275, 3) := by decide +kernel
theorem dL_changes_433 : decode cL_changes 433 = .ok (.invokevirtual 267, 3) := by decide +kernel
theorem dL_changes_436 : decode cL_changes 436 = .ok (.invokevirtual 277, 3) := by decide +kernel
theorem dL_changes_439 : decode cL_changes 439 = .ok (.invokestatic 290, 3) := by decide +kernel
theorem dL_changes_442 : decode cL_changes 442 = .ok (.ifCond .lt 7, 3) := by decide +kernel
theorem dL_changes_445 : decode cL_changes 445 = .ok (.iconst 1, 1) := by decide +kernel
theorem dL_changes_446 : decode cL_changes 446 = .ok (.goto 4, 3) := by decide +kernel
theorem dL_changes_449 : decode cL_changes 449 = .ok (.iconst 0, 1) := by decide +kernel
theorem dL_changes_450 : decode cL_changes 450 = .ok (.ireturn, 1) := by decide +kernel
