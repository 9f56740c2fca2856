set_option maxRecDepth 20000 in
theorem ggL_asks_L_meanSteps : GoodIn wsL_asks wsL_meanSteps := goodIn_ca (goodIn_ca (goodIn_r _ [5, 6, 7, 8, 9, 10, 11, 12, 13, 14, 15, 16, 17, 18, 19, 20, 21, 22, 23, 24, 25, 26, 27, 28, 29, 30, 31, 32, 33, 34, 35, 36, 37, 38, 39, 40, 41, 42, 43, 44, 45, 46, 47, 48, 49, 50, 51, 52, 53, 54, 55, 56, 57, 58, 59, 60, 61, 62, 63, 64, 65, 66, 67, 68, 69, 70, 71, 72, 73, 74, 75, 76, 77, 78, 79, 80, 81, 82, 83, 84, 85, 86, 87, 88, 89, 625, 626, 627, 628, 629, 630, 631, 632, 633, 634, 635, 636, 637, 638, 639, 640, 641, 642, 643, 644, 645, 646, 647] (by decide +kernel) (by decide +kernel)) (goodIn_sub (fun _ h => List.mem_cons_of_mem _ (List.mem_append_left _ (List.mem_append_left _ (List.mem_append_left _ (List.mem_append_left _ (List.mem_append_right _ h)))))) (by decide +kernel))) (goodIn_sub (fun _ h => List.mem_cons_of_mem _ (List.mem_append_left _ (List.mem_append_left _ (List.mem_append_left _ (List.mem_append_right _ h))))) (by decide +kernel))
set_option maxRecDepth 20000 in
theorem gL_asks_L_meanSteps : GoodIn wsL_asks (va_wsS RL 187 yL_meanSteps wsL_meanSteps) := goodIn_app (goodIn_of _ (by decide +kernel)) ggL_asks_L_meanSteps
set_option maxRecDepth 20000 in
theorem ggL_asks_Jxe99ae_doubleToLongBits_ccdee : GoodIn wsL_asks wsJxe99ae_doubleToLongBits_ccdee := goodIn_r _ [93, 94, 95, 96, 97, 98, 99, 100, 92, 101] (by decide +kernel) (by decide +kernel)
set_option maxRecDepth 20000 in
theorem gL_asks_Jxe99ae_doubleToLongBits_ccdee : GoodIn wsL_asks (va_wsS RL 190 yJxe99ae_doubleToLongBits_ccdee wsJxe99ae_doubleToLongBits_ccdee) := goodIn_app (goodIn_of _ (by decide +kernel)) ggL_asks_Jxe99ae_doubleToLongBits_ccdee
set_option maxRecDepth 20000 in
theorem ggL_asks_L_meanRungs : GoodIn wsL_asks wsL_meanRungs := goodIn_ca (goodIn_ca (goodIn_r _ [104, 6, 105, 106, 107, 108, 11, 109, 13, 14, 15, 17, 18, 19, 20, 21, 22, 110, 111, 112, 113, 59, 60, 61, 62, 63, 28, 29, 30, 31, 625, 626, 627, 628, 629, 630, 631, 632, 633, 634, 635, 636, 637, 638, 639, 640, 641] (by decide +kernel) (by decide +kernel)) (goodIn_sub (fun _ h => List.mem_cons_of_mem _ (List.mem_append_left _ (List.mem_append_left _ (List.mem_append_left _ (List.mem_append_left _ (List.mem_append_right _ h)))))) (by decide +kernel))) (goodIn_sub (fun _ h => List.mem_cons_of_mem _ (List.mem_append_left _ (List.mem_append_left _ (List.mem_append_left _ (List.mem_append_right _ h))))) (by decide +kernel))
set_option maxRecDepth 20000 in
theorem gL_asks_L_meanRungs : GoodIn wsL_asks (va_wsS RL 196 yL_meanRungs wsL_meanRungs) := goodIn_app (goodIn_of _ (by decide +kernel)) ggL_asks_L_meanRungs
set_option maxRecDepth 20000 in
theorem ggL_asks_Jxf58ca_floatToIntBits_5c35a : GoodIn wsL_asks wsJxf58ca_floatToIntBits_5c35a := goodIn_r _ [117, 118, 119, 120, 121, 122, 123, 124, 116, 125] (by decide +kernel) (by decide +kernel)
set_option maxRecDepth 20000 in
theorem gL_asks_Jxf58ca_floatToIntBits_5c35a : GoodIn wsL_asks (va_wsS RL 199 yJxf58ca_floatToIntBits_5c35a wsJxf58ca_floatToIntBits_5c35a) := goodIn_app (goodIn_of _ (by decide +kernel)) ggL_asks_Jxf58ca_floatToIntBits_5c35a
set_option maxRecDepth 20000 in
theorem ggL_asks_L_account : GoodIn wsL_asks wsL_account := goodIn_ca (goodIn_ca (goodIn_r _ [128, 129, 130, 131, 132, 11, 133, 134, 135, 15, 136, 137, 17, 18, 19, 20, 21, 22, 110, 111, 112, 113, 59, 60, 61, 62, 63, 28, 29, 30, 31, 138, 139, 140, 141, 142, 143, 144, 145, 146, 147, 148, 149, 150, 151, 152, 153, 154, 155, 156, 157, 158, 159, 160, 161, 162, 163, 164, 165, 166, 167, 168, 169, 170, 171, 72, 172, 173, 174, 175, 176, 177, 178, 179, 52, 53, 54, 55, 56, 57, 58, 180, 181, 182, 183, 184, 185, 186, 187, 188, 189, 190, 191, 625, 626, 627, 628, 629, 630, 631, 632, 633, 634, 635, 636, 637, 638, 639, 640, 641, 648, 649, 650, 651, 652, 653, 654, 655, 656, 657] (by decide +kernel) (by decide +kernel)) (goodIn_sub (fun _ h => List.mem_cons_of_mem _ (List.mem_append_left _ (List.mem_append_left _ (List.mem_append_right _ h)))) (by decide +kernel))) (goodIn_sub (fun _ h => List.mem_cons_of_mem _ (List.mem_append_left _ (List.mem_append_left _ (List.mem_append_left _ (List.mem_append_right _ h))))) (by decide +kernel))
set_option maxRecDepth 20000 in
theorem gL_asks_L_account : GoodIn wsL_asks (va_wsS RL 205 yL_account wsL_account) := goodIn_app (goodIn_of _ (by decide +kernel)) ggL_asks_L_account
set_option maxRecDepth 20000 in
theorem ggL_asks_L_keyAt : GoodIn wsL_asks wsL_keyAt := goodIn_ca (goodIn_ca (goodIn_r _ [194, 195, 196, 197, 198, 11, 199, 200, 201, 202, 203, 204, 205, 15, 206, 29, 30, 20, 31, 22, 23, 24, 25, 26, 27, 28, 625, 626, 627, 628, 629, 630, 631, 632, 633, 634, 635, 636, 637, 638, 639, 640, 641] (by decide +kernel) (by decide +kernel)) (goodIn_sub (fun _ h => List.mem_cons_of_mem _ (List.mem_append_left _ (List.mem_append_right _ h))) (by decide +kernel))) (goodIn_sub (fun _ h => List.mem_cons_of_mem _ (List.mem_append_left _ (List.mem_append_left _ (List.mem_append_left _ (List.mem_append_right _ h))))) (by decide +kernel))
set_option maxRecDepth 20000 in
theorem gL_asks_L_keyAt : GoodIn wsL_asks (va_wsS RL 207 yL_keyAt wsL_keyAt) := goodIn_app (goodIn_of _ (by decide +kernel)) ggL_asks_L_keyAt
set_option maxRecDepth 20000 in
theorem ggL_asks_L_folderOf : GoodIn wsL_asks wsL_folderOf := goodIn_ca (goodIn_ca (goodIn_ca (goodIn_r _ [209, 129, 195, 210, 211, 212, 11, 213, 134, 135, 15, 16, 214, 215, 216, 217, 218, 219, 220, 204, 205, 221, 222, 223, 20, 224, 27, 225, 226, 227, 228, 22, 28, 29, 30, 31, 229, 143, 144, 145, 146, 230, 60, 61, 62, 63, 32, 33, 34, 35, 36, 37, 38, 39, 40, 41, 42, 43, 44, 45, 46, 47, 48, 49, 50, 51, 52, 53, 54, 55, 56, 57, 58, 59, 64, 65, 66, 67, 68, 69, 70, 71, 72, 73, 74, 75, 76, 77, 78, 79, 80, 81, 82, 83, 84, 85, 86, 87, 88, 89, 625, 626, 627, 628, 629, 630, 631, 632, 633, 634, 635, 636, 637, 638, 639, 640, 641, 642, 643, 644, 645, 646, 647] (by decide +kernel) (by decide +kernel)) (goodIn_sub (fun _ h => List.mem_cons_of_mem _ (List.mem_append_left _ (List.mem_append_left _ (List.mem_append_right _ h)))) (by decide +kernel))) (goodIn_sub (fun _ h => List.mem_cons_of_mem _ (List.mem_append_left _ (List.mem_append_right _ h))) (by decide +kernel))) (goodIn_sub (fun _ h => List.mem_cons_of_mem _ (List.mem_append_left _ (List.mem_append_left _ (List.mem_append_left _ (List.mem_append_right _ h))))) (by decide +kernel))
set_option maxRecDepth 20000 in
theorem gL_asks_L_folderOf : GoodIn wsL_asks (va_wsS RL 209 yL_folderOf wsL_folderOf) := goodIn_app (goodIn_of _ (by decide +kernel)) ggL_asks_L_folderOf
set_option maxRecDepth 20000 in
theorem ggL_asks_L_stepsAgain : GoodIn wsL_asks wsL_stepsAgain := goodIn_ca (goodIn_ca (goodIn_r _ [233, 129, 234, 235, 236, 11, 237, 16, 214, 215, 216, 134, 135, 238, 239, 240, 35, 241, 44, 47, 48, 49, 20, 50, 51, 52, 53, 54, 22, 55, 56, 57, 58, 59, 60, 61, 62, 63, 28, 29, 30, 31, 64, 65, 66, 67, 68, 69, 70, 71, 72, 242, 226, 227, 228, 27, 243, 244, 245, 246, 247, 82, 83, 84, 248, 249, 250, 251, 81, 625, 626, 627, 628, 629, 630, 631, 632, 633, 634, 635, 642, 643, 644, 645, 646, 647, 636, 637, 638, 639, 640, 641] (by decide +kernel) (by decide +kernel)) (goodIn_sub (fun _ h => List.mem_cons_of_mem _ (List.mem_append_left _ (List.mem_append_left _ (List.mem_append_right _ h)))) (by decide +kernel))) (goodIn_sub (fun _ h => List.mem_cons_of_mem _ (List.mem_append_left _ (List.mem_append_left _ (List.mem_append_left _ (List.mem_append_right _ h))))) (by decide +kernel))
set_option maxRecDepth 20000 in
theorem gL_asks_L_stepsAgain : GoodIn wsL_asks (va_wsS RL 211 yL_stepsAgain wsL_stepsAgain) := goodIn_app (goodIn_of _ (by decide +kernel)) ggL_asks_L_stepsAgain
set_option maxRecDepth 20000 in
theorem ggL_asks_L_falls : GoodIn wsL_asks wsL_falls := goodIn_ca (goodIn_ca (goodIn_r _ [254, 129, 255, 256, 257, 11, 258, 16, 214, 215, 216, 134, 135, 259, 260, 261, 35, 262, 38, 39, 40, 41, 42, 43, 44, 45, 37, 46, 47, 48, 49, 20, 50, 51, 52, 53, 54, 22, 55, 56, 57, 58, 59, 60, 61, 62, 63, 28, 29, 30, 31, 64, 65, 66, 67, 68, 69, 70, 71, 72, 73, 74, 75, 76, 77, 78, 79, 80, 81, 82, 83, 84, 85, 86, 87, 88, 27, 89, 625, 626, 627, 628, 629, 630, 631, 632, 633, 634, 635, 642, 643, 644, 645, 646, 647, 636, 637, 638, 639, 640, 641] (by decide +kernel) (by decide +kernel)) (goodIn_sub (fun _ h => List.mem_cons_of_mem _ (List.mem_append_left _ (List.mem_append_left _ (List.mem_append_right _ h)))) (by decide +kernel))) (goodIn_sub (fun _ h => List.mem_cons_of_mem _ (List.mem_append_left _ (List.mem_append_left _ (List.mem_append_left _ (List.mem_append_right _ h))))) (by decide +kernel))
set_option maxRecDepth 20000 in
theorem gL_asks_L_falls : GoodIn wsL_asks (va_wsS RL 213 yL_falls wsL_falls) := goodIn_app (goodIn_of _ (by decide +kernel)) ggL_asks_L_falls
set_option maxRecDepth 20000 in
theorem ggL_asks_L_placeOf : GoodIn wsL_asks wsL_placeOf := goodIn_ca (goodIn_ca (goodIn_ca (goodIn_r _ [265, 129, 195, 266, 267, 268, 11, 269, 204, 205, 16, 15, 214, 215, 216, 134, 135, 270, 40, 41, 35, 42, 43, 44, 45, 37, 38, 46, 47, 48, 49, 20, 50, 51, 52, 53, 54, 22, 55, 56, 57, 58, 59, 60, 61, 62, 63, 28, 29, 30, 31, 64, 65, 66, 67, 68, 69, 70, 71, 72, 73, 74, 75, 76, 77, 78, 79, 80, 81, 82, 83, 84, 85, 86, 87, 88, 27, 89, 271, 272, 273, 274, 23, 24, 25, 26, 625, 626, 627, 628, 629, 630, 631, 632, 633, 634, 635, 642, 643, 644, 645, 646, 647, 636, 637, 638, 639, 640, 641] (by decide +kernel) (by decide +kernel)) (goodIn_sub (fun _ h => List.mem_cons_of_mem _ (List.mem_append_left _ (List.mem_append_right _ h))) (by decide +kernel))) (goodIn_sub (fun _ h => List.mem_cons_of_mem _ (List.mem_append_left _ (List.mem_append_left _ (List.mem_append_right _ h)))) (by decide +kernel))) (goodIn_sub (fun _ h => List.mem_cons_of_mem _ (List.mem_append_left _ (List.mem_append_left _ (List.mem_append_left _ (List.mem_append_right _ h))))) (by decide +kernel))
set_option maxRecDepth 20000 in
theorem gL_asks_L_placeOf : GoodIn wsL_asks (va_wsS RL 215 yL_placeOf wsL_placeOf) := goodIn_app (goodIn_of _ (by decide +kernel)) ggL_asks_L_placeOf
set_option maxRecDepth 20000 in
theorem ggL_asks_L_span : GoodIn wsL_asks wsL_span := goodIn_ca (goodIn_ca (goodIn_ca (goodIn_ca (goodIn_r _ [277, 278, 129, 195, 279, 280, 281, 11, 282, 204, 205, 15, 283, 284, 285, 286, 287, 214, 215, 216, 134, 135, 217, 218, 219, 220, 221, 222, 223, 20, 224, 27, 225, 226, 227, 228, 22, 28, 29, 30, 31, 288, 82, 83, 84, 63, 289, 290, 291, 292, 293, 78, 79, 80, 81, 625, 626, 627, 628, 629, 630, 631, 632, 633, 634, 635, 636, 637, 638, 639, 640, 641] (by decide +kernel) (by decide +kernel)) (goodIn_sub (fun _ h => List.mem_cons_of_mem _ (List.mem_append_left _ (List.mem_append_right _ h))) (by decide +kernel))) (goodIn_sub (fun _ h => List.mem_cons_of_mem _ (List.mem_append_right _ h)) (by decide +kernel))) (goodIn_sub (fun _ h => List.mem_cons_of_mem _ (List.mem_append_left _ (List.mem_append_left _ (List.mem_append_right _ h)))) (by decide +kernel))) (goodIn_sub (fun _ h => List.mem_cons_of_mem _ (List.mem_append_left _ (List.mem_append_left _ (List.mem_append_left _ (List.mem_append_right _ h))))) (by decide +kernel))
set_option maxRecDepth 20000 in
theorem gL_asks_L_span : GoodIn wsL_asks (va_wsS RL 217 yL_span wsL_span) := goodIn_app (goodIn_of _ (by decide +kernel)) ggL_asks_L_span
set_option maxRecDepth 20000 in
theorem ggL_asks_L_levelSize : GoodIn wsL_asks wsL_levelSize := goodIn_ca (goodIn_ca (goodIn_r _ [296, 278, 297, 298, 299, 11, 300, 15, 283, 284, 285, 286, 287, 301, 302, 303, 20, 304, 22, 81, 82, 83, 84, 63, 28, 29, 30, 31, 625, 626, 627, 628, 629, 630, 631, 632, 633, 634, 635, 636, 637, 638, 639, 640, 641] (by decide +kernel) (by decide +kernel)) (goodIn_sub (fun _ h => List.mem_cons_of_mem _ (List.mem_append_right _ h)) (by decide +kernel))) (goodIn_sub (fun _ h => List.mem_cons_of_mem _ (List.mem_append_left _ (List.mem_append_left _ (List.mem_append_left _ (List.mem_append_right _ h))))) (by decide +kernel))
set_option maxRecDepth 20000 in
theorem gL_asks_L_levelSize : GoodIn wsL_asks (va_wsS RL 219 yL_levelSize wsL_levelSize) := goodIn_app (goodIn_of _ (by decide +kernel)) ggL_asks_L_levelSize
set_option maxRecDepth 20000 in
theorem ggL_asks_L_headSpan : GoodIn wsL_asks wsL_headSpan := goodIn_ca (goodIn_ca (goodIn_r _ [307, 278, 308, 309, 310, 11, 311, 15, 283, 284, 285, 286, 287, 289, 290, 291, 20, 292, 293, 78, 79, 80, 22, 81, 82, 83, 84, 63, 28, 29, 30, 31, 625, 626, 627, 628, 629, 630, 631, 632, 633, 634, 635, 636, 637, 638, 639, 640, 641] (by decide +kernel) (by decide +kernel)) (goodIn_sub (fun _ h => List.mem_cons_of_mem _ (List.mem_append_right _ h)) (by decide +kernel))) (goodIn_sub (fun _ h => List.mem_cons_of_mem _ (List.mem_append_left _ (List.mem_append_left _ (List.mem_append_left _ (List.mem_append_right _ h))))) (by decide +kernel))
set_option maxRecDepth 20000 in
theorem gL_asks_L_headSpan : GoodIn wsL_asks (va_wsS RL 221 yL_headSpan wsL_headSpan) := goodIn_app (goodIn_of _ (by decide +kernel)) ggL_asks_L_headSpan
set_option maxRecDepth 20000 in
theorem ggL_asks_L_forgotten : GoodIn wsL_asks wsL_forgotten := goodIn_ca (goodIn_r _ [314, 278, 315, 316, 317, 11, 318, 15, 283, 284, 285, 286, 287, 319, 69, 70, 20, 71, 72, 625, 626, 627, 628, 629, 630, 631, 632, 633, 634, 635, 636, 637, 638, 639, 640, 641] (by decide +kernel) (by decide +kernel)) (goodIn_sub (fun _ h => List.mem_cons_of_mem _ (List.mem_append_right _ h)) (by decide +kernel))
set_option maxRecDepth 20000 in
theorem gL_asks_L_forgotten : GoodIn wsL_asks (va_wsS RL 223 yL_forgotten wsL_forgotten) := goodIn_app (goodIn_of _ (by decide +kernel)) ggL_asks_L_forgotten
set_option maxRecDepth 20000 in
theorem ggL_asks_L_line : GoodIn wsL_asks wsL_line := goodIn_ca (goodIn_ca (goodIn_r _ [322, 278, 323, 324, 325, 11, 326, 327, 15, 283, 284, 285, 286, 287, 328, 329, 330, 331, 332, 333, 334, 335, 336, 337, 338, 339, 340, 341, 342, 343, 344, 345, 346, 347, 348, 349, 350, 351, 352, 353, 354, 355, 356, 357, 358, 359, 360, 361, 56, 57, 58, 362, 363, 364, 365, 366, 367, 368, 369, 370, 371, 372, 373, 374, 375, 376, 377, 378, 379, 380, 381, 382, 383, 384, 385, 386, 387, 388, 389, 390, 391, 392, 393, 394, 395, 396, 397, 398, 399, 400, 401, 402, 403, 404, 405, 406, 407, 408, 409, 410, 411, 412, 413, 414, 415, 416, 417, 418, 419, 174, 420, 421, 422, 423, 424, 425, 426, 427, 428, 429, 430, 431, 432, 433, 434, 435, 436, 437, 438, 439, 440, 441, 442, 443, 444, 445, 446, 447, 448, 449, 450, 451, 452, 453, 454, 319, 69, 70, 20, 71, 72, 455, 456, 457, 458, 459, 460, 461, 462, 463, 464, 465, 466, 467, 468, 469, 470, 471, 472, 473, 474, 475, 476, 477, 478, 479, 480, 481, 482, 483, 484, 485, 486, 487, 488, 489, 490, 491, 492, 493, 494, 495, 496, 497, 498, 499, 500, 501, 502, 503, 504, 17, 18, 19, 21, 22, 288, 82, 83, 84, 63, 28, 29, 30, 31, 23, 24, 25, 26, 27, 505, 506, 507, 508, 509, 510, 511, 512, 625, 626, 627, 628, 629, 630, 631, 632, 633, 634, 635, 658, 659, 660, 661, 662, 663, 664, 665, 666, 667, 668, 669, 670, 671, 672, 673, 636, 637, 638, 639, 640, 641] (by decide +kernel) (by decide +kernel)) (goodIn_sub (fun _ h => List.mem_cons_of_mem _ (List.mem_append_right _ h)) (by decide +kernel))) (goodIn_sub (fun _ h => List.mem_cons_of_mem _ (List.mem_append_left _ (List.mem_append_left _ (List.mem_append_left _ (List.mem_append_right _ h))))) (by decide +kernel))
set_option maxRecDepth 20000 in
theorem gL_asks_L_line : GoodIn wsL_asks (va_wsS RL 166 yL_line wsL_line) := goodIn_app (goodIn_of _ (by decide +kernel)) ggL_asks_L_line
set_option maxRecDepth 20000 in
theorem ggL_asks_L_character : GoodIn wsL_asks wsL_character := goodIn_ca (goodIn_r _ [515, 278, 516, 517, 518, 11, 519, 286, 287, 327, 505, 506, 507, 331, 508, 509, 510, 335, 511, 337, 512, 342, 520, 521, 522, 523, 524, 525, 526, 527, 350, 343, 528, 378, 57, 379, 529, 500, 438, 501, 440, 502, 503, 443, 504, 530, 531, 407, 532, 429, 453, 454, 433, 434, 435, 625, 626, 627, 628, 629, 630, 631, 632, 633, 634, 635, 664, 665, 666, 667] (by decide +kernel) (by decide +kernel)) (goodIn_sub (fun _ h => List.mem_cons_of_mem _ (List.mem_append_right _ h)) (by decide +kernel))
set_option maxRecDepth 20000 in
theorem gL_asks_L_character : GoodIn wsL_asks (va_wsS RL 168 yL_character wsL_character) := goodIn_app (goodIn_of _ (by decide +kernel)) ggL_asks_L_character
set_option maxRecDepth 20000 in
theorem ggL_asks_L_rank : GoodIn wsL_asks wsL_rank := goodIn_ca (goodIn_ca (goodIn_r _ [535, 129, 536, 537, 538, 11, 539, 16, 214, 215, 216, 134, 135, 540, 541, 542, 35, 543, 46, 39, 40, 41, 42, 43, 44, 45, 37, 38, 47, 48, 49, 20, 50, 51, 52, 53, 54, 22, 55, 56, 57, 58, 59, 60, 61, 62, 63, 28, 29, 30, 31, 64, 65, 66, 67, 68, 69, 70, 71, 72, 73, 74, 75, 76, 77, 78, 79, 80, 81, 82, 83, 84, 85, 86, 87, 88, 27, 89, 625, 626, 627, 628, 629, 630, 631, 632, 633, 634, 635, 642, 643, 644, 645, 646, 647, 636, 637, 638, 639, 640, 641] (by decide +kernel) (by decide +kernel)) (goodIn_sub (fun _ h => List.mem_cons_of_mem _ (List.mem_append_left _ (List.mem_append_left _ (List.mem_append_right _ h)))) (by decide +kernel))) (goodIn_sub (fun _ h => List.mem_cons_of_mem _ (List.mem_append_left _ (List.mem_append_left _ (List.mem_append_left _ (List.mem_append_right _ h))))) (by decide +kernel))
set_option maxRecDepth 20000 in
theorem gL_asks_L_rank : GoodIn wsL_asks (va_wsS RL 226 yL_rank wsL_rank) := goodIn_app (goodIn_of _ (by decide +kernel)) ggL_asks_L_rank
set_option maxRecDepth 20000 in
theorem ggL_asks_L_rankAgain : GoodIn wsL_asks wsL_rankAgain := goodIn_ca (goodIn_ca (goodIn_r _ [546, 129, 547, 548, 549, 11, 550, 15, 214, 215, 216, 134, 135, 551, 226, 227, 20, 228, 22, 27, 625, 626, 627, 628, 629, 630, 631, 632, 633, 634, 635, 636, 637, 638, 639, 640, 641] (by decide +kernel) (by decide +kernel)) (goodIn_sub (fun _ h => List.mem_cons_of_mem _ (List.mem_append_left _ (List.mem_append_left _ (List.mem_append_right _ h)))) (by decide +kernel))) (goodIn_sub (fun _ h => List.mem_cons_of_mem _ (List.mem_append_left _ (List.mem_append_left _ (List.mem_append_left _ (List.mem_append_right _ h))))) (by decide +kernel))
set_option maxRecDepth 20000 in
theorem gL_asks_L_rankAgain : GoodIn wsL_asks (va_wsS RL 228 yL_rankAgain wsL_rankAgain) := goodIn_app (goodIn_of _ (by decide +kernel)) ggL_asks_L_rankAgain
set_option maxRecDepth 20000 in
theorem ggL_asks_L_floor : GoodIn wsL_asks wsL_floor := goodIn_ca (goodIn_ca (goodIn_ca (goodIn_r _ [554, 129, 195, 555, 556, 557, 11, 558, 15, 214, 215, 216, 134, 135, 551, 226, 227, 20, 228, 22, 27, 200, 201, 202, 203, 204, 205, 206, 29, 30, 31, 23, 24, 25, 26, 28, 625, 626, 627, 628, 629, 630, 631, 632, 633, 634, 635, 636, 637, 638, 639, 640, 641] (by decide +kernel) (by decide +kernel)) (goodIn_sub (fun _ h => List.mem_cons_of_mem _ (List.mem_append_left _ (List.mem_append_left _ (List.mem_append_right _ h)))) (by decide +kernel))) (goodIn_sub (fun _ h => List.mem_cons_of_mem _ (List.mem_append_left _ (List.mem_append_left _ (List.mem_append_left _ (List.mem_append_right _ h))))) (by decide +kernel))) (goodIn_sub (fun _ h => List.mem_cons_of_mem _ (List.mem_append_left _ (List.mem_append_right _ h))) (by decide +kernel))
set_option maxRecDepth 20000 in
theorem gL_asks_L_floor : GoodIn wsL_asks (va_wsS RL 230 yL_floor wsL_floor) := goodIn_app (goodIn_of _ (by decide +kernel)) ggL_asks_L_floor
set_option maxRecDepth 20000 in
theorem ggL_asks_L_ceiling : GoodIn wsL_asks wsL_ceiling := goodIn_ca (goodIn_ca (goodIn_ca (goodIn_r _ [561, 129, 195, 562, 563, 564, 11, 565, 15, 214, 215, 216, 134, 135, 551, 226, 227, 20, 228, 22, 27, 200, 201, 202, 203, 204, 205, 206, 29, 30, 31, 23, 24, 25, 26, 28, 625, 626, 627, 628, 629, 630, 631, 632, 633, 634, 635, 636, 637, 638, 639, 640, 641] (by decide +kernel) (by decide +kernel)) (goodIn_sub (fun _ h => List.mem_cons_of_mem _ (List.mem_append_left _ (List.mem_append_left _ (List.mem_append_right _ h)))) (by decide +kernel))) (goodIn_sub (fun _ h => List.mem_cons_of_mem _ (List.mem_append_left _ (List.mem_append_left _ (List.mem_append_left _ (List.mem_append_right _ h))))) (by decide +kernel))) (goodIn_sub (fun _ h => List.mem_cons_of_mem _ (List.mem_append_left _ (List.mem_append_right _ h))) (by decide +kernel))
set_option maxRecDepth 20000 in
theorem gL_asks_L_ceiling : GoodIn wsL_asks (va_wsS RL 232 yL_ceiling wsL_ceiling) := goodIn_app (goodIn_of _ (by decide +kernel)) ggL_asks_L_ceiling
set_option maxRecDepth 20000 in
theorem ggL_asks_L_steps : GoodIn wsL_asks wsL_steps := goodIn_ca (goodIn_ca (goodIn_r _ [568, 129, 569, 570, 571, 11, 572, 16, 214, 215, 216, 134, 135, 32, 33, 34, 35, 36, 37, 38, 39, 40, 41, 42, 43, 44, 45, 46, 47, 48, 49, 20, 50, 51, 52, 53, 54, 22, 55, 56, 57, 58, 59, 60, 61, 62, 63, 28, 29, 30, 31, 64, 65, 66, 67, 68, 69, 70, 71, 72, 73, 74, 75, 76, 77, 78, 79, 80, 81, 82, 83, 84, 85, 86, 87, 88, 27, 89, 625, 626, 627, 628, 629, 630, 631, 632, 633, 634, 635, 642, 643, 644, 645, 646, 647, 636, 637, 638, 639, 640, 641] (by decide +kernel) (by decide +kernel)) (goodIn_sub (fun _ h => List.mem_cons_of_mem _ (List.mem_append_left _ (List.mem_append_left _ (List.mem_append_right _ h)))) (by decide +kernel))) (goodIn_sub (fun _ h => List.mem_cons_of_mem _ (List.mem_append_left _ (List.mem_append_left _ (List.mem_append_left _ (List.mem_append_right _ h))))) (by decide +kernel))
set_option maxRecDepth 20000 in
theorem gL_asks_L_steps : GoodIn wsL_asks (va_wsS RL 234 yL_steps wsL_steps) := goodIn_app (goodIn_of _ (by decide +kernel)) ggL_asks_L_steps
set_option maxRecDepth 20000 in
theorem ggL_asks_L_count : GoodIn wsL_asks wsL_count := goodIn_ca (goodIn_ca (goodIn_r _ [575, 129, 576, 577, 578, 11, 579, 16, 580, 581, 582, 134, 135, 214, 215, 216, 540, 541, 542, 35, 543, 46, 39, 40, 41, 42, 43, 44, 45, 37, 38, 47, 48, 49, 20, 50, 51, 52, 53, 54, 22, 55, 56, 57, 58, 59, 60, 61, 62, 63, 28, 29, 30, 31, 64, 65, 66, 67, 68, 69, 70, 71, 72, 73, 74, 75, 76, 77, 78, 79, 80, 81, 82, 83, 84, 85, 86, 87, 88, 27, 89, 625, 626, 627, 628, 629, 630, 631, 632, 633, 634, 635, 642, 643, 644, 645, 646, 647, 636, 637, 638, 639, 640, 641] (by decide +kernel) (by decide +kernel)) (goodIn_sub (fun _ h => List.mem_cons_of_mem _ (List.mem_append_left _ (List.mem_append_left _ (List.mem_append_right _ h)))) (by decide +kernel))) (goodIn_sub (fun _ h => List.mem_cons_of_mem _ (List.mem_append_left _ (List.mem_append_left _ (List.mem_append_left _ (List.mem_append_right _ h))))) (by decide +kernel))
set_option maxRecDepth 20000 in
theorem gL_asks_L_count : GoodIn wsL_asks (va_wsS RL 236 yL_count wsL_count) := goodIn_app (goodIn_of _ (by decide +kernel)) ggL_asks_L_count
set_option maxRecDepth 20000 in
theorem ggL_asks_L_countAgain : GoodIn wsL_asks wsL_countAgain := goodIn_ca (goodIn_ca (goodIn_r _ [585, 129, 586, 587, 588, 11, 589, 15, 580, 581, 582, 134, 135, 214, 215, 216, 551, 226, 227, 20, 228, 22, 27, 17, 18, 19, 21, 23, 24, 25, 26, 28, 29, 30, 31, 625, 626, 627, 628, 629, 630, 631, 632, 633, 634, 635, 636, 637, 638, 639, 640, 641] (by decide +kernel) (by decide +kernel)) (goodIn_sub (fun _ h => List.mem_cons_of_mem _ (List.mem_append_left _ (List.mem_append_left _ (List.mem_append_right _ h)))) (by decide +kernel))) (goodIn_sub (fun _ h => List.mem_cons_of_mem _ (List.mem_append_left _ (List.mem_append_left _ (List.mem_append_left _ (List.mem_append_right _ h))))) (by decide +kernel))
set_option maxRecDepth 20000 in
theorem gL_asks_L_countAgain : GoodIn wsL_asks (va_wsS RL 238 yL_countAgain wsL_countAgain) := goodIn_app (goodIn_of _ (by decide +kernel)) ggL_asks_L_countAgain
set_option maxRecDepth 20000 in
theorem ggL_asks_L_weightIn : GoodIn wsL_asks wsL_weightIn := goodIn_ca (goodIn_ca (goodIn_r _ [592, 129, 593, 594, 595, 11, 596, 15, 580, 581, 582, 134, 135, 214, 215, 216, 551, 226, 227, 20, 228, 22, 27, 17, 18, 19, 21, 23, 24, 25, 26, 28, 29, 30, 31, 229, 143, 144, 145, 146, 625, 626, 627, 628, 629, 630, 631, 632, 633, 634, 635, 636, 637, 638, 639, 640, 641] (by decide +kernel) (by decide +kernel)) (goodIn_sub (fun _ h => List.mem_cons_of_mem _ (List.mem_append_left _ (List.mem_append_left _ (List.mem_append_right _ h)))) (by decide +kernel))) (goodIn_sub (fun _ h => List.mem_cons_of_mem _ (List.mem_append_left _ (List.mem_append_left _ (List.mem_append_left _ (List.mem_append_right _ h))))) (by decide +kernel))
set_option maxRecDepth 20000 in
theorem gL_asks_L_weightIn : GoodIn wsL_asks (va_wsS RL 240 yL_weightIn wsL_weightIn) := goodIn_app (goodIn_of _ (by decide +kernel)) ggL_asks_L_weightIn
set_option maxRecDepth 20000 in
theorem ggL_asks_L_heaviestIn : GoodIn wsL_asks wsL_heaviestIn := goodIn_ca (goodIn_ca (goodIn_ca (goodIn_r _ [599, 129, 195, 600, 601, 602, 11, 603, 15, 580, 581, 582, 134, 135, 214, 215, 216, 551, 226, 227, 20, 228, 22, 27, 17, 18, 19, 21, 23, 24, 25, 26, 28, 29, 30, 31, 229, 143, 144, 145, 146, 200, 201, 202, 203, 204, 205, 206, 625, 626, 627, 628, 629, 630, 631, 632, 633, 634, 635, 636, 637, 638, 639, 640, 641] (by decide +kernel) (by decide +kernel)) (goodIn_sub (fun _ h => List.mem_cons_of_mem _ (List.mem_append_left _ (List.mem_append_left _ (List.mem_append_right _ h)))) (by decide +kernel))) (goodIn_sub (fun _ h => List.mem_cons_of_mem _ (List.mem_append_left _ (List.mem_append_left _ (List.mem_append_left _ (List.mem_append_right _ h))))) (by decide +kernel))) (goodIn_sub (fun _ h => List.mem_cons_of_mem _ (List.mem_append_left _ (List.mem_append_right _ h))) (by decide +kernel))
set_option maxRecDepth 20000 in
theorem gL_asks_L_heaviestIn : GoodIn wsL_asks (va_wsS RL 242 yL_heaviestIn wsL_heaviestIn) := goodIn_app (goodIn_of _ (by decide +kernel)) ggL_asks_L_heaviestIn
set_option maxRecDepth 20000 in
theorem ggL_asks_L_longestSearch : GoodIn wsL_asks wsL_longestSearch := goodIn_ca (goodIn_ca (goodIn_r _ [606, 195, 607, 608, 609, 11, 610, 15, 16, 17, 18, 19, 20, 21, 22, 23, 24, 25, 26, 27, 28, 29, 30, 31, 32, 33, 34, 35, 36, 37, 38, 39, 40, 41, 42, 43, 44, 45, 46, 47, 48, 49, 50, 51, 52, 53, 54, 55, 56, 57, 58, 59, 60, 61, 62, 63, 64, 65, 66, 67, 68, 69, 70, 71, 72, 73, 74, 75, 76, 77, 78, 79, 80, 81, 82, 83, 84, 85, 86, 87, 88, 89, 200, 201, 202, 203, 204, 205, 206, 625, 626, 627, 628, 629, 630, 631, 632, 633, 634, 635, 636, 637, 638, 639, 640, 641, 642, 643, 644, 645, 646, 647] (by decide +kernel) (by decide +kernel)) (goodIn_sub (fun _ h => List.mem_cons_of_mem _ (List.mem_append_left _ (List.mem_append_left _ (List.mem_append_left _ (List.mem_append_right _ h))))) (by decide +kernel))) (goodIn_sub (fun _ h => List.mem_cons_of_mem _ (List.mem_append_left _ (List.mem_append_right _ h))) (by decide +kernel))
set_option maxRecDepth 20000 in
theorem gL_asks_L_longestSearch : GoodIn wsL_asks (va_wsS RL 244 yL_longestSearch wsL_longestSearch) := goodIn_app (goodIn_of _ (by decide +kernel)) ggL_asks_L_longestSearch
set_option maxRecDepth 20000 in
theorem ggL_asks_X7_nextRungs : GoodIn wsL_asks wsX7_nextRungs := goodIn_r _ [614, 15, 147, 148, 149, 20, 150, 151, 615, 616, 617, 155, 618, 157, 619, 620, 621, 622, 623, 624, 625, 626, 627, 628, 629, 630, 631, 632, 633, 634, 635, 636, 637, 638, 639, 640, 641, 648, 649, 650] (by decide +kernel) (by decide +kernel)
set_option maxRecDepth 20000 in
theorem gL_asks_X7_nextRungs : GoodIn wsL_asks (wsV RL 246 RX7 yX7_nextRungs wsX7_nextRungs) := goodIn_app (goodIn_of _ (by decide +kernel)) ggL_asks_X7_nextRungs
theorem dL_asks_0 : decode cL_asks 0 = .ok (.ldc2_w 185, 3) := by decide +kernel
theorem dL_asks_3 : decode cL_asks 3 = .ok (.aload_n 0, 1) := by decide +kernel
theorem dL_asks_4 : decode cL_asks 4 = .ok (.invokestatic 187, 3) := by decide +kernel
theorem dL_asks_7 : decode cL_asks 7 = .ok (.invokestatic 190, 3) := by decide +kernel
theorem dL_asks_10 : decode cL_asks 10 = .ok (.lmul, 1) := by decide +kernel
theorem dL_asks_11 : decode cL_asks 11 = .ok (.aload_n 0, 1) := by decide +kernel
theorem dL_asks_12 : decode cL_asks 12 = .ok (.invokestatic 196, 3) := by decide +kernel
theorem dL_asks_15 : decode cL_asks 15 = .ok (.invokestatic 199, 3) := by decide +kernel
theorem dL_asks_18 : decode cL_asks 18 = .ok (.i2l, 1) := by decide +kernel
theorem dL_asks_19 : decode cL_asks 19 = .ok (.ladd, 1) := by decide +kernel
theorem dL_asks_20 : decode cL_asks 20 = .ok (.lstore_n 1, 1) := by decide +kernel
theorem dL_asks_21 : decode cL_asks 21 = .ok (.iconst 0, 1) := by decide +kernel
theorem dL_asks_22 : decode cL_asks 22 = .ok (.istore_n 3, 1) := by decide +kernel
theorem dL_asks_23 : decode cL_asks 23 = .ok (.iload_n 3, 1) := by decide +kernel
theorem dL_asks_24 : decode cL_asks 24 = .ok (.bipush 8, 2) := by decide +kernel
theorem dL_asks_26 : decode cL_asks 26 = .ok (.if_icmp .ge 22, 3) := by decide +kernel
theorem dL_asks_29 : decode cL_asks 29 = .ok (.ldc2_w 185, 3) := by decide +kernel
theorem dL_asks_32 : decode cL_asks 32 = .ok (.lload_n 1, 1) := by decide +kernel
theorem dL_asks_33 : decode cL_asks 33 = .ok (.lmul, 1) := by decide +kernel
theorem dL_asks_34 : decode cL_asks 34 = .ok (.aload_n 0, 1) := by decide +kernel
theorem dL_asks_35 : decode cL_asks 35 = .ok (.iload_n 3, 1) := by decide +kernel
theorem dL_asks_36 : decode cL_asks 36 = .ok (.invokestatic 205, 3) := by decide +kernel
theorem dL_asks_39 : decode cL_asks 39 = .ok (.i2l, 1) := by decide +kernel
theorem dL_asks_40 : decode cL_asks 40 = .ok (.ladd, 1) := by decide +kernel
theorem dL_asks_41 : decode cL_asks 41 = .ok (.lstore_n 1, 1) := by decide +kernel
theorem dL_asks_42 : decode cL_asks 42 = .ok (.iinc 3 1, 3) := by decide +kernel
theorem dL_asks_45 : decode cL_asks 45 = .ok (.goto (-22), 3) := by decide +kernel
theorem dL_asks_48 : decode cL_asks 48 = .ok (.iconst 0, 1) := by decide +kernel
theorem dL_asks_49 : decode cL_asks 49 = .ok (.istore_n 3, 1) := by decide +kernel
theorem dL_asks_50 : decode cL_asks 50 = .ok (.iload_n 3, 1) := by decide +kernel
theorem dL_asks_51 : decode cL_asks 51 = .ok (.aload_n 0, 1) := by decide +kernel
theorem dL_asks_52 : decode cL_asks 52 = .ok (.iconst 0, 1) := by decide +kernel
theorem dL_asks_53 : decode cL_asks 53 = .ok (.invokestatic 205, 3) := by decide +kernel
theorem dL_asks_56 : decode cL_asks 56 = .ok (.if_icmp .ge 127, 3) := by decide +kernel
theorem dL_asks_59 : decode cL_asks 59 = .ok (.aload_n 0, 1) := by decide +kernel
theorem dL_asks_60 : decode cL_asks 60 = .ok (.iload_n 3, 1) := by decide +kernel
theorem dL_asks_61 : decode cL_asks 61 = .ok (.invokestatic 207, 3) := by decide +kernel
theorem dL_asks_64 : decode cL_asks 64 = .ok (.istore 4, 2) := by decide +kernel
theorem dL_asks_66 : decode cL_asks 66 = .ok (.ldc2_w 185, 3) := by decide +kernel
theorem dL_asks_69 : decode cL_asks 69 = .ok (.lload_n 1, 1) := by decide +kernel
theorem dL_asks_70 : decode cL_asks 70 = .ok (.lmul, 1) := by decide +kernel
theorem dL_asks_71 : decode cL_asks 71 = .ok (.iload 4, 2) := by decide +kernel
theorem dL_asks_73 : decode cL_asks 73 = .ok (.i2l, 1) := by decide +kernel
theorem dL_asks_74 : decode cL_asks 74 = .ok (.ladd, 1) := by decide +kernel
theorem dL_asks_75 : decode cL_asks 75 = .ok (.lstore_n 1, 1) := by decide +kernel
theorem dL_asks_76 : decode cL_asks 76 = .ok (.iconst 0, 1) := by decide +kernel
theorem dL_asks_77 : decode cL_asks 77 = .ok (.istore 5, 2) := by decide +kernel
theorem dL_asks_79 : decode cL_asks 79 = .ok (.iload 5, 2) := by decide +kernel
theorem dL_asks_81 : decode cL_asks 81 = .ok (.iconst 4, 1) := by decide +kernel
theorem dL_asks_82 : decode cL_asks 82 = .ok (.if_icmp .ge 25, 3) := by decide +kernel
theorem dL_asks_85 : decode cL_asks 85 = .ok (.ldc2_w 185, 3) := by decide +kernel
theorem dL_asks_88 : decode cL_asks 88 = .ok (.lload_n 1, 1) := by decide +kernel
theorem dL_asks_89 : decode cL_asks 89 = .ok (.lmul, 1) := by decide +kernel
theorem dL_asks_90 : decode cL_asks 90 = .ok (.aload_n 0, 1) := by decide +kernel
theorem dL_asks_91 : decode cL_asks 91 = .ok (.iload 4, 2) := by decide +kernel
theorem dL_asks_93 : decode cL_asks 93 = .ok (.iload 5, 2) := by decide +kernel
theorem dL_asks_95 : decode cL_asks 95 = .ok (.invokestatic 209, 3) := by decide +kernel
theorem dL_asks_98 : decode cL_asks 98 = .ok (.i2l, 1) := by decide +kernel
theorem dL_asks_99 : decode cL_asks 99 = .ok (.ladd, 1) := by decide +kernel
theorem dL_asks_100 : decode cL_asks 100 = .ok (.lstore_n 1, 1) := by decide +kernel
theorem dL_asks_101 : decode cL_asks 101 = .ok (.iinc 5 1, 3) := by decide +kernel
theorem dL_asks_104 : decode cL_asks 104 = .ok (.goto (-25), 3) := by decide +kernel
theorem dL_asks_107 : decode cL_asks 107 = .ok (.ldc2_w 185, 3) := by decide +kernel
theorem dL_asks_110 : decode cL_asks 110 = .ok (.ldc2_w 185, 3) := by decide +kernel
theorem dL_asks_113 : decode cL_asks 113 = .ok (.ldc2_w 185, 3) := by decide +kernel
theorem dL_asks_116 : decode cL_asks 116 = .ok (.lload_n 1, 1) := by decide +kernel
theorem dL_asks_117 : decode cL_asks 117 = .ok (.lmul, 1) := by decide +kernel
theorem dL_asks_118 : decode cL_asks 118 = .ok (.aload_n 0, 1) := by decide +kernel
theorem dL_asks_119 : decode cL_asks 119 = .ok (.iload 4, 2) := by decide +kernel
theorem dL_asks_121 : decode cL_asks 121 = .ok (.invokestatic 211, 3) := by decide +kernel
theorem dL_asks_124 : decode cL_asks 124 = .ok (.i2l, 1) := by decide +kernel
theorem dL_asks_125 : decode cL_asks 125 = .ok (.ladd, 1) := by decide +kernel
theorem dL_asks_126 : decode cL_asks 126 = .ok (.lmul, 1) := by decide +kernel
theorem dL_asks_127 : decode cL_asks 127 = .ok (.aload_n 0, 1) := by decide +kernel
theorem dL_asks_128 : decode cL_asks 128 = .ok (.iload 4, 2) := by decide +kernel
theorem dL_asks_130 : decode cL_asks 130 = .ok (.invokestatic 213, 3) := by decide +kernel
theorem dL_asks_133 : decode cL_asks 133 = .ok (.i2l, 1) := by decide +kernel
theorem dL_asks_134 : decode cL_asks 134 = .ok (.ladd, 1) := by decide +kernel
theorem dL_asks_135 : decode cL_asks 135 = .ok (.lmul, 1) := by decide +kernel
theorem dL_asks_136 : decode cL_asks 136 = .ok (.aload_n 0, 1) := by decide +kernel
theorem dL_asks_137 : decode cL_asks 137 = .ok (.iload 4, 2) := by decide +kernel
theorem dL_asks_139 : decode cL_asks 139 = .ok (.iconst 1, 1) := by decide +kernel
theorem dL_asks_140 : decode cL_asks 140 = .ok (.invokestatic 215, 3) := by decide +kernel
theorem dL_asks_143 : decode cL_asks 143 = .ok (.i2l, 1) := by decide +kernel
theorem dL_asks_144 : decode cL_asks 144 = .ok (.ladd, 1) := by decide +kernel
theorem dL_asks_145 : decode cL_asks 145 = .ok (.lstore_n 1, 1) := by decide +kernel
theorem dL_asks_146 : decode cL_asks 146 = .ok (.iconst 0, 1) := by decide +kernel
theorem dL_asks_147 : decode cL_asks 147 = .ok (.istore 5, 2) := by decide +kernel
theorem dL_asks_149 : decode cL_asks 149 = .ok (.iload 5, 2) := by decide +kernel
theorem dL_asks_151 : decode cL_asks 151 = .ok (.iconst 5, 1) := by decide +kernel
theorem dL_asks_152 : decode cL_asks 152 = .ok (.if_icmp .ge 25, 3) := by decide +kernel
theorem dL_asks_155 : decode cL_asks 155 = .ok (.ldc2_w 185, 3) := by decide +kernel
theorem dL_asks_158 : decode cL_asks 158 = .ok (.lload_n 1, 1) := by decide +kernel
theorem dL_asks_159 : decode cL_asks 159 = .ok (.lmul, 1) := by decide +kernel
theorem dL_asks_160 : decode cL_asks 160 = .ok (.aload_n 0, 1) := by decide +kernel
theorem dL_asks_161 : decode cL_asks 161 = .ok (.iload 4, 2) := by decide +kernel
theorem dL_asks_163 : decode cL_asks 163 = .ok (.iload 5, 2) := by decide +kernel
theorem dL_asks_165 : decode cL_asks 165 = .ok (.invokestatic 217, 3) := by decide +kernel
theorem dL_asks_168 : decode cL_asks 168 = .ok (.i2l, 1) := by decide +kernel
theorem dL_asks_169 : decode cL_asks 169 = .ok (.ladd, 1) := by decide +kernel
theorem dL_asks_170 : decode cL_asks 170 = .ok (.lstore_n 1, 1) := by decide +kernel
theorem dL_asks_171 : decode cL_asks 171 = .ok (.iinc 5 1, 3) := by decide +kernel
theorem dL_asks_174 : decode cL_asks 174 = .ok (.goto (-25), 3) := by decide +kernel
theorem dL_asks_177 : decode cL_asks 177 = .ok (.iinc 3 1, 3) := by decide +kernel
theorem dL_asks_180 : decode cL_asks 180 = .ok (.goto (-130), 3) := by decide +kernel
theorem dL_asks_183 : decode cL_asks 183 = .ok (.iconst 0, 1) := by decide +kernel
theorem dL_asks_184 : decode cL_asks 184 = .ok (.istore_n 3, 1) := by decide +kernel
theorem dL_asks_185 : decode cL_asks 185 = .ok (.iload_n 3, 1) := by decide +kernel
theorem dL_asks_186 : decode cL_asks 186 = .ok (.iconst 5, 1) := by decide +kernel
theorem dL_asks_187 : decode cL_asks 187 = .ok (.if_icmp .ge 81, 3) := by decide +kernel
theorem dL_asks_190 : decode cL_asks 190 = .ok (.ldc2_w 185, 3) := by decide +kernel
theorem dL_asks_193 : decode cL_asks 193 = .ok (.ldc2_w 185, 3) := by decide +kernel
theorem dL_asks_196 : decode cL_asks 196 = .ok (.ldc2_w 185, 3) := by decide +kernel
theorem dL_asks_199 : decode cL_asks 199 = .ok (.lload_n 1, 1) := by decide +kernel
theorem dL_asks_200 : decode cL_asks 200 = .ok (.lmul, 1) := by decide +kernel
theorem dL_asks_201 : decode cL_asks 201 = .ok (.aload_n 0, 1) := by decide +kernel
theorem dL_asks_202 : decode cL_asks 202 = .ok (.iload_n 3, 1) := by decide +kernel
theorem dL_asks_203 : decode cL_asks 203 = .ok (.invokestatic 219, 3) := by decide +kernel
theorem dL_asks_206 : decode cL_asks 206 = .ok (.i2l, 1) := by decide +kernel
theorem dL_asks_207 : decode cL_asks 207 = .ok (.ladd, 1) := by decide +kernel
theorem dL_asks_208 : decode cL_asks 208 = .ok (.lmul, 1) := by decide +kernel
theorem dL_asks_209 : decode cL_asks 209 = .ok (.aload_n 0, 1) := by decide +kernel
theorem dL_asks_210 : decode cL_asks 210 = .ok (.iload_n 3, 1) := by decide +kernel
theorem dL_asks_211 : decode cL_asks 211 = .ok (.invokestatic 221, 3) := by decide +kernel
theorem dL_asks_214 : decode cL_asks 214 = .ok (.i2l, 1) := by decide +kernel
theorem dL_asks_215 : decode cL_asks 215 = .ok (.ladd, 1) := by decide +kernel
theorem dL_asks_216 : decode cL_asks 216 = .ok (.lmul, 1) := by decide +kernel
theorem dL_asks_217 : decode cL_asks 217 = .ok (.aload_n 0, 1) := by decide +kernel
theorem dL_asks_218 : decode cL_asks 218 = .ok (.iload_n 3, 1) := by decide +kernel
theorem dL_asks_219 : decode cL_asks 219 = .ok (.invokestatic 223, 3) := by decide +kernel
theorem dL_asks_222 : decode cL_asks 222 = .ok (.i2l, 1) := by decide +kernel
theorem dL_asks_223 : decode cL_asks 223 = .ok (.ladd, 1) := by decide +kernel
theorem dL_asks_224 : decode cL_asks 224 = .ok (.lstore_n 1, 1) := by decide +kernel
theorem dL_asks_225 : decode cL_asks 225 = .ok (.aload_n 0, 1) := by decide +kernel
theorem dL_asks_226 : decode cL_asks 226 = .ok (.iload_n 3, 1) := by decide +kernel
theorem dL_asks_227 : decode cL_asks 227 = .ok (.invokestatic 166, 3) := by decide +kernel
theorem dL_asks_230 : decode cL_asks 230 = .ok (.istore 4, 2) := by decide +kernel
theorem dL_asks_232 : decode cL_asks 232 = .ok (.iconst 0, 1) := by decide +kernel
theorem dL_asks_233 : decode cL_asks 233 = .ok (.istore 5, 2) := by decide +kernel
theorem dL_asks_235 : decode cL_asks 235 = .ok (.iload 5, 2) := by decide +kernel
theorem dL_asks_237 : decode cL_asks 237 = .ok (.iload 4, 2) := by decide +kernel
theorem dL_asks_239 : decode cL_asks 239 = .ok (.if_icmp .ge 23, 3) := by decide +kernel
theorem dL_asks_242 : decode cL_asks 242 = .ok (.ldc2_w 185, 3) := by decide +kernel
theorem dL_asks_245 : decode cL_asks 245 = .ok (.lload_n 1, 1) := by decide +kernel
theorem dL_asks_246 : decode cL_asks 246 = .ok (.lmul, 1) := by decide +kernel
theorem dL_asks_247 : decode cL_asks 247 = .ok (.aload_n 0, 1) := by decide +kernel
theorem dL_asks_248 : decode cL_asks 248 = .ok (.iload 5, 2) := by decide +kernel
theorem dL_asks_250 : decode cL_asks 250 = .ok (.invokestatic 168, 3) := by decide +kernel
theorem dL_asks_253 : decode cL_asks 253 = .ok (.i2l, 1) := by decide +kernel
theorem dL_asks_254 : decode cL_asks 254 = .ok (.ladd, 1) := by decide +kernel
theorem dL_asks_255 : decode cL_asks 255 = .ok (.lstore_n 1, 1) := by decide +kernel
theorem dL_asks_256 : decode cL_asks 256 = .ok (.iinc 5 1, 3) := by decide +kernel
theorem dL_asks_259 : decode cL_asks 259 = .ok (.goto (-24), 3) := by decide +kernel
theorem dL_asks_262 : decode cL_asks 262 = .ok (.iinc 3 1, 3) := by decide +kernel
theorem dL_asks_265 : decode cL_asks 265 = .ok (.goto (-80), 3) := by decide +kernel
theorem dL_asks_268 : decode cL_asks 268 = .ok (.iconst 0, 1) := by decide +kernel
theorem dL_asks_269 : decode cL_asks 269 = .ok (.istore_n 3, 1) := by decide +kernel
theorem dL_asks_270 : decode cL_asks 270 = .ok (.iload_n 3, 1) := by decide +kernel
theorem dL_asks_271 : decode cL_asks 271 = .ok (.sipush 1000, 3) := by decide +kernel
theorem dL_asks_274 : decode cL_asks 274 = .ok (.if_icmp .ge 66, 3) := by decide +kernel
theorem dL_asks_277 : decode cL_asks 277 = .ok (.ldc2_w 185, 3) := by decide +kernel
theorem dL_asks_280 : decode cL_asks 280 = .ok (.ldc2_w 185, 3) := by decide +kernel
theorem dL_asks_283 : decode cL_asks 283 = .ok (.ldc2_w 185, 3) := by decide +kernel
theorem dL_asks_286 : decode cL_asks 286 = .ok (.ldc2_w 185, 3) := by decide +kernel
theorem dL_asks_289 : decode cL_asks 289 = .ok (.ldc2_w 185, 3) := by decide +kernel
theorem dL_asks_292 : decode cL_asks 292 = .ok (.lload_n 1, 1) := by decide +kernel
theorem dL_asks_293 : decode cL_asks 293 = .ok (.lmul, 1) := by decide +kernel
theorem dL_asks_294 : decode cL_asks 294 = .ok (.aload_n 0, 1) := by decide +kernel
theorem dL_asks_295 : decode cL_asks 295 = .ok (.iload_n 3, 1) := by decide +kernel
theorem dL_asks_296 : decode cL_asks 296 = .ok (.invokestatic 226, 3) := by decide +kernel
theorem dL_asks_299 : decode cL_asks 299 = .ok (.i2l, 1) := by decide +kernel
theorem dL_asks_300 : decode cL_asks 300 = .ok (.ladd, 1) := by decide +kernel
theorem dL_asks_301 : decode cL_asks 301 = .ok (.lmul, 1) := by decide +kernel
theorem dL_asks_302 : decode cL_asks 302 = .ok (.aload_n 0, 1) := by decide +kernel
theorem dL_asks_303 : decode cL_asks 303 = .ok (.iload_n 3, 1) := by decide +kernel
theorem dL_asks_304 : decode cL_asks 304 = .ok (.invokestatic 228, 3) := by decide +kernel
theorem dL_asks_307 : decode cL_asks 307 = .ok (.i2l, 1) := by decide +kernel
theorem dL_asks_308 : decode cL_asks 308 = .ok (.ladd, 1) := by decide +kernel
theorem dL_asks_309 : decode cL_asks 309 = .ok (.lmul, 1) := by decide +kernel
theorem dL_asks_310 : decode cL_asks 310 = .ok (.aload_n 0, 1) := by decide +kernel
theorem dL_asks_311 : decode cL_asks 311 = .ok (.iload_n 3, 1) := by decide +kernel
theorem dL_asks_312 : decode cL_asks 312 = .ok (.invokestatic 230, 3) := by decide +kernel
theorem dL_asks_315 : decode cL_asks 315 = .ok (.i2l, 1) := by decide +kernel
theorem dL_asks_316 : decode cL_asks 316 = .ok (.ladd, 1) := by decide +kernel
theorem dL_asks_317 : decode cL_asks 317 = .ok (.lmul, 1) := by decide +kernel
theorem dL_asks_318 : decode cL_asks 318 = .ok (.aload_n 0, 1) := by decide +kernel
theorem dL_asks_319 : decode cL_asks 319 = .ok (.iload_n 3, 1) := by decide +kernel
theorem dL_asks_320 : decode cL_asks 320 = .ok (.invokestatic 232, 3) := by decide +kernel
theorem dL_asks_323 : decode cL_asks 323 = .ok (.i2l, 1) := by decide +kernel
theorem dL_asks_324 : decode cL_asks 324 = .ok (.ladd, 1) := by decide +kernel
theorem dL_asks_325 : decode cL_asks 325 = .ok (.lmul, 1) := by decide +kernel
theorem dL_asks_326 : decode cL_asks 326 = .ok (.aload_n 0, 1) := by decide +kernel
theorem dL_asks_327 : decode cL_asks 327 = .ok (.iload_n 3, 1) := by decide +kernel
theorem dL_asks_328 : decode cL_asks 328 = .ok (.invokestatic 234, 3) := by decide +kernel
theorem dL_asks_331 : decode cL_asks 331 = .ok (.i2l, 1) := by decide +kernel
theorem dL_asks_332 : decode cL_asks 332 = .ok (.ladd, 1) := by decide +kernel
theorem dL_asks_333 : decode cL_asks 333 = .ok (.lstore_n 1, 1) := by decide +kernel
theorem dL_asks_334 : decode cL_asks 334 = .ok (.iinc 3 111, 3) := by decide +kernel
theorem dL_asks_337 : decode cL_asks 337 = .ok (.goto (-67), 3) := by decide +kernel
theorem dL_asks_340 : decode cL_asks 340 = .ok (.ldc2_w 185, 3) := by decide +kernel
theorem dL_asks_343 : decode cL_asks 343 = .ok (.ldc2_w 185, 3) := by decide +kernel
theorem dL_asks_346 : decode cL_asks 346 = .ok (.ldc2_w 185, 3) := by decide +kernel
theorem dL_asks_349 : decode cL_asks 349 = .ok (.ldc2_w 185, 3) := by decide +kernel
theorem dL_asks_352 : decode cL_asks 352 = .ok (.ldc2_w 185, 3) := by decide +kernel
theorem dL_asks_355 : decode cL_asks 355 = .ok (.lload_n 1, 1) := by decide +kernel
theorem dL_asks_356 : decode cL_asks 356 = .ok (.lmul, 1) := by decide +kernel
theorem dL_asks_357 : decode cL_asks 357 = .ok (.aload_n 0, 1) := by decide +kernel
theorem dL_asks_358 : decode cL_asks 358 = .ok (.bipush 30, 2) := by decide +kernel
theorem dL_asks_360 : decode cL_asks 360 = .ok (.sipush 700, 3) := by decide +kernel
theorem dL_asks_363 : decode cL_asks 363 = .ok (.invokestatic 236, 3) := by decide +kernel
theorem dL_asks_366 : decode cL_asks 366 = .ok (.i2l, 1) := by decide +kernel
theorem dL_asks_367 : decode cL_asks 367 = .ok (.ladd, 1) := by decide +kernel
theorem dL_asks_368 : decode cL_asks 368 = .ok (.lmul, 1) := by decide +kernel
theorem dL_asks_369 : decode cL_asks 369 = .ok (.aload_n 0, 1) := by decide +kernel
theorem dL_asks_370 : decode cL_asks 370 = .ok (.bipush 30, 2) := by decide +kernel
theorem dL_asks_372 : decode cL_asks 372 = .ok (.sipush 700, 3) := by decide +kernel
theorem dL_asks_375 : decode cL_asks 375 = .ok (.invokestatic 238, 3) := by decide +kernel
theorem dL_asks_378 : decode cL_asks 378 = .ok (.i2l, 1) := by decide +kernel
theorem dL_asks_379 : decode cL_asks 379 = .ok (.ladd, 1) := by decide +kernel
theorem dL_asks_380 : decode cL_asks 380 = .ok (.lmul, 1) := by decide +kernel
theorem dL_asks_381 : decode cL_asks 381 = .ok (.aload_n 0, 1) := by decide +kernel
theorem dL_asks_382 : decode cL_asks 382 = .ok (.iconst 5, 1) := by decide +kernel
theorem dL_asks_383 : decode cL_asks 383 = .ok (.sipush 500, 3) := by decide +kernel
theorem dL_asks_386 : decode cL_asks 386 = .ok (.invokestatic 240, 3) := by decide +kernel
theorem dL_asks_389 : decode cL_asks 389 = .ok (.i2l, 1) := by decide +kernel
theorem dL_asks_390 : decode cL_asks 390 = .ok (.ladd, 1) := by decide +kernel
theorem dL_asks_391 : decode cL_asks 391 = .ok (.lmul, 1) := by decide +kernel
theorem dL_asks_392 : decode cL_asks 392 = .ok (.aload_n 0, 1) := by decide +kernel
theorem dL_asks_393 : decode cL_asks 393 = .ok (.iconst 5, 1) := by decide +kernel
theorem dL_asks_394 : decode cL_asks 394 = .ok (.sipush 500, 3) := by decide +kernel
theorem dL_asks_397 : decode cL_asks 397 = .ok (.invokestatic 242, 3) := by decide +kernel
theorem dL_asks_400 : decode cL_asks 400 = .ok (.i2l, 1) := by decide +kernel
theorem dL_asks_401 : decode cL_asks 401 = .ok (.ladd, 1) := by decide +kernel
theorem dL_asks_402 : decode cL_asks 402 = .ok (.lmul, 1) := by decide +kernel
theorem dL_asks_403 : decode cL_asks 403 = .ok (.ldc2_w 185, 3) := by decide +kernel
theorem dL_asks_406 : decode cL_asks 406 = .ok (.aload_n 0, 1) := by decide +kernel
theorem dL_asks_407 : decode cL_asks 407 = .ok (.invokestatic 244, 3) := by decide +kernel
theorem dL_asks_410 : decode cL_asks 410 = .ok (.i2l, 1) := by decide +kernel
theorem dL_asks_411 : decode cL_asks 411 = .ok (.lmul, 1) := by decide +kernel
theorem dL_asks_412 : decode cL_asks 412 = .ok (.ladd, 1) := by decide +kernel
theorem dL_asks_413 : decode cL_asks 413 = .ok (.aload_n 0, 1) := by decide +kernel
theorem dL_asks_414 : decode cL_asks 414 = .ok (.invokevirtual 246, 3) := by decide +kernel
theorem dL_asks_417 : decode cL_asks 417 = .ok (.i2l, 1) := by decide +kernel
theorem dL_asks_418 : decode cL_asks 418 = .ok (.ladd, 1) := by decide +kernel
theorem dL_asks_419 : decode cL_asks 419 = .ok (.lreturn, 1) := by decide +kernel
