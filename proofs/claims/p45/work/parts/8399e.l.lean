set_option maxRecDepth 20000 in
theorem ggL_refused_L_asks : GoodIn wsL_refused wsL_asks := goodIn_ca (goodIn_ca (goodIn_ca (goodIn_ca (goodIn_ca (goodIn_r _ [7, 8, 9, 10, 6, 11, 12, 13, 14, 15, 16, 17, 18, 19, 20, 21, 22, 23, 24, 25, 26, 27, 28, 29, 30, 31, 32, 33, 34, 35, 36, 37, 38, 39, 40, 41, 42, 43, 44, 45, 46, 47, 48, 49, 50, 51, 52, 53, 54, 55, 56, 57, 58, 59, 60, 61, 62, 63, 64, 65, 66, 67, 68, 69, 70, 71, 72, 73, 74, 75, 76, 77, 78, 79, 80, 81, 82, 83, 84, 85, 86, 87, 88, 89, 90, 91, 92, 93, 94, 95, 96, 97, 98, 99, 100, 101, 102, 103, 104, 105, 106, 107, 108, 109, 110, 111, 112, 113, 114, 115, 116, 117, 118, 119, 120, 121, 122, 123, 124, 125, 126, 127, 128, 129, 130, 131, 132, 133, 134, 135, 136, 137, 138, 139, 140, 141, 142, 143, 144, 145, 146, 147, 148, 149, 150, 151, 152, 153, 154, 155, 156, 157, 158, 159, 160, 161, 162, 163, 164, 165, 166, 167, 168, 169, 170, 171, 172, 173, 174, 175, 176, 177, 178, 179, 180, 181, 182, 183, 184, 185, 186, 187, 188, 189, 190, 191, 192, 193, 194, 195, 196, 197, 198, 199, 200, 201, 202, 203, 204, 205, 206, 207, 208, 209, 210, 211, 212, 213, 214, 215, 216, 217, 218, 219, 220, 221, 222, 223, 224, 225, 226, 227, 228, 229, 230, 231, 232, 233, 234, 235, 236, 237, 238, 239, 240, 241, 242, 243, 244, 245, 246, 247, 248, 249, 250, 251, 252, 253, 254, 255, 256, 257, 258, 259, 260, 261, 262, 263, 264, 265, 266, 267, 268, 269, 270, 271, 272, 273, 274, 275, 276, 277, 278, 279, 280, 281, 282, 283, 284, 285, 286, 287, 288, 289, 290, 291, 292, 293, 294, 295, 296, 297, 298, 299, 300, 301, 302, 303, 304, 305, 306, 307, 308, 309, 310, 311, 312, 313, 314, 315, 316, 317, 318, 319, 320, 321, 322, 323, 324, 325, 326, 327, 328, 329, 330, 331, 332, 333, 334, 335, 336, 3, 337, 338, 339, 340, 341, 342, 343, 344, 345, 346, 347, 348, 349, 350, 351, 352, 353, 354, 355, 356, 357, 358, 359, 360, 361, 362, 363, 364, 365, 366, 367, 368, 369, 370, 371, 372, 373, 374, 375, 376, 377, 378, 379, 380, 381, 382, 383, 384, 385, 386, 387, 388, 389, 390, 391, 392, 393, 394, 395, 396, 397, 398, 399, 400, 401, 402, 403, 404, 405, 2, 406, 407, 408, 409, 410, 411, 412, 413, 414, 415, 416, 417, 418, 419, 420, 421, 422, 423, 424, 425, 426, 427, 428, 429, 430, 431, 432, 433, 434, 435, 436, 437, 438, 439, 440, 441, 442, 443, 444, 445, 446, 447, 448, 449, 450, 451, 452, 453, 454, 455, 456, 457, 458, 459, 460, 461, 462, 463, 464, 465, 466, 467, 468, 469, 470, 471, 472, 473, 474, 475, 476, 477, 478, 479, 480, 481, 482, 483, 484, 485, 486, 487, 488, 489, 490, 491, 492, 493, 494, 495, 496, 497, 498, 499, 500, 501, 502, 503, 504, 505, 506, 507, 508, 509, 510, 511, 512, 513, 514, 515, 516, 517, 518, 519, 520, 521, 522, 523, 524, 525, 526, 527, 528, 529, 530, 531, 532, 533, 534, 535, 536, 537, 538, 539, 540, 541, 542, 543, 544, 545, 546, 547, 548, 549, 550, 551, 552, 553, 554, 555, 556, 557, 558, 559, 560, 561, 562, 563, 564, 565, 566, 567, 568, 569, 570, 571, 572, 573, 574, 575, 576, 577, 578, 579, 580, 581, 582, 583, 584, 585, 586, 587, 588, 589, 590, 591, 592, 593, 594, 595, 596, 597, 598, 599, 600, 601, 602, 603, 604, 605, 606, 607, 608, 609, 610, 611, 612, 613, 614, 615, 616, 617, 618, 619, 620, 621, 622, 623, 624, 625, 626, 627, 628, 1082, 1083, 1084, 1085, 1086, 1087, 1088, 1089, 1090, 1091, 1092, 1093, 1094, 1095, 1096, 1097, 1098, 1099, 1100, 1101, 1102, 1103, 1104, 1105, 1106, 1107, 1108, 1109, 1110, 1111, 1112, 1113, 1114, 1115, 1116, 1117, 1118, 1119, 1120, 1078, 1079, 1080, 1081, 1121, 1122, 1123, 1124, 1125, 1126] (by decide +kernel) (by decide +kernel)) (goodIn_sub (fun _ h => List.mem_cons_of_mem _ (List.mem_append_left _ (List.mem_append_left _ (List.mem_append_left _ (List.mem_append_left _ (List.mem_append_left _ (List.mem_append_left _ (List.mem_append_right _ h)))))))) (by decide +kernel))) (goodIn_sub (fun _ h => List.mem_cons_of_mem _ (List.mem_append_left _ (List.mem_append_left _ (List.mem_append_left _ (List.mem_append_left _ (List.mem_append_left _ (List.mem_append_right _ h))))))) (by decide +kernel))) (goodIn_sub (fun _ h => List.mem_cons_of_mem _ (List.mem_append_left _ (List.mem_append_left _ (List.mem_append_left _ (List.mem_append_left _ (List.mem_append_right _ h)))))) (by decide +kernel))) (goodIn_sub (fun _ h => List.mem_cons_of_mem _ (List.mem_append_left _ (List.mem_append_left _ (List.mem_append_left _ (List.mem_append_right _ h))))) (by decide +kernel))) (goodIn_sub (fun _ h => List.mem_cons_of_mem _ (List.mem_append_left _ (List.mem_append_left _ (List.mem_append_right _ h)))) (by decide +kernel))
set_option maxRecDepth 20000 in
theorem gL_refused_L_asks : GoodIn wsL_refused (va_wsS RL 298 yL_asks wsL_asks) := goodIn_app (goodIn_of _ (by decide +kernel)) ggL_refused_L_asks
set_option maxRecDepth 20000 in
theorem ggL_refused_L_account : GoodIn wsL_refused wsL_account := goodIn_ca (goodIn_ca (goodIn_r _ [134, 135, 136, 137, 138, 17, 139, 140, 141, 21, 142, 143, 23, 24, 25, 26, 27, 28, 116, 117, 118, 119, 65, 66, 67, 68, 69, 34, 35, 36, 37, 144, 145, 146, 147, 148, 149, 150, 151, 152, 153, 154, 155, 156, 157, 158, 159, 160, 161, 162, 163, 164, 165, 166, 167, 168, 169, 170, 171, 172, 173, 174, 175, 176, 177, 78, 178, 179, 180, 181, 182, 183, 184, 185, 58, 59, 60, 61, 62, 63, 64, 186, 187, 188, 189, 190, 191, 192, 193, 194, 195, 196, 197, 1082, 1083, 1084, 1085, 1086, 1087, 1088, 1089, 1090, 1091, 1092, 1093, 1094, 1095, 1096, 1097, 1098, 1105, 1106, 1107, 1108, 1109, 1110, 1111, 1112, 1113, 1114] (by decide +kernel) (by decide +kernel)) (goodIn_sub (fun _ h => List.mem_cons_of_mem _ (List.mem_append_left _ (List.mem_append_left _ (List.mem_append_left _ (List.mem_append_left _ (List.mem_append_right _ h)))))) (by decide +kernel))) (goodIn_sub (fun _ h => List.mem_cons_of_mem _ (List.mem_append_left _ (List.mem_append_left _ (List.mem_append_left _ (List.mem_append_left _ (List.mem_append_left _ (List.mem_append_right _ h))))))) (by decide +kernel))
set_option maxRecDepth 20000 in
theorem gL_refused_L_account : GoodIn wsL_refused (va_wsS RL 205 yL_account wsL_account) := goodIn_app (goodIn_of _ (by decide +kernel)) ggL_refused_L_account
set_option maxRecDepth 20000 in
theorem ggL_refused_L_keyAt : GoodIn wsL_refused wsL_keyAt := goodIn_ca (goodIn_ca (goodIn_r _ [200, 201, 202, 203, 204, 17, 205, 206, 207, 208, 209, 210, 211, 21, 212, 35, 36, 26, 37, 28, 29, 30, 31, 32, 33, 34, 1082, 1083, 1084, 1085, 1086, 1087, 1088, 1089, 1090, 1091, 1092, 1093, 1094, 1095, 1096, 1097, 1098] (by decide +kernel) (by decide +kernel)) (goodIn_sub (fun _ h => List.mem_cons_of_mem _ (List.mem_append_left _ (List.mem_append_left _ (List.mem_append_left _ (List.mem_append_right _ h))))) (by decide +kernel))) (goodIn_sub (fun _ h => List.mem_cons_of_mem _ (List.mem_append_left _ (List.mem_append_left _ (List.mem_append_left _ (List.mem_append_left _ (List.mem_append_left _ (List.mem_append_right _ h))))))) (by decide +kernel))
set_option maxRecDepth 20000 in
theorem gL_refused_L_keyAt : GoodIn wsL_refused (va_wsS RL 207 yL_keyAt wsL_keyAt) := goodIn_app (goodIn_of _ (by decide +kernel)) ggL_refused_L_keyAt
set_option maxRecDepth 20000 in
theorem ggL_refused_L_file : GoodIn wsL_refused wsL_file := goodIn_ca (goodIn_ca (goodIn_r _ [631, 632, 633, 634, 635, 17, 636, 637, 638, 639, 640, 641, 642, 643, 644, 645, 646, 647, 648, 649, 650, 651, 652, 653, 142, 21, 654, 655, 656, 657, 658, 659, 660, 661, 662, 663, 664, 665, 666, 667, 668, 669, 670, 671, 672, 673, 674, 675, 676, 677, 678, 679, 680, 681, 682, 683, 684, 685, 686, 687, 688, 689, 690, 691, 228, 229, 26, 230, 33, 231, 232, 233, 234, 28, 34, 35, 36, 37, 692, 693, 694, 695, 696, 697, 698, 699, 700, 701, 702, 703, 704, 149, 150, 151, 152, 705, 706, 707, 708, 709, 66, 67, 68, 69, 710, 711, 712, 713, 714, 715, 716, 717, 718, 75, 76, 77, 78, 719, 720, 721, 189, 722, 723, 191, 724, 383, 63, 384, 725, 726, 727, 728, 729, 730, 731, 732, 733, 734, 386, 387, 388, 157, 735, 736, 737, 161, 738, 163, 168, 173, 739, 740, 741, 742, 743, 744, 745, 746, 747, 154, 155, 156, 748, 749, 750, 751, 752, 753, 754, 755, 623, 624, 625, 626, 627, 628, 756, 757, 758, 759, 760, 761, 30, 31, 32, 148, 65, 762, 763, 764, 765, 766, 767, 768, 769, 770, 771, 24, 25, 27, 772, 773, 774, 775, 776, 777, 778, 779, 780, 781, 782, 308, 309, 310, 87, 88, 89, 90, 783, 784, 785, 786, 787, 788, 789, 790, 791, 1082, 1083, 1084, 1085, 1086, 1087, 1088, 1089, 1090, 1091, 1092, 1127, 1128, 1129, 1130, 1131, 1132, 1133, 1134, 1135, 1093, 1094, 1095, 1096, 1097, 1098, 1108, 1109, 1110, 1105, 1106, 1107] (by decide +kernel) (by decide +kernel)) (goodIn_sub (fun _ h => List.mem_cons_of_mem _ (List.mem_append_left _ (List.mem_append_right _ h))) (by decide +kernel))) (goodIn_sub (fun _ h => List.mem_cons_of_mem _ (List.mem_append_left _ (List.mem_append_left _ (List.mem_append_left _ (List.mem_append_left _ (List.mem_append_left _ (List.mem_append_right _ h))))))) (by decide +kernel))
set_option maxRecDepth 20000 in
theorem gL_refused_L_file : GoodIn wsL_refused (va_wsS RL 180 yL_file wsL_file) := goodIn_app (goodIn_of _ (by decide +kernel)) ggL_refused_L_file
set_option maxRecDepth 20000 in
theorem ggL_refused_L_isRange : GoodIn wsL_refused wsL_isRange := goodIn_ca (goodIn_ca (goodIn_r _ [794, 795, 796, 6, 797, 798, 799, 800, 135, 201, 801, 802, 803, 17, 804, 140, 141, 210, 211, 653, 805, 806, 807, 657, 808, 660, 809, 810, 811, 812, 813, 814, 815, 816, 661, 817, 818, 819, 820, 662, 1082, 1083, 1084, 1085, 1086, 1087, 1088, 1089, 1090, 1091, 1092, 1131, 1132, 1133, 1134, 1135] (by decide +kernel) (by decide +kernel)) (goodIn_sub (fun _ h => List.mem_cons_of_mem _ (List.mem_append_left _ (List.mem_append_left _ (List.mem_append_left _ (List.mem_append_left _ (List.mem_append_right _ h)))))) (by decide +kernel))) (goodIn_sub (fun _ h => List.mem_cons_of_mem _ (List.mem_append_left _ (List.mem_append_left _ (List.mem_append_left _ (List.mem_append_right _ h))))) (by decide +kernel))
set_option maxRecDepth 20000 in
theorem gL_refused_L_isRange : GoodIn wsL_refused (va_wsS RL 302 yL_isRange wsL_isRange) := goodIn_app (goodIn_of _ (by decide +kernel)) ggL_refused_L_isRange
set_option maxRecDepth 20000 in
theorem ggL_refused_L_fileTall : GoodIn wsL_refused wsL_fileTall := goodIn_ca (goodIn_ca (goodIn_r _ [823, 632, 824, 825, 826, 17, 827, 637, 638, 639, 640, 641, 642, 643, 644, 645, 646, 647, 648, 649, 650, 651, 652, 653, 142, 21, 654, 655, 656, 657, 658, 659, 660, 661, 662, 663, 664, 665, 666, 667, 668, 669, 670, 671, 672, 673, 674, 675, 676, 677, 678, 679, 680, 681, 682, 683, 684, 685, 686, 687, 688, 689, 690, 691, 228, 229, 26, 230, 33, 231, 232, 233, 234, 28, 34, 35, 36, 37, 692, 693, 694, 695, 696, 697, 698, 699, 700, 701, 702, 703, 704, 149, 150, 151, 152, 705, 706, 707, 708, 709, 66, 67, 68, 69, 710, 711, 712, 713, 714, 715, 716, 717, 718, 75, 76, 77, 78, 719, 720, 721, 189, 722, 723, 191, 724, 383, 63, 384, 725, 726, 727, 728, 729, 730, 731, 732, 733, 734, 386, 387, 388, 157, 735, 736, 737, 161, 738, 163, 168, 173, 739, 740, 741, 742, 743, 744, 745, 746, 747, 154, 155, 156, 748, 749, 750, 751, 752, 753, 754, 755, 623, 624, 625, 626, 627, 628, 756, 757, 758, 759, 760, 761, 30, 31, 32, 148, 65, 762, 763, 764, 765, 766, 767, 768, 769, 770, 771, 24, 25, 27, 772, 773, 774, 775, 776, 777, 778, 779, 780, 781, 782, 308, 309, 310, 87, 88, 89, 90, 783, 784, 785, 786, 787, 788, 789, 790, 791, 1082, 1083, 1084, 1085, 1086, 1087, 1088, 1089, 1090, 1091, 1092, 1127, 1128, 1129, 1130, 1131, 1132, 1133, 1134, 1135, 1093, 1094, 1095, 1096, 1097, 1098, 1108, 1109, 1110, 1105, 1106, 1107] (by decide +kernel) (by decide +kernel)) (goodIn_sub (fun _ h => List.mem_cons_of_mem _ (List.mem_append_left _ (List.mem_append_right _ h))) (by decide +kernel))) (goodIn_sub (fun _ h => List.mem_cons_of_mem _ (List.mem_append_left _ (List.mem_append_left _ (List.mem_append_left _ (List.mem_append_left _ (List.mem_append_left _ (List.mem_append_right _ h))))))) (by decide +kernel))
set_option maxRecDepth 20000 in
theorem gL_refused_L_fileTall : GoodIn wsL_refused (va_wsS RL 177 yL_fileTall wsL_fileTall) := goodIn_app (goodIn_of _ (by decide +kernel)) ggL_refused_L_fileTall
set_option maxRecDepth 20000 in
theorem ggL_refused_L_drop : GoodIn wsL_refused wsL_drop := goodIn_ca (goodIn_ca (goodIn_r _ [830, 632, 831, 832, 833, 17, 834, 637, 638, 639, 640, 641, 642, 643, 644, 645, 646, 647, 648, 649, 650, 651, 652, 653, 142, 21, 654, 655, 656, 657, 658, 659, 660, 661, 662, 663, 664, 665, 666, 667, 668, 669, 670, 671, 672, 673, 674, 675, 676, 677, 678, 679, 680, 681, 682, 683, 684, 685, 686, 687, 688, 689, 690, 691, 228, 229, 26, 230, 33, 231, 232, 233, 234, 28, 34, 35, 36, 37, 692, 693, 694, 695, 696, 697, 698, 699, 700, 701, 702, 703, 704, 149, 150, 151, 152, 705, 706, 707, 708, 709, 66, 67, 68, 69, 710, 711, 712, 713, 714, 715, 716, 717, 718, 75, 76, 77, 78, 719, 720, 721, 189, 722, 723, 191, 724, 383, 63, 384, 725, 726, 727, 728, 729, 730, 731, 732, 733, 734, 386, 387, 388, 157, 735, 736, 737, 161, 738, 163, 168, 173, 739, 740, 741, 742, 743, 744, 745, 746, 747, 154, 155, 156, 748, 749, 750, 751, 752, 753, 754, 755, 623, 624, 625, 626, 627, 628, 756, 757, 758, 759, 760, 761, 30, 31, 32, 148, 65, 762, 763, 764, 765, 766, 767, 768, 769, 770, 771, 24, 25, 27, 772, 773, 774, 775, 776, 777, 778, 779, 780, 781, 782, 308, 309, 310, 87, 88, 89, 90, 783, 784, 785, 786, 787, 788, 789, 790, 791, 1082, 1083, 1084, 1085, 1086, 1087, 1088, 1089, 1090, 1091, 1092, 1127, 1128, 1129, 1130, 1131, 1132, 1133, 1134, 1135, 1093, 1094, 1095, 1096, 1097, 1098, 1108, 1109, 1110, 1105, 1106, 1107] (by decide +kernel) (by decide +kernel)) (goodIn_sub (fun _ h => List.mem_cons_of_mem _ (List.mem_append_left _ (List.mem_append_right _ h))) (by decide +kernel))) (goodIn_sub (fun _ h => List.mem_cons_of_mem _ (List.mem_append_left _ (List.mem_append_left _ (List.mem_append_left _ (List.mem_append_left _ (List.mem_append_left _ (List.mem_append_right _ h))))))) (by decide +kernel))
set_option maxRecDepth 20000 in
theorem gL_refused_L_drop : GoodIn wsL_refused (va_wsS RL 249 yL_drop wsL_drop) := goodIn_app (goodIn_of _ (by decide +kernel)) ggL_refused_L_drop
set_option maxRecDepth 20000 in
theorem ggL_refused_L_raise : GoodIn wsL_refused wsL_raise := goodIn_ca (goodIn_ca (goodIn_r _ [837, 632, 838, 839, 840, 17, 841, 637, 638, 639, 640, 641, 642, 643, 644, 645, 646, 647, 648, 649, 650, 651, 652, 653, 142, 21, 654, 655, 656, 657, 658, 659, 660, 661, 662, 663, 664, 665, 666, 667, 668, 669, 670, 671, 672, 673, 674, 675, 676, 677, 678, 679, 680, 681, 682, 683, 684, 685, 686, 687, 688, 689, 690, 691, 228, 229, 26, 230, 33, 231, 232, 233, 234, 28, 34, 35, 36, 37, 692, 693, 694, 695, 696, 697, 698, 699, 700, 701, 702, 703, 704, 149, 150, 151, 152, 705, 706, 707, 708, 709, 66, 67, 68, 69, 710, 711, 712, 713, 714, 715, 716, 717, 718, 75, 76, 77, 78, 719, 720, 721, 189, 722, 723, 191, 724, 383, 63, 384, 725, 726, 727, 728, 729, 730, 731, 732, 733, 734, 386, 387, 388, 157, 735, 736, 737, 161, 738, 163, 168, 173, 739, 740, 741, 742, 743, 744, 745, 746, 747, 154, 155, 156, 748, 749, 750, 751, 752, 753, 754, 755, 623, 624, 625, 626, 627, 628, 756, 757, 758, 759, 760, 761, 30, 31, 32, 148, 65, 762, 763, 764, 765, 766, 767, 768, 769, 770, 771, 24, 25, 27, 772, 773, 774, 775, 776, 777, 778, 779, 780, 781, 782, 308, 309, 310, 87, 88, 89, 90, 783, 784, 785, 786, 787, 788, 789, 790, 791, 1082, 1083, 1084, 1085, 1086, 1087, 1088, 1089, 1090, 1091, 1092, 1127, 1128, 1129, 1130, 1131, 1132, 1133, 1134, 1135, 1093, 1094, 1095, 1096, 1097, 1098, 1108, 1109, 1110, 1105, 1106, 1107] (by decide +kernel) (by decide +kernel)) (goodIn_sub (fun _ h => List.mem_cons_of_mem _ (List.mem_append_left _ (List.mem_append_right _ h))) (by decide +kernel))) (goodIn_sub (fun _ h => List.mem_cons_of_mem _ (List.mem_append_left _ (List.mem_append_left _ (List.mem_append_left _ (List.mem_append_left _ (List.mem_append_left _ (List.mem_append_right _ h))))))) (by decide +kernel))
set_option maxRecDepth 20000 in
theorem gL_refused_L_raise : GoodIn wsL_refused (va_wsS RL 251 yL_raise wsL_raise) := goodIn_app (goodIn_of _ (by decide +kernel)) ggL_refused_L_raise
set_option maxRecDepth 20000 in
theorem ggL_refused_L_lower : GoodIn wsL_refused wsL_lower := goodIn_ca (goodIn_ca (goodIn_r _ [844, 632, 845, 846, 847, 17, 848, 637, 638, 639, 640, 641, 642, 643, 644, 645, 646, 647, 648, 649, 650, 651, 652, 653, 142, 21, 654, 655, 656, 657, 658, 659, 660, 661, 662, 663, 664, 665, 666, 667, 668, 669, 670, 671, 672, 673, 674, 675, 676, 677, 678, 679, 680, 681, 682, 683, 684, 685, 686, 687, 688, 689, 690, 691, 228, 229, 26, 230, 33, 231, 232, 233, 234, 28, 34, 35, 36, 37, 692, 693, 694, 695, 696, 697, 698, 699, 700, 701, 702, 703, 704, 149, 150, 151, 152, 705, 706, 707, 708, 709, 66, 67, 68, 69, 710, 711, 712, 713, 714, 715, 716, 717, 718, 75, 76, 77, 78, 719, 720, 721, 189, 722, 723, 191, 724, 383, 63, 384, 725, 726, 727, 728, 729, 730, 731, 732, 733, 734, 386, 387, 388, 157, 735, 736, 737, 161, 738, 163, 168, 173, 739, 740, 741, 742, 743, 744, 745, 746, 747, 154, 155, 156, 748, 749, 750, 751, 752, 753, 754, 755, 623, 624, 625, 626, 627, 628, 756, 757, 758, 759, 760, 761, 30, 31, 32, 148, 65, 762, 763, 764, 765, 766, 767, 768, 769, 770, 771, 24, 25, 27, 772, 773, 774, 775, 776, 777, 778, 779, 780, 781, 782, 308, 309, 310, 87, 88, 89, 90, 783, 784, 785, 786, 787, 788, 789, 790, 791, 1082, 1083, 1084, 1085, 1086, 1087, 1088, 1089, 1090, 1091, 1092, 1127, 1128, 1129, 1130, 1131, 1132, 1133, 1134, 1135, 1093, 1094, 1095, 1096, 1097, 1098, 1108, 1109, 1110, 1105, 1106, 1107] (by decide +kernel) (by decide +kernel)) (goodIn_sub (fun _ h => List.mem_cons_of_mem _ (List.mem_append_left _ (List.mem_append_right _ h))) (by decide +kernel))) (goodIn_sub (fun _ h => List.mem_cons_of_mem _ (List.mem_append_left _ (List.mem_append_left _ (List.mem_append_left _ (List.mem_append_left _ (List.mem_append_left _ (List.mem_append_right _ h))))))) (by decide +kernel))
set_option maxRecDepth 20000 in
theorem gL_refused_L_lower : GoodIn wsL_refused (va_wsS RL 253 yL_lower wsL_lower) := goodIn_app (goodIn_of _ (by decide +kernel)) ggL_refused_L_lower
set_option maxRecDepth 20000 in
theorem ggL_refused_L_forget : GoodIn wsL_refused wsL_forget := goodIn_ca (goodIn_ca (goodIn_r _ [851, 632, 852, 853, 854, 17, 855, 637, 638, 639, 640, 641, 642, 643, 644, 645, 646, 647, 648, 649, 650, 651, 652, 653, 142, 21, 654, 655, 656, 657, 658, 659, 660, 661, 662, 663, 664, 665, 666, 667, 668, 669, 670, 671, 672, 673, 674, 675, 676, 677, 678, 679, 680, 681, 682, 683, 684, 685, 686, 687, 688, 689, 690, 691, 228, 229, 26, 230, 33, 231, 232, 233, 234, 28, 34, 35, 36, 37, 692, 693, 694, 695, 696, 697, 698, 699, 700, 701, 702, 703, 704, 149, 150, 151, 152, 705, 706, 707, 708, 709, 66, 67, 68, 69, 710, 711, 712, 713, 714, 715, 716, 717, 718, 75, 76, 77, 78, 719, 720, 721, 189, 722, 723, 191, 724, 383, 63, 384, 725, 726, 727, 728, 729, 730, 731, 732, 733, 734, 386, 387, 388, 157, 735, 736, 737, 161, 738, 163, 168, 173, 739, 740, 741, 742, 743, 744, 745, 746, 747, 154, 155, 156, 748, 749, 750, 751, 752, 753, 754, 755, 623, 624, 625, 626, 627, 628, 756, 757, 758, 759, 760, 761, 30, 31, 32, 148, 65, 762, 763, 764, 765, 766, 767, 768, 769, 770, 771, 24, 25, 27, 772, 773, 774, 775, 776, 777, 778, 779, 780, 781, 782, 308, 309, 310, 87, 88, 89, 90, 783, 784, 785, 786, 787, 788, 789, 790, 791, 1082, 1083, 1084, 1085, 1086, 1087, 1088, 1089, 1090, 1091, 1092, 1127, 1128, 1129, 1130, 1131, 1132, 1133, 1134, 1135, 1093, 1094, 1095, 1096, 1097, 1098, 1108, 1109, 1110, 1105, 1106, 1107] (by decide +kernel) (by decide +kernel)) (goodIn_sub (fun _ h => List.mem_cons_of_mem _ (List.mem_append_left _ (List.mem_append_right _ h))) (by decide +kernel))) (goodIn_sub (fun _ h => List.mem_cons_of_mem _ (List.mem_append_left _ (List.mem_append_left _ (List.mem_append_left _ (List.mem_append_left _ (List.mem_append_left _ (List.mem_append_right _ h))))))) (by decide +kernel))
set_option maxRecDepth 20000 in
theorem gL_refused_L_forget : GoodIn wsL_refused (va_wsS RL 183 yL_forget wsL_forget) := goodIn_app (goodIn_of _ (by decide +kernel)) ggL_refused_L_forget
set_option maxRecDepth 20000 in
theorem ggL_refused_L_recall : GoodIn wsL_refused wsL_recall := goodIn_ca (goodIn_ca (goodIn_r _ [858, 632, 859, 860, 861, 17, 862, 637, 638, 639, 640, 641, 642, 643, 644, 645, 646, 647, 648, 649, 650, 651, 652, 653, 142, 21, 654, 655, 656, 657, 658, 659, 660, 661, 662, 663, 664, 665, 666, 667, 668, 669, 670, 671, 672, 673, 674, 675, 676, 677, 678, 679, 680, 681, 682, 683, 684, 685, 686, 687, 688, 689, 690, 691, 228, 229, 26, 230, 33, 231, 232, 233, 234, 28, 34, 35, 36, 37, 692, 693, 694, 695, 696, 697, 698, 699, 700, 701, 702, 703, 704, 149, 150, 151, 152, 705, 706, 707, 708, 709, 66, 67, 68, 69, 710, 711, 712, 713, 714, 715, 716, 717, 718, 75, 76, 77, 78, 719, 720, 721, 189, 722, 723, 191, 724, 383, 63, 384, 725, 726, 727, 728, 729, 730, 731, 732, 733, 734, 386, 387, 388, 157, 735, 736, 737, 161, 738, 163, 168, 173, 739, 740, 741, 742, 743, 744, 745, 746, 747, 154, 155, 156, 748, 749, 750, 751, 752, 753, 754, 755, 623, 624, 625, 626, 627, 628, 756, 757, 758, 759, 760, 761, 30, 31, 32, 148, 65, 762, 763, 764, 765, 766, 767, 768, 769, 770, 771, 24, 25, 27, 772, 773, 774, 775, 776, 777, 778, 779, 780, 781, 782, 308, 309, 310, 87, 88, 89, 90, 783, 784, 785, 786, 787, 788, 789, 790, 791, 1082, 1083, 1084, 1085, 1086, 1087, 1088, 1089, 1090, 1091, 1092, 1127, 1128, 1129, 1130, 1131, 1132, 1133, 1134, 1135, 1093, 1094, 1095, 1096, 1097, 1098, 1108, 1109, 1110, 1105, 1106, 1107] (by decide +kernel) (by decide +kernel)) (goodIn_sub (fun _ h => List.mem_cons_of_mem _ (List.mem_append_left _ (List.mem_append_right _ h))) (by decide +kernel))) (goodIn_sub (fun _ h => List.mem_cons_of_mem _ (List.mem_append_left _ (List.mem_append_left _ (List.mem_append_left _ (List.mem_append_left _ (List.mem_append_left _ (List.mem_append_right _ h))))))) (by decide +kernel))
set_option maxRecDepth 20000 in
theorem gL_refused_L_recall : GoodIn wsL_refused (va_wsS RL 255 yL_recall wsL_recall) := goodIn_app (goodIn_of _ (by decide +kernel)) ggL_refused_L_recall
set_option maxRecDepth 20000 in
theorem ggL_refused_L_weigh : GoodIn wsL_refused wsL_weigh := goodIn_ca (goodIn_ca (goodIn_r _ [865, 632, 866, 867, 868, 17, 869, 637, 638, 639, 640, 641, 642, 643, 644, 645, 646, 647, 648, 649, 650, 651, 652, 653, 142, 21, 654, 655, 656, 657, 658, 659, 660, 661, 662, 663, 664, 665, 666, 667, 668, 669, 670, 671, 672, 673, 674, 675, 676, 677, 678, 679, 680, 681, 682, 683, 684, 685, 686, 687, 688, 689, 690, 691, 228, 229, 26, 230, 33, 231, 232, 233, 234, 28, 34, 35, 36, 37, 692, 693, 694, 695, 696, 697, 698, 699, 700, 701, 702, 703, 704, 149, 150, 151, 152, 705, 706, 707, 708, 709, 66, 67, 68, 69, 710, 711, 712, 713, 714, 715, 716, 717, 718, 75, 76, 77, 78, 719, 720, 721, 189, 722, 723, 191, 724, 383, 63, 384, 725, 726, 727, 728, 729, 730, 731, 732, 733, 734, 386, 387, 388, 157, 735, 736, 737, 161, 738, 163, 168, 173, 739, 740, 741, 742, 743, 744, 745, 746, 747, 154, 155, 156, 748, 749, 750, 751, 752, 753, 754, 755, 623, 624, 625, 626, 627, 628, 756, 757, 758, 759, 760, 761, 30, 31, 32, 148, 65, 762, 763, 764, 765, 766, 767, 768, 769, 770, 771, 24, 25, 27, 772, 773, 774, 775, 776, 777, 778, 779, 780, 781, 782, 308, 309, 310, 87, 88, 89, 90, 783, 784, 785, 786, 787, 788, 789, 790, 791, 1082, 1083, 1084, 1085, 1086, 1087, 1088, 1089, 1090, 1091, 1092, 1127, 1128, 1129, 1130, 1131, 1132, 1133, 1134, 1135, 1093, 1094, 1095, 1096, 1097, 1098, 1108, 1109, 1110, 1105, 1106, 1107] (by decide +kernel) (by decide +kernel)) (goodIn_sub (fun _ h => List.mem_cons_of_mem _ (List.mem_append_left _ (List.mem_append_right _ h))) (by decide +kernel))) (goodIn_sub (fun _ h => List.mem_cons_of_mem _ (List.mem_append_left _ (List.mem_append_left _ (List.mem_append_left _ (List.mem_append_left _ (List.mem_append_left _ (List.mem_append_right _ h))))))) (by decide +kernel))
set_option maxRecDepth 20000 in
theorem gL_refused_L_weigh : GoodIn wsL_refused (va_wsS RL 257 yL_weigh wsL_weigh) := goodIn_app (goodIn_of _ (by decide +kernel)) ggL_refused_L_weigh
set_option maxRecDepth 20000 in
theorem ggL_refused_L_folderOf : GoodIn wsL_refused wsL_folderOf := goodIn_ca (goodIn_ca (goodIn_ca (goodIn_r _ [215, 135, 201, 216, 217, 218, 17, 219, 140, 141, 21, 22, 220, 221, 222, 223, 224, 225, 226, 210, 211, 227, 228, 229, 26, 230, 33, 231, 232, 233, 234, 28, 34, 35, 36, 37, 235, 149, 150, 151, 152, 236, 66, 67, 68, 69, 38, 39, 40, 41, 42, 43, 44, 45, 46, 47, 48, 49, 50, 51, 52, 53, 54, 55, 56, 57, 58, 59, 60, 61, 62, 63, 64, 65, 70, 71, 72, 73, 74, 75, 76, 77, 78, 79, 80, 81, 82, 83, 84, 85, 86, 87, 88, 89, 90, 91, 92, 93, 94, 95, 1082, 1083, 1084, 1085, 1086, 1087, 1088, 1089, 1090, 1091, 1092, 1093, 1094, 1095, 1096, 1097, 1098, 1099, 1100, 1101, 1102, 1103, 1104] (by decide +kernel) (by decide +kernel)) (goodIn_sub (fun _ h => List.mem_cons_of_mem _ (List.mem_append_left _ (List.mem_append_left _ (List.mem_append_left _ (List.mem_append_left _ (List.mem_append_right _ h)))))) (by decide +kernel))) (goodIn_sub (fun _ h => List.mem_cons_of_mem _ (List.mem_append_left _ (List.mem_append_left _ (List.mem_append_left _ (List.mem_append_right _ h))))) (by decide +kernel))) (goodIn_sub (fun _ h => List.mem_cons_of_mem _ (List.mem_append_left _ (List.mem_append_left _ (List.mem_append_left _ (List.mem_append_left _ (List.mem_append_left _ (List.mem_append_right _ h))))))) (by decide +kernel))
set_option maxRecDepth 20000 in
theorem gL_refused_L_folderOf : GoodIn wsL_refused (va_wsS RL 209 yL_folderOf wsL_folderOf) := goodIn_app (goodIn_of _ (by decide +kernel)) ggL_refused_L_folderOf
set_option maxRecDepth 20000 in
theorem ggL_refused_L_rank : GoodIn wsL_refused wsL_rank := goodIn_ca (goodIn_ca (goodIn_r _ [539, 135, 540, 541, 542, 17, 543, 22, 220, 221, 222, 140, 141, 544, 545, 546, 41, 547, 52, 45, 46, 47, 48, 49, 50, 51, 43, 44, 53, 54, 55, 26, 56, 57, 58, 59, 60, 28, 61, 62, 63, 64, 65, 66, 67, 68, 69, 34, 35, 36, 37, 70, 71, 72, 73, 74, 75, 76, 77, 78, 79, 80, 81, 82, 83, 84, 85, 86, 87, 88, 89, 90, 91, 92, 93, 94, 33, 95, 1082, 1083, 1084, 1085, 1086, 1087, 1088, 1089, 1090, 1091, 1092, 1099, 1100, 1101, 1102, 1103, 1104, 1093, 1094, 1095, 1096, 1097, 1098] (by decide +kernel) (by decide +kernel)) (goodIn_sub (fun _ h => List.mem_cons_of_mem _ (List.mem_append_left _ (List.mem_append_left _ (List.mem_append_left _ (List.mem_append_left _ (List.mem_append_right _ h)))))) (by decide +kernel))) (goodIn_sub (fun _ h => List.mem_cons_of_mem _ (List.mem_append_left _ (List.mem_append_left _ (List.mem_append_left _ (List.mem_append_left _ (List.mem_append_left _ (List.mem_append_right _ h))))))) (by decide +kernel))
set_option maxRecDepth 20000 in
theorem gL_refused_L_rank : GoodIn wsL_refused (va_wsS RL 226 yL_rank wsL_rank) := goodIn_app (goodIn_of _ (by decide +kernel)) ggL_refused_L_rank
set_option maxRecDepth 20000 in
theorem ggL_refused_L_rankAgain : GoodIn wsL_refused wsL_rankAgain := goodIn_ca (goodIn_ca (goodIn_r _ [550, 135, 551, 552, 553, 17, 554, 21, 220, 221, 222, 140, 141, 555, 232, 233, 26, 234, 28, 33, 1082, 1083, 1084, 1085, 1086, 1087, 1088, 1089, 1090, 1091, 1092, 1093, 1094, 1095, 1096, 1097, 1098] (by decide +kernel) (by decide +kernel)) (goodIn_sub (fun _ h => List.mem_cons_of_mem _ (List.mem_append_left _ (List.mem_append_left _ (List.mem_append_left _ (List.mem_append_left _ (List.mem_append_right _ h)))))) (by decide +kernel))) (goodIn_sub (fun _ h => List.mem_cons_of_mem _ (List.mem_append_left _ (List.mem_append_left _ (List.mem_append_left _ (List.mem_append_left _ (List.mem_append_left _ (List.mem_append_right _ h))))))) (by decide +kernel))
set_option maxRecDepth 20000 in
theorem gL_refused_L_rankAgain : GoodIn wsL_refused (va_wsS RL 228 yL_rankAgain wsL_rankAgain) := goodIn_app (goodIn_of _ (by decide +kernel)) ggL_refused_L_rankAgain
set_option maxRecDepth 20000 in
theorem ggL_refused_L_steps : GoodIn wsL_refused wsL_steps := goodIn_ca (goodIn_ca (goodIn_r _ [572, 135, 573, 574, 575, 17, 576, 22, 220, 221, 222, 140, 141, 38, 39, 40, 41, 42, 43, 44, 45, 46, 47, 48, 49, 50, 51, 52, 53, 54, 55, 26, 56, 57, 58, 59, 60, 28, 61, 62, 63, 64, 65, 66, 67, 68, 69, 34, 35, 36, 37, 70, 71, 72, 73, 74, 75, 76, 77, 78, 79, 80, 81, 82, 83, 84, 85, 86, 87, 88, 89, 90, 91, 92, 93, 94, 33, 95, 1082, 1083, 1084, 1085, 1086, 1087, 1088, 1089, 1090, 1091, 1092, 1099, 1100, 1101, 1102, 1103, 1104, 1093, 1094, 1095, 1096, 1097, 1098] (by decide +kernel) (by decide +kernel)) (goodIn_sub (fun _ h => List.mem_cons_of_mem _ (List.mem_append_left _ (List.mem_append_left _ (List.mem_append_left _ (List.mem_append_left _ (List.mem_append_right _ h)))))) (by decide +kernel))) (goodIn_sub (fun _ h => List.mem_cons_of_mem _ (List.mem_append_left _ (List.mem_append_left _ (List.mem_append_left _ (List.mem_append_left _ (List.mem_append_left _ (List.mem_append_right _ h))))))) (by decide +kernel))
set_option maxRecDepth 20000 in
theorem gL_refused_L_steps : GoodIn wsL_refused (va_wsS RL 234 yL_steps wsL_steps) := goodIn_app (goodIn_of _ (by decide +kernel)) ggL_refused_L_steps
set_option maxRecDepth 20000 in
theorem ggL_refused_L_stepsAgain : GoodIn wsL_refused wsL_stepsAgain := goodIn_ca (goodIn_ca (goodIn_r _ [239, 135, 240, 241, 242, 17, 243, 22, 220, 221, 222, 140, 141, 244, 245, 246, 41, 247, 50, 53, 54, 55, 26, 56, 57, 58, 59, 60, 28, 61, 62, 63, 64, 65, 66, 67, 68, 69, 34, 35, 36, 37, 70, 71, 72, 73, 74, 75, 76, 77, 78, 248, 232, 233, 234, 33, 249, 250, 251, 252, 253, 88, 89, 90, 254, 255, 256, 257, 87, 1082, 1083, 1084, 1085, 1086, 1087, 1088, 1089, 1090, 1091, 1092, 1099, 1100, 1101, 1102, 1103, 1104, 1093, 1094, 1095, 1096, 1097, 1098] (by decide +kernel) (by decide +kernel)) (goodIn_sub (fun _ h => List.mem_cons_of_mem _ (List.mem_append_left _ (List.mem_append_left _ (List.mem_append_left _ (List.mem_append_left _ (List.mem_append_right _ h)))))) (by decide +kernel))) (goodIn_sub (fun _ h => List.mem_cons_of_mem _ (List.mem_append_left _ (List.mem_append_left _ (List.mem_append_left _ (List.mem_append_left _ (List.mem_append_left _ (List.mem_append_right _ h))))))) (by decide +kernel))
set_option maxRecDepth 20000 in
theorem gL_refused_L_stepsAgain : GoodIn wsL_refused (va_wsS RL 211 yL_stepsAgain wsL_stepsAgain) := goodIn_app (goodIn_of _ (by decide +kernel)) ggL_refused_L_stepsAgain
set_option maxRecDepth 20000 in
theorem ggL_refused_L_placeOf : GoodIn wsL_refused wsL_placeOf := goodIn_ca (goodIn_ca (goodIn_ca (goodIn_r _ [271, 135, 201, 272, 273, 274, 17, 275, 210, 211, 22, 21, 220, 221, 222, 140, 141, 276, 46, 47, 41, 48, 49, 50, 51, 43, 44, 52, 53, 54, 55, 26, 56, 57, 58, 59, 60, 28, 61, 62, 63, 64, 65, 66, 67, 68, 69, 34, 35, 36, 37, 70, 71, 72, 73, 74, 75, 76, 77, 78, 79, 80, 81, 82, 83, 84, 85, 86, 87, 88, 89, 90, 91, 92, 93, 94, 33, 95, 277, 278, 279, 280, 29, 30, 31, 32, 1082, 1083, 1084, 1085, 1086, 1087, 1088, 1089, 1090, 1091, 1092, 1099, 1100, 1101, 1102, 1103, 1104, 1093, 1094, 1095, 1096, 1097, 1098] (by decide +kernel) (by decide +kernel)) (goodIn_sub (fun _ h => List.mem_cons_of_mem _ (List.mem_append_left _ (List.mem_append_left _ (List.mem_append_left _ (List.mem_append_right _ h))))) (by decide +kernel))) (goodIn_sub (fun _ h => List.mem_cons_of_mem _ (List.mem_append_left _ (List.mem_append_left _ (List.mem_append_left _ (List.mem_append_left _ (List.mem_append_right _ h)))))) (by decide +kernel))) (goodIn_sub (fun _ h => List.mem_cons_of_mem _ (List.mem_append_left _ (List.mem_append_left _ (List.mem_append_left _ (List.mem_append_left _ (List.mem_append_left _ (List.mem_append_right _ h))))))) (by decide +kernel))
set_option maxRecDepth 20000 in
theorem gL_refused_L_placeOf : GoodIn wsL_refused (va_wsS RL 215 yL_placeOf wsL_placeOf) := goodIn_app (goodIn_of _ (by decide +kernel)) ggL_refused_L_placeOf
set_option maxRecDepth 20000 in
theorem ggL_refused_L_falls : GoodIn wsL_refused wsL_falls := goodIn_ca (goodIn_ca (goodIn_r _ [260, 135, 261, 262, 263, 17, 264, 22, 220, 221, 222, 140, 141, 265, 266, 267, 41, 268, 44, 45, 46, 47, 48, 49, 50, 51, 43, 52, 53, 54, 55, 26, 56, 57, 58, 59, 60, 28, 61, 62, 63, 64, 65, 66, 67, 68, 69, 34, 35, 36, 37, 70, 71, 72, 73, 74, 75, 76, 77, 78, 79, 80, 81, 82, 83, 84, 85, 86, 87, 88, 89, 90, 91, 92, 93, 94, 33, 95, 1082, 1083, 1084, 1085, 1086, 1087, 1088, 1089, 1090, 1091, 1092, 1099, 1100, 1101, 1102, 1103, 1104, 1093, 1094, 1095, 1096, 1097, 1098] (by decide +kernel) (by decide +kernel)) (goodIn_sub (fun _ h => List.mem_cons_of_mem _ (List.mem_append_left _ (List.mem_append_left _ (List.mem_append_left _ (List.mem_append_left _ (List.mem_append_right _ h)))))) (by decide +kernel))) (goodIn_sub (fun _ h => List.mem_cons_of_mem _ (List.mem_append_left _ (List.mem_append_left _ (List.mem_append_left _ (List.mem_append_left _ (List.mem_append_left _ (List.mem_append_right _ h))))))) (by decide +kernel))
set_option maxRecDepth 20000 in
theorem gL_refused_L_falls : GoodIn wsL_refused (va_wsS RL 213 yL_falls wsL_falls) := goodIn_app (goodIn_of _ (by decide +kernel)) ggL_refused_L_falls
set_option maxRecDepth 20000 in
theorem ggL_refused_L_floor : GoodIn wsL_refused wsL_floor := goodIn_ca (goodIn_ca (goodIn_ca (goodIn_r _ [558, 135, 201, 559, 560, 561, 17, 562, 21, 220, 221, 222, 140, 141, 555, 232, 233, 26, 234, 28, 33, 206, 207, 208, 209, 210, 211, 212, 35, 36, 37, 29, 30, 31, 32, 34, 1082, 1083, 1084, 1085, 1086, 1087, 1088, 1089, 1090, 1091, 1092, 1093, 1094, 1095, 1096, 1097, 1098] (by decide +kernel) (by decide +kernel)) (goodIn_sub (fun _ h => List.mem_cons_of_mem _ (List.mem_append_left _ (List.mem_append_left _ (List.mem_append_left _ (List.mem_append_left _ (List.mem_append_right _ h)))))) (by decide +kernel))) (goodIn_sub (fun _ h => List.mem_cons_of_mem _ (List.mem_append_left _ (List.mem_append_left _ (List.mem_append_left _ (List.mem_append_left _ (List.mem_append_left _ (List.mem_append_right _ h))))))) (by decide +kernel))) (goodIn_sub (fun _ h => List.mem_cons_of_mem _ (List.mem_append_left _ (List.mem_append_left _ (List.mem_append_left _ (List.mem_append_right _ h))))) (by decide +kernel))
set_option maxRecDepth 20000 in
theorem gL_refused_L_floor : GoodIn wsL_refused (va_wsS RL 230 yL_floor wsL_floor) := goodIn_app (goodIn_of _ (by decide +kernel)) ggL_refused_L_floor
set_option maxRecDepth 20000 in
theorem ggL_refused_L_ceiling : GoodIn wsL_refused wsL_ceiling := goodIn_ca (goodIn_ca (goodIn_ca (goodIn_r _ [565, 135, 201, 566, 567, 568, 17, 569, 21, 220, 221, 222, 140, 141, 555, 232, 233, 26, 234, 28, 33, 206, 207, 208, 209, 210, 211, 212, 35, 36, 37, 29, 30, 31, 32, 34, 1082, 1083, 1084, 1085, 1086, 1087, 1088, 1089, 1090, 1091, 1092, 1093, 1094, 1095, 1096, 1097, 1098] (by decide +kernel) (by decide +kernel)) (goodIn_sub (fun _ h => List.mem_cons_of_mem _ (List.mem_append_left _ (List.mem_append_left _ (List.mem_append_left _ (List.mem_append_left _ (List.mem_append_right _ h)))))) (by decide +kernel))) (goodIn_sub (fun _ h => List.mem_cons_of_mem _ (List.mem_append_left _ (List.mem_append_left _ (List.mem_append_left _ (List.mem_append_left _ (List.mem_append_left _ (List.mem_append_right _ h))))))) (by decide +kernel))) (goodIn_sub (fun _ h => List.mem_cons_of_mem _ (List.mem_append_left _ (List.mem_append_left _ (List.mem_append_left _ (List.mem_append_right _ h))))) (by decide +kernel))
set_option maxRecDepth 20000 in
theorem gL_refused_L_ceiling : GoodIn wsL_refused (va_wsS RL 232 yL_ceiling wsL_ceiling) := goodIn_app (goodIn_of _ (by decide +kernel)) ggL_refused_L_ceiling
set_option maxRecDepth 20000 in
theorem ggL_refused_L_count : GoodIn wsL_refused wsL_count := goodIn_ca (goodIn_ca (goodIn_r _ [579, 135, 580, 581, 582, 17, 583, 22, 584, 585, 586, 140, 141, 220, 221, 222, 544, 545, 546, 41, 547, 52, 45, 46, 47, 48, 49, 50, 51, 43, 44, 53, 54, 55, 26, 56, 57, 58, 59, 60, 28, 61, 62, 63, 64, 65, 66, 67, 68, 69, 34, 35, 36, 37, 70, 71, 72, 73, 74, 75, 76, 77, 78, 79, 80, 81, 82, 83, 84, 85, 86, 87, 88, 89, 90, 91, 92, 93, 94, 33, 95, 1082, 1083, 1084, 1085, 1086, 1087, 1088, 1089, 1090, 1091, 1092, 1099, 1100, 1101, 1102, 1103, 1104, 1093, 1094, 1095, 1096, 1097, 1098] (by decide +kernel) (by decide +kernel)) (goodIn_sub (fun _ h => List.mem_cons_of_mem _ (List.mem_append_left _ (List.mem_append_left _ (List.mem_append_left _ (List.mem_append_left _ (List.mem_append_right _ h)))))) (by decide +kernel))) (goodIn_sub (fun _ h => List.mem_cons_of_mem _ (List.mem_append_left _ (List.mem_append_left _ (List.mem_append_left _ (List.mem_append_left _ (List.mem_append_left _ (List.mem_append_right _ h))))))) (by decide +kernel))
set_option maxRecDepth 20000 in
theorem gL_refused_L_count : GoodIn wsL_refused (va_wsS RL 236 yL_count wsL_count) := goodIn_app (goodIn_of _ (by decide +kernel)) ggL_refused_L_count
set_option maxRecDepth 20000 in
theorem ggL_refused_L_countAgain : GoodIn wsL_refused wsL_countAgain := goodIn_ca (goodIn_ca (goodIn_r _ [589, 135, 590, 591, 592, 17, 593, 21, 584, 585, 586, 140, 141, 220, 221, 222, 555, 232, 233, 26, 234, 28, 33, 23, 24, 25, 27, 29, 30, 31, 32, 34, 35, 36, 37, 1082, 1083, 1084, 1085, 1086, 1087, 1088, 1089, 1090, 1091, 1092, 1093, 1094, 1095, 1096, 1097, 1098] (by decide +kernel) (by decide +kernel)) (goodIn_sub (fun _ h => List.mem_cons_of_mem _ (List.mem_append_left _ (List.mem_append_left _ (List.mem_append_left _ (List.mem_append_left _ (List.mem_append_right _ h)))))) (by decide +kernel))) (goodIn_sub (fun _ h => List.mem_cons_of_mem _ (List.mem_append_left _ (List.mem_append_left _ (List.mem_append_left _ (List.mem_append_left _ (List.mem_append_left _ (List.mem_append_right _ h))))))) (by decide +kernel))
set_option maxRecDepth 20000 in
theorem gL_refused_L_countAgain : GoodIn wsL_refused (va_wsS RL 238 yL_countAgain wsL_countAgain) := goodIn_app (goodIn_of _ (by decide +kernel)) ggL_refused_L_countAgain
set_option maxRecDepth 20000 in
theorem ggL_refused_L_weightIn : GoodIn wsL_refused wsL_weightIn := goodIn_ca (goodIn_ca (goodIn_r _ [596, 135, 597, 598, 599, 17, 600, 21, 584, 585, 586, 140, 141, 220, 221, 222, 555, 232, 233, 26, 234, 28, 33, 23, 24, 25, 27, 29, 30, 31, 32, 34, 35, 36, 37, 235, 149, 150, 151, 152, 1082, 1083, 1084, 1085, 1086, 1087, 1088, 1089, 1090, 1091, 1092, 1093, 1094, 1095, 1096, 1097, 1098] (by decide +kernel) (by decide +kernel)) (goodIn_sub (fun _ h => List.mem_cons_of_mem _ (List.mem_append_left _ (List.mem_append_left _ (List.mem_append_left _ (List.mem_append_left _ (List.mem_append_right _ h)))))) (by decide +kernel))) (goodIn_sub (fun _ h => List.mem_cons_of_mem _ (List.mem_append_left _ (List.mem_append_left _ (List.mem_append_left _ (List.mem_append_left _ (List.mem_append_left _ (List.mem_append_right _ h))))))) (by decide +kernel))
set_option maxRecDepth 20000 in
theorem gL_refused_L_weightIn : GoodIn wsL_refused (va_wsS RL 240 yL_weightIn wsL_weightIn) := goodIn_app (goodIn_of _ (by decide +kernel)) ggL_refused_L_weightIn
set_option maxRecDepth 20000 in
theorem ggL_refused_L_heaviestIn : GoodIn wsL_refused wsL_heaviestIn := goodIn_ca (goodIn_ca (goodIn_ca (goodIn_r _ [603, 135, 201, 604, 605, 606, 17, 607, 21, 584, 585, 586, 140, 141, 220, 221, 222, 555, 232, 233, 26, 234, 28, 33, 23, 24, 25, 27, 29, 30, 31, 32, 34, 35, 36, 37, 235, 149, 150, 151, 152, 206, 207, 208, 209, 210, 211, 212, 1082, 1083, 1084, 1085, 1086, 1087, 1088, 1089, 1090, 1091, 1092, 1093, 1094, 1095, 1096, 1097, 1098] (by decide +kernel) (by decide +kernel)) (goodIn_sub (fun _ h => List.mem_cons_of_mem _ (List.mem_append_left _ (List.mem_append_left _ (List.mem_append_left _ (List.mem_append_left _ (List.mem_append_right _ h)))))) (by decide +kernel))) (goodIn_sub (fun _ h => List.mem_cons_of_mem _ (List.mem_append_left _ (List.mem_append_left _ (List.mem_append_left _ (List.mem_append_left _ (List.mem_append_left _ (List.mem_append_right _ h))))))) (by decide +kernel))) (goodIn_sub (fun _ h => List.mem_cons_of_mem _ (List.mem_append_left _ (List.mem_append_left _ (List.mem_append_left _ (List.mem_append_right _ h))))) (by decide +kernel))
set_option maxRecDepth 20000 in
theorem gL_refused_L_heaviestIn : GoodIn wsL_refused (va_wsS RL 242 yL_heaviestIn wsL_heaviestIn) := goodIn_app (goodIn_of _ (by decide +kernel)) ggL_refused_L_heaviestIn
set_option maxRecDepth 20000 in
theorem ggL_refused_L_levelSize : GoodIn wsL_refused wsL_levelSize := goodIn_ca (goodIn_ca (goodIn_r _ [302, 284, 303, 304, 305, 17, 306, 21, 289, 290, 291, 292, 293, 307, 308, 309, 26, 310, 28, 87, 88, 89, 90, 69, 34, 35, 36, 37, 1082, 1083, 1084, 1085, 1086, 1087, 1088, 1089, 1090, 1091, 1092, 1093, 1094, 1095, 1096, 1097, 1098] (by decide +kernel) (by decide +kernel)) (goodIn_sub (fun _ h => List.mem_cons_of_mem _ (List.mem_append_left _ (List.mem_append_left _ (List.mem_append_right _ h)))) (by decide +kernel))) (goodIn_sub (fun _ h => List.mem_cons_of_mem _ (List.mem_append_left _ (List.mem_append_left _ (List.mem_append_left _ (List.mem_append_left _ (List.mem_append_left _ (List.mem_append_right _ h))))))) (by decide +kernel))
set_option maxRecDepth 20000 in
theorem gL_refused_L_levelSize : GoodIn wsL_refused (va_wsS RL 219 yL_levelSize wsL_levelSize) := goodIn_app (goodIn_of _ (by decide +kernel)) ggL_refused_L_levelSize
set_option maxRecDepth 20000 in
theorem ggL_refused_L_levelAt : GoodIn wsL_refused wsL_levelAt := goodIn_ca (goodIn_ca (goodIn_ca (goodIn_r _ [872, 284, 201, 873, 874, 875, 17, 876, 210, 211, 21, 289, 290, 291, 292, 293, 307, 308, 309, 26, 310, 28, 87, 88, 89, 90, 69, 34, 35, 36, 37, 877, 84, 85, 86, 29, 30, 31, 32, 33, 1082, 1083, 1084, 1085, 1086, 1087, 1088, 1089, 1090, 1091, 1092, 1093, 1094, 1095, 1096, 1097, 1098] (by decide +kernel) (by decide +kernel)) (goodIn_sub (fun _ h => List.mem_cons_of_mem _ (List.mem_append_left _ (List.mem_append_left _ (List.mem_append_left _ (List.mem_append_right _ h))))) (by decide +kernel))) (goodIn_sub (fun _ h => List.mem_cons_of_mem _ (List.mem_append_left _ (List.mem_append_left _ (List.mem_append_right _ h)))) (by decide +kernel))) (goodIn_sub (fun _ h => List.mem_cons_of_mem _ (List.mem_append_left _ (List.mem_append_left _ (List.mem_append_left _ (List.mem_append_left _ (List.mem_append_left _ (List.mem_append_right _ h))))))) (by decide +kernel))
set_option maxRecDepth 20000 in
theorem gL_refused_L_levelAt : GoodIn wsL_refused (va_wsS RL 306 yL_levelAt wsL_levelAt) := goodIn_app (goodIn_of _ (by decide +kernel)) ggL_refused_L_levelAt
set_option maxRecDepth 20000 in
theorem ggL_refused_L_span : GoodIn wsL_refused wsL_span := goodIn_ca (goodIn_ca (goodIn_ca (goodIn_ca (goodIn_r _ [283, 284, 135, 201, 285, 286, 287, 17, 288, 210, 211, 21, 289, 290, 291, 292, 293, 220, 221, 222, 140, 141, 223, 224, 225, 226, 227, 228, 229, 26, 230, 33, 231, 232, 233, 234, 28, 34, 35, 36, 37, 294, 88, 89, 90, 69, 295, 296, 297, 298, 299, 84, 85, 86, 87, 1082, 1083, 1084, 1085, 1086, 1087, 1088, 1089, 1090, 1091, 1092, 1093, 1094, 1095, 1096, 1097, 1098] (by decide +kernel) (by decide +kernel)) (goodIn_sub (fun _ h => List.mem_cons_of_mem _ (List.mem_append_left _ (List.mem_append_left _ (List.mem_append_left _ (List.mem_append_right _ h))))) (by decide +kernel))) (goodIn_sub (fun _ h => List.mem_cons_of_mem _ (List.mem_append_left _ (List.mem_append_left _ (List.mem_append_right _ h)))) (by decide +kernel))) (goodIn_sub (fun _ h => List.mem_cons_of_mem _ (List.mem_append_left _ (List.mem_append_left _ (List.mem_append_left _ (List.mem_append_left _ (List.mem_append_right _ h)))))) (by decide +kernel))) (goodIn_sub (fun _ h => List.mem_cons_of_mem _ (List.mem_append_left _ (List.mem_append_left _ (List.mem_append_left _ (List.mem_append_left _ (List.mem_append_left _ (List.mem_append_right _ h))))))) (by decide +kernel))
set_option maxRecDepth 20000 in
theorem gL_refused_L_span : GoodIn wsL_refused (va_wsS RL 217 yL_span wsL_span) := goodIn_app (goodIn_of _ (by decide +kernel)) ggL_refused_L_span
set_option maxRecDepth 20000 in
theorem ggL_refused_L_headSpan : GoodIn wsL_refused wsL_headSpan := goodIn_ca (goodIn_ca (goodIn_r _ [313, 284, 314, 315, 316, 17, 317, 21, 289, 290, 291, 292, 293, 295, 296, 297, 26, 298, 299, 84, 85, 86, 28, 87, 88, 89, 90, 69, 34, 35, 36, 37, 1082, 1083, 1084, 1085, 1086, 1087, 1088, 1089, 1090, 1091, 1092, 1093, 1094, 1095, 1096, 1097, 1098] (by decide +kernel) (by decide +kernel)) (goodIn_sub (fun _ h => List.mem_cons_of_mem _ (List.mem_append_left _ (List.mem_append_left _ (List.mem_append_right _ h)))) (by decide +kernel))) (goodIn_sub (fun _ h => List.mem_cons_of_mem _ (List.mem_append_left _ (List.mem_append_left _ (List.mem_append_left _ (List.mem_append_left _ (List.mem_append_left _ (List.mem_append_right _ h))))))) (by decide +kernel))
set_option maxRecDepth 20000 in
theorem gL_refused_L_headSpan : GoodIn wsL_refused (va_wsS RL 221 yL_headSpan wsL_headSpan) := goodIn_app (goodIn_of _ (by decide +kernel)) ggL_refused_L_headSpan
set_option maxRecDepth 20000 in
theorem ggL_refused_L_forgotten : GoodIn wsL_refused wsL_forgotten := goodIn_ca (goodIn_r _ [320, 284, 321, 322, 323, 17, 324, 21, 289, 290, 291, 292, 293, 325, 75, 76, 26, 77, 78, 1082, 1083, 1084, 1085, 1086, 1087, 1088, 1089, 1090, 1091, 1092, 1093, 1094, 1095, 1096, 1097, 1098] (by decide +kernel) (by decide +kernel)) (goodIn_sub (fun _ h => List.mem_cons_of_mem _ (List.mem_append_left _ (List.mem_append_left _ (List.mem_append_right _ h)))) (by decide +kernel))
set_option maxRecDepth 20000 in
theorem gL_refused_L_forgotten : GoodIn wsL_refused (va_wsS RL 223 yL_forgotten wsL_forgotten) := goodIn_app (goodIn_of _ (by decide +kernel)) ggL_refused_L_forgotten
set_option maxRecDepth 20000 in
theorem ggL_refused_L_reason : GoodIn wsL_refused wsL_reason := goodIn_ca (goodIn_ca (goodIn_r _ [800, 135, 201, 801, 802, 803, 17, 804, 140, 141, 210, 211, 653, 805, 806, 807, 657, 808, 660, 809, 810, 811, 812, 813, 814, 815, 816, 661, 817, 818, 819, 820, 662, 1082, 1083, 1084, 1085, 1086, 1087, 1088, 1089, 1090, 1091, 1092, 1131, 1132, 1133, 1134, 1135] (by decide +kernel) (by decide +kernel)) (goodIn_sub (fun _ h => List.mem_cons_of_mem _ (List.mem_append_left _ (List.mem_append_left _ (List.mem_append_left _ (List.mem_append_left _ (List.mem_append_right _ h)))))) (by decide +kernel))) (goodIn_sub (fun _ h => List.mem_cons_of_mem _ (List.mem_append_left _ (List.mem_append_left _ (List.mem_append_left _ (List.mem_append_right _ h))))) (by decide +kernel))
set_option maxRecDepth 20000 in
theorem gL_refused_L_reason : GoodIn wsL_refused (va_wsS RL 163 yL_reason wsL_reason) := goodIn_app (goodIn_of _ (by decide +kernel)) ggL_refused_L_reason
set_option maxRecDepth 20000 in
theorem ggL_refused_L_line : GoodIn wsL_refused wsL_line := goodIn_ca (goodIn_ca (goodIn_r _ [328, 284, 329, 330, 331, 17, 332, 333, 21, 289, 290, 291, 292, 293, 334, 335, 336, 3, 337, 338, 339, 340, 341, 342, 343, 344, 345, 346, 347, 348, 349, 350, 351, 352, 353, 354, 355, 356, 357, 358, 359, 360, 361, 362, 363, 364, 365, 366, 62, 63, 64, 367, 368, 369, 370, 371, 372, 373, 374, 375, 376, 377, 378, 379, 380, 381, 382, 383, 384, 385, 386, 387, 388, 389, 390, 391, 392, 393, 394, 395, 396, 397, 398, 399, 400, 401, 402, 403, 404, 405, 2, 406, 407, 408, 409, 410, 411, 412, 413, 414, 415, 416, 417, 418, 419, 420, 421, 422, 423, 180, 424, 425, 426, 427, 428, 429, 430, 431, 432, 433, 434, 435, 436, 437, 438, 439, 440, 441, 442, 443, 444, 445, 446, 447, 448, 449, 450, 451, 452, 453, 454, 455, 456, 457, 458, 325, 75, 76, 26, 77, 78, 459, 460, 461, 462, 463, 464, 465, 466, 467, 468, 469, 470, 471, 472, 473, 474, 475, 476, 477, 478, 479, 480, 481, 482, 483, 484, 485, 486, 487, 488, 489, 490, 491, 492, 493, 494, 495, 496, 497, 498, 499, 500, 501, 502, 503, 504, 505, 506, 507, 508, 23, 24, 25, 27, 28, 294, 88, 89, 90, 69, 34, 35, 36, 37, 29, 30, 31, 32, 33, 509, 510, 511, 512, 513, 514, 515, 516, 1082, 1083, 1084, 1085, 1086, 1087, 1088, 1089, 1090, 1091, 1092, 1115, 1116, 1117, 1118, 1119, 1120, 1078, 1079, 1080, 1081, 1121, 1122, 1123, 1124, 1125, 1126, 1093, 1094, 1095, 1096, 1097, 1098] (by decide +kernel) (by decide +kernel)) (goodIn_sub (fun _ h => List.mem_cons_of_mem _ (List.mem_append_left _ (List.mem_append_left _ (List.mem_append_right _ h)))) (by decide +kernel))) (goodIn_sub (fun _ h => List.mem_cons_of_mem _ (List.mem_append_left _ (List.mem_append_left _ (List.mem_append_left _ (List.mem_append_left _ (List.mem_append_left _ (List.mem_append_right _ h))))))) (by decide +kernel))
set_option maxRecDepth 20000 in
theorem gL_refused_L_line : GoodIn wsL_refused (va_wsS RL 166 yL_line wsL_line) := goodIn_app (goodIn_of _ (by decide +kernel)) ggL_refused_L_line
set_option maxRecDepth 20000 in
theorem ggL_refused_L_character : GoodIn wsL_refused wsL_character := goodIn_ca (goodIn_r _ [519, 284, 520, 521, 522, 17, 523, 292, 293, 333, 509, 510, 511, 3, 512, 513, 514, 340, 515, 342, 516, 347, 524, 525, 526, 527, 528, 529, 530, 531, 355, 348, 532, 383, 63, 384, 533, 504, 442, 505, 444, 506, 507, 447, 508, 534, 535, 411, 536, 433, 457, 458, 437, 438, 439, 1082, 1083, 1084, 1085, 1086, 1087, 1088, 1089, 1090, 1091, 1092, 1078, 1079, 1080, 1081] (by decide +kernel) (by decide +kernel)) (goodIn_sub (fun _ h => List.mem_cons_of_mem _ (List.mem_append_left _ (List.mem_append_left _ (List.mem_append_right _ h)))) (by decide +kernel))
set_option maxRecDepth 20000 in
theorem gL_refused_L_character : GoodIn wsL_refused (va_wsS RL 168 yL_character wsL_character) := goodIn_app (goodIn_of _ (by decide +kernel)) ggL_refused_L_character
set_option maxRecDepth 20000 in
theorem ggL_refused_L_is : GoodIn wsL_refused wsL_is := goodIn_ca (goodIn_ca (goodIn_r _ [797, 798, 799, 6, 800, 135, 201, 801, 802, 803, 17, 804, 140, 141, 210, 211, 653, 805, 806, 807, 657, 808, 660, 809, 810, 811, 812, 813, 814, 815, 816, 661, 817, 818, 819, 820, 662, 1082, 1083, 1084, 1085, 1086, 1087, 1088, 1089, 1090, 1091, 1092, 1131, 1132, 1133, 1134, 1135] (by decide +kernel) (by decide +kernel)) (goodIn_sub (fun _ h => List.mem_cons_of_mem _ (List.mem_append_left _ (List.mem_append_left _ (List.mem_append_left _ (List.mem_append_left _ (List.mem_append_right _ h)))))) (by decide +kernel))) (goodIn_sub (fun _ h => List.mem_cons_of_mem _ (List.mem_append_left _ (List.mem_append_left _ (List.mem_append_left _ (List.mem_append_right _ h))))) (by decide +kernel))
set_option maxRecDepth 20000 in
theorem gL_refused_L_is : GoodIn wsL_refused (va_wsS RL 294 yL_is wsL_is) := goodIn_app (goodIn_of _ (by decide +kernel)) ggL_refused_L_is
set_option maxRecDepth 20000 in
theorem ggL_refused_L_reads : GoodIn wsL_refused wsL_reads := goodIn_ca (goodIn_ca (goodIn_ca (goodIn_ca (goodIn_r _ [880, 881, 882, 883, 442, 884, 885, 886, 887, 888, 889, 890, 891, 892, 893, 894, 895, 896, 897, 898, 899, 900, 901, 397, 902, 903, 504, 505, 444, 506, 507, 447, 508, 904, 905, 411, 906, 500, 501, 502, 437, 438, 439, 503, 907, 535, 536, 433, 457, 458, 908, 909, 6, 910, 911, 912, 913, 914, 17, 915, 916, 917, 143, 918, 919, 920, 195, 921, 197, 922, 192, 193, 194, 196, 923, 924, 925, 135, 632, 926, 927, 928, 929, 140, 141, 651, 652, 637, 930, 931, 21, 142, 932, 933, 934, 935, 936, 937, 938, 939, 940, 941, 942, 943, 944, 945, 946, 947, 948, 949, 950, 951, 952, 953, 954, 955, 956, 957, 958, 959, 960, 961, 962, 963, 964, 965, 966, 967, 968, 969, 639, 640, 641, 642, 643, 644, 645, 646, 970, 677, 678, 679, 971, 684, 685, 686, 972, 973, 974, 975, 976, 977, 978, 979, 980, 731, 732, 26, 733, 33, 734, 386, 387, 388, 152, 69, 157, 28, 78, 735, 736, 737, 161, 738, 163, 168, 173, 981, 982, 983, 984, 653, 985, 986, 654, 655, 656, 657, 658, 659, 660, 661, 662, 663, 664, 665, 666, 667, 668, 669, 670, 671, 672, 673, 674, 675, 676, 680, 681, 682, 683, 687, 688, 689, 690, 691, 228, 229, 230, 231, 232, 233, 234, 34, 35, 36, 37, 692, 693, 694, 695, 696, 697, 698, 699, 700, 701, 702, 703, 704, 149, 150, 151, 705, 706, 707, 708, 709, 66, 67, 68, 710, 711, 712, 713, 714, 715, 716, 717, 718, 75, 76, 77, 739, 740, 741, 742, 743, 744, 745, 746, 747, 154, 155, 156, 748, 749, 750, 751, 752, 753, 754, 755, 623, 624, 625, 626, 627, 628, 756, 757, 758, 759, 760, 761, 30, 31, 32, 148, 65, 762, 763, 764, 765, 766, 767, 768, 769, 770, 771, 24, 25, 27, 772, 773, 774, 775, 776, 777, 778, 779, 780, 781, 782, 308, 309, 310, 87, 88, 89, 90, 783, 784, 785, 786, 787, 788, 789, 790, 791, 987, 719, 720, 721, 189, 722, 723, 191, 724, 383, 63, 384, 725, 726, 727, 728, 729, 730, 1136, 1137, 1138, 1139, 1082, 1083, 1084, 1085, 1086, 1087, 1088, 1089, 1090, 1091, 1092, 1111, 1112, 1113, 1114, 1127, 1128, 1129, 1130, 1093, 1094, 1095, 1096, 1097, 1098, 1105, 1106, 1107, 1131, 1132, 1133, 1134, 1135, 1108, 1109, 1110] (by decide +kernel) (by decide +kernel)) (goodIn_sub (fun _ h => List.mem_cons_of_mem _ (List.mem_append_right _ h)) (by decide +kernel))) (goodIn_sub (fun _ h => List.mem_cons_of_mem _ (List.mem_append_left _ (List.mem_append_left _ (List.mem_append_left _ (List.mem_append_left _ (List.mem_append_left _ (List.mem_append_right _ h))))))) (by decide +kernel))) (goodIn_sub (fun _ h => List.mem_cons_of_mem _ (List.mem_append_left _ (List.mem_append_left _ (List.mem_append_left _ (List.mem_append_left _ (List.mem_append_right _ h)))))) (by decide +kernel))) (goodIn_sub (fun _ h => List.mem_cons_of_mem _ (List.mem_append_left _ (List.mem_append_right _ h))) (by decide +kernel))
set_option maxRecDepth 20000 in
theorem gL_refused_L_reads : GoodIn wsL_refused (va_wsS RL 290 yL_reads wsL_reads) := goodIn_app (goodIn_of _ (by decide +kernel)) ggL_refused_L_reads
set_option maxRecDepth 20000 in
theorem ggL_refused_X7_faultPosition : GoodIn wsL_refused wsX7_faultPosition := goodIn_r _ [991, 930, 1082, 1083, 1084, 1085, 1086, 1087, 1088, 1089, 1090, 1091, 1092] (by decide +kernel) (by decide +kernel)
set_option maxRecDepth 20000 in
theorem gL_refused_X7_faultPosition : GoodIn wsL_refused (wsV RL 310 RX7 yX7_faultPosition wsX7_faultPosition) := goodIn_app (goodIn_of _ (by decide +kernel)) ggL_refused_X7_faultPosition
set_option maxRecDepth 20000 in
theorem ggL_refused_J4_init_da8c8 : GoodIn wsL_refused wsJ4_init_da8c8 := goodIn_r _ [994, 995, 996, 342, 997, 998, 999, 1000, 394, 381, 348, 355, 475, 476, 411, 477, 478, 479, 480, 481, 1078, 1079, 1080, 1081] (by decide +kernel) (by decide +kernel)
set_option maxRecDepth 20000 in
theorem gL_refused_J4_init_da8c8 : GoodIn wsL_refused (wsJ4_init_da8c8) := ggL_refused_J4_init_da8c8
set_option maxRecDepth 20000 in
theorem ggL_refused_J4_append_15ec4 : GoodIn wsL_refused wsJ4_append_15ec4 := goodIn_r _ [1004, 1005, 1006, 340, 1007, 342, 1008, 347, 1009, 1010, 1011, 1012, 1013, 348, 350, 351, 352, 353, 354, 355, 356, 357, 358, 359, 360, 361, 362, 363, 364, 365, 366, 62, 63, 64, 367, 368, 369, 370, 371, 372, 373, 374, 375, 376, 377, 378, 379, 380, 381, 382, 383, 384, 385, 386, 387, 388, 389, 390, 391, 392, 393, 394, 1014, 1015, 411, 1016, 433, 434, 435, 436, 437, 438, 439, 440, 441, 442, 443, 444, 445, 446, 447, 448, 454, 455, 456, 457, 458, 1017, 882, 883, 884, 885, 886, 887, 888, 889, 890, 891, 1018, 1019, 1020, 1021, 1022, 1023, 1024, 1025, 1026, 1027, 1028, 470, 471, 472, 473, 474, 475, 476, 477, 478, 479, 480, 481, 482, 483, 397, 484, 485, 486, 487, 488, 489, 490, 491, 492, 493, 494, 495, 496, 1029, 1030, 1031, 1032, 1033, 1034, 1078, 1079, 1080, 1081, 1136, 1137, 1138, 1139] (by decide +kernel) (by decide +kernel)
set_option maxRecDepth 20000 in
theorem gL_refused_J4_append_15ec4 : GoodIn wsL_refused (wsV RL 267 RJ4 yJ4_append_15ec4 wsJ4_append_15ec4) := goodIn_app (goodIn_of _ (by decide +kernel)) ggL_refused_J4_append_15ec4
set_option maxRecDepth 20000 in
theorem ggL_refused_J4_append_bf812 : GoodIn wsL_refused wsJ4_append_bf812 := goodIn_r _ [417, 418, 419, 340, 420, 342, 421, 347, 348, 422, 423, 180, 424, 350, 351, 352, 353, 354, 355, 356, 357, 358, 359, 360, 361, 362, 363, 364, 365, 366, 62, 63, 64, 367, 368, 369, 370, 371, 372, 373, 374, 375, 376, 377, 378, 379, 380, 381, 382, 383, 384, 385, 386, 387, 388, 389, 390, 391, 392, 393, 394, 425, 426, 427, 428, 429, 430, 431, 411, 432, 433, 434, 435, 436, 437, 438, 439, 440, 441, 442, 443, 444, 445, 446, 447, 448, 449, 450, 451, 452, 453, 454, 455, 456, 457, 458, 1078, 1079, 1080, 1081] (by decide +kernel) (by decide +kernel)
set_option maxRecDepth 20000 in
theorem gL_refused_J4_append_bf812 : GoodIn wsL_refused (wsV RL 270 RJ4 yJ4_append_bf812 wsJ4_append_bf812) := goodIn_app (goodIn_of _ (by decide +kernel)) ggL_refused_J4_append_bf812
set_option maxRecDepth 20000 in
theorem ggL_refused_J4_toString_0e30d : GoodIn wsL_refused wsJ4_toString_0e30d := goodIn_r _ [1039, 1040, 1041, 442, 1042, 1043, 1044, 1045, 1046, 1047, 1048, 999, 1000, 891, 885, 890, 1049, 1050, 1051, 1052, 1053, 342, 1054, 348, 1055, 514, 1056, 1057, 510, 3, 512, 513, 340, 515, 516, 347, 1058, 390, 391, 392, 393, 394, 355, 1059, 1060, 373, 1061, 375, 376, 377, 378, 379, 380, 1062, 1063, 1064, 381, 382, 383, 63, 384, 385, 386, 387, 388, 1065, 1066, 1067, 405, 2, 1068, 1069, 411, 1070, 1071, 1072, 1073, 488, 489, 490, 437, 438, 439, 491, 492, 493, 444, 494, 495, 447, 496, 907, 535, 536, 433, 457, 458, 478, 479, 480, 481, 1074, 1075, 1076, 1077, 1136, 1137, 1138, 1139, 1078, 1079, 1080, 1081] (by decide +kernel) (by decide +kernel)
set_option maxRecDepth 20000 in
theorem gL_refused_J4_toString_0e30d : GoodIn wsL_refused (wsV RL 277 RJ4 yJ4_toString_0e30d wsJ4_toString_0e30d) := goodIn_app (goodIn_of _ (by decide +kernel)) ggL_refused_J4_toString_0e30d
theorem dL_refused_0 : decode cL_refused 0 = .ok (.aload_n 0, 1) := by decide +kernel
theorem dL_refused_1 : decode cL_refused 1 = .ok (.invokestatic 298, 3) := by decide +kernel
theorem dL_refused_4 : decode cL_refused 4 = .ok (.lstore_n 1, 1) := by decide +kernel
theorem dL_refused_5 : decode cL_refused 5 = .ok (.aload_n 0, 1) := by decide +kernel
theorem dL_refused_6 : decode cL_refused 6 = .ok (.iconst 0, 1) := by decide +kernel
theorem dL_refused_7 : decode cL_refused 7 = .ok (.invokestatic 205, 3) := by decide +kernel
theorem dL_refused_10 : decode cL_refused 10 = .ok (.istore_n 3, 1) := by decide +kernel
theorem dL_refused_11 : decode cL_refused 11 = .ok (.aload_n 0, 1) := by decide +kernel
theorem dL_refused_12 : decode cL_refused 12 = .ok (.iconst 0, 1) := by decide +kernel
theorem dL_refused_13 : decode cL_refused 13 = .ok (.invokestatic 207, 3) := by decide +kernel
theorem dL_refused_16 : decode cL_refused 16 = .ok (.istore 4, 2) := by decide +kernel
theorem dL_refused_18 : decode cL_refused 18 = .ok (.aload_n 0, 1) := by decide +kernel
theorem dL_refused_19 : decode cL_refused 19 = .ok (.aload_n 0, 1) := by decide +kernel
theorem dL_refused_20 : decode cL_refused 20 = .ok (.iconst (-1), 1) := by decide +kernel
theorem dL_refused_21 : decode cL_refused 21 = .ok (.iconst 0, 1) := by decide +kernel
theorem dL_refused_22 : decode cL_refused 22 = .ok (.invokestatic 180, 3) := by decide +kernel
theorem dL_refused_25 : decode cL_refused 25 = .ok (.invokestatic 302, 3) := by decide +kernel
theorem dL_refused_28 : decode cL_refused 28 = .ok (.ifCond .eq 198, 3) := by decide +kernel
theorem dL_refused_31 : decode cL_refused 31 = .ok (.aload_n 0, 1) := by decide +kernel
theorem dL_refused_32 : decode cL_refused 32 = .ok (.aload_n 0, 1) := by decide +kernel
theorem dL_refused_33 : decode cL_refused 33 = .ok (.sipush 1000, 3) := by decide +kernel
theorem dL_refused_36 : decode cL_refused 36 = .ok (.iconst 0, 1) := by decide +kernel
theorem dL_refused_37 : decode cL_refused 37 = .ok (.invokestatic 180, 3) := by decide +kernel
theorem dL_refused_40 : decode cL_refused 40 = .ok (.invokestatic 302, 3) := by decide +kernel
theorem dL_refused_43 : decode cL_refused 43 = .ok (.ifCond .eq 183, 3) := by decide +kernel
theorem dL_refused_46 : decode cL_refused 46 = .ok (.aload_n 0, 1) := by decide +kernel
theorem dL_refused_47 : decode cL_refused 47 = .ok (.aload_n 0, 1) := by decide +kernel
theorem dL_refused_48 : decode cL_refused 48 = .ok (.iload 4, 2) := by decide +kernel
theorem dL_refused_50 : decode cL_refused 50 = .ok (.bipush 100, 2) := by decide +kernel
theorem dL_refused_52 : decode cL_refused 52 = .ok (.invokestatic 180, 3) := by decide +kernel
theorem dL_refused_55 : decode cL_refused 55 = .ok (.invokestatic 302, 3) := by decide +kernel
theorem dL_refused_58 : decode cL_refused 58 = .ok (.ifCond .eq 168, 3) := by decide +kernel
theorem dL_refused_61 : decode cL_refused 61 = .ok (.aload_n 0, 1) := by decide +kernel
theorem dL_refused_62 : decode cL_refused 62 = .ok (.aload_n 0, 1) := by decide +kernel
theorem dL_refused_63 : decode cL_refused 63 = .ok (.iload 4, 2) := by decide +kernel
theorem dL_refused_65 : decode cL_refused 65 = .ok (.iconst (-1), 1) := by decide +kernel
theorem dL_refused_66 : decode cL_refused 66 = .ok (.invokestatic 180, 3) := by decide +kernel
theorem dL_refused_69 : decode cL_refused 69 = .ok (.invokestatic 302, 3) := by decide +kernel
theorem dL_refused_72 : decode cL_refused 72 = .ok (.ifCond .eq 154, 3) := by decide +kernel
theorem dL_refused_75 : decode cL_refused 75 = .ok (.aload_n 0, 1) := by decide +kernel
theorem dL_refused_76 : decode cL_refused 76 = .ok (.aload_n 0, 1) := by decide +kernel
theorem dL_refused_77 : decode cL_refused 77 = .ok (.iload 4, 2) := by decide +kernel
theorem dL_refused_79 : decode cL_refused 79 = .ok (.iconst 0, 1) := by decide +kernel
theorem dL_refused_80 : decode cL_refused 80 = .ok (.iconst 0, 1) := by decide +kernel
theorem dL_refused_81 : decode cL_refused 81 = .ok (.invokestatic 177, 3) := by decide +kernel
theorem dL_refused_84 : decode cL_refused 84 = .ok (.invokestatic 302, 3) := by decide +kernel
theorem dL_refused_87 : decode cL_refused 87 = .ok (.ifCond .eq 139, 3) := by decide +kernel
theorem dL_refused_90 : decode cL_refused 90 = .ok (.aload_n 0, 1) := by decide +kernel
theorem dL_refused_91 : decode cL_refused 91 = .ok (.aload_n 0, 1) := by decide +kernel
theorem dL_refused_92 : decode cL_refused 92 = .ok (.iload 4, 2) := by decide +kernel
theorem dL_refused_94 : decode cL_refused 94 = .ok (.iconst 0, 1) := by decide +kernel
theorem dL_refused_95 : decode cL_refused 95 = .ok (.bipush 6, 2) := by decide +kernel
theorem dL_refused_97 : decode cL_refused 97 = .ok (.invokestatic 177, 3) := by decide +kernel
theorem dL_refused_100 : decode cL_refused 100 = .ok (.invokestatic 302, 3) := by decide +kernel
theorem dL_refused_103 : decode cL_refused 103 = .ok (.ifCond .eq 123, 3) := by decide +kernel
theorem dL_refused_106 : decode cL_refused 106 = .ok (.aload_n 0, 1) := by decide +kernel
theorem dL_refused_107 : decode cL_refused 107 = .ok (.aload_n 0, 1) := by decide +kernel
theorem dL_refused_108 : decode cL_refused 108 = .ok (.sipush 1000, 3) := by decide +kernel
theorem dL_refused_111 : decode cL_refused 111 = .ok (.invokestatic 249, 3) := by decide +kernel
theorem dL_refused_114 : decode cL_refused 114 = .ok (.invokestatic 302, 3) := by decide +kernel
theorem dL_refused_117 : decode cL_refused 117 = .ok (.ifCond .eq 109, 3) := by decide +kernel
theorem dL_refused_120 : decode cL_refused 120 = .ok (.aload_n 0, 1) := by decide +kernel
theorem dL_refused_121 : decode cL_refused 121 = .ok (.aload_n 0, 1) := by decide +kernel
theorem dL_refused_122 : decode cL_refused 122 = .ok (.iconst (-1), 1) := by decide +kernel
theorem dL_refused_123 : decode cL_refused 123 = .ok (.invokestatic 251, 3) := by decide +kernel
theorem dL_refused_126 : decode cL_refused 126 = .ok (.invokestatic 302, 3) := by decide +kernel
theorem dL_refused_129 : decode cL_refused 129 = .ok (.ifCond .eq 97, 3) := by decide +kernel
theorem dL_refused_132 : decode cL_refused 132 = .ok (.aload_n 0, 1) := by decide +kernel
theorem dL_refused_133 : decode cL_refused 133 = .ok (.aload_n 0, 1) := by decide +kernel
theorem dL_refused_134 : decode cL_refused 134 = .ok (.sipush 1000, 3) := by decide +kernel
theorem dL_refused_137 : decode cL_refused 137 = .ok (.invokestatic 253, 3) := by decide +kernel
theorem dL_refused_140 : decode cL_refused 140 = .ok (.invokestatic 302, 3) := by decide +kernel
theorem dL_refused_143 : decode cL_refused 143 = .ok (.ifCond .eq 83, 3) := by decide +kernel
theorem dL_refused_146 : decode cL_refused 146 = .ok (.aload_n 0, 1) := by decide +kernel
theorem dL_refused_147 : decode cL_refused 147 = .ok (.aload_n 0, 1) := by decide +kernel
theorem dL_refused_148 : decode cL_refused 148 = .ok (.iconst 0, 1) := by decide +kernel
theorem dL_refused_149 : decode cL_refused 149 = .ok (.invokestatic 183, 3) := by decide +kernel
theorem dL_refused_152 : decode cL_refused 152 = .ok (.invokestatic 302, 3) := by decide +kernel
theorem dL_refused_155 : decode cL_refused 155 = .ok (.ifCond .eq 71, 3) := by decide +kernel
theorem dL_refused_158 : decode cL_refused 158 = .ok (.aload_n 0, 1) := by decide +kernel
theorem dL_refused_159 : decode cL_refused 159 = .ok (.aload_n 0, 1) := by decide +kernel
theorem dL_refused_160 : decode cL_refused 160 = .ok (.iconst 5, 1) := by decide +kernel
theorem dL_refused_161 : decode cL_refused 161 = .ok (.invokestatic 183, 3) := by decide +kernel
theorem dL_refused_164 : decode cL_refused 164 = .ok (.invokestatic 302, 3) := by decide +kernel
theorem dL_refused_167 : decode cL_refused 167 = .ok (.ifCond .eq 59, 3) := by decide +kernel
theorem dL_refused_170 : decode cL_refused 170 = .ok (.aload_n 0, 1) := by decide +kernel
theorem dL_refused_171 : decode cL_refused 171 = .ok (.aload_n 0, 1) := by decide +kernel
theorem dL_refused_172 : decode cL_refused 172 = .ok (.iconst 0, 1) := by decide +kernel
theorem dL_refused_173 : decode cL_refused 173 = .ok (.invokestatic 255, 3) := by decide +kernel
theorem dL_refused_176 : decode cL_refused 176 = .ok (.invokestatic 302, 3) := by decide +kernel
theorem dL_refused_179 : decode cL_refused 179 = .ok (.ifCond .eq 47, 3) := by decide +kernel
theorem dL_refused_182 : decode cL_refused 182 = .ok (.aload_n 0, 1) := by decide +kernel
theorem dL_refused_183 : decode cL_refused 183 = .ok (.aload_n 0, 1) := by decide +kernel
theorem dL_refused_184 : decode cL_refused 184 = .ok (.iconst 5, 1) := by decide +kernel
theorem dL_refused_185 : decode cL_refused 185 = .ok (.invokestatic 255, 3) := by decide +kernel
theorem dL_refused_188 : decode cL_refused 188 = .ok (.invokestatic 302, 3) := by decide +kernel
theorem dL_refused_191 : decode cL_refused 191 = .ok (.ifCond .eq 35, 3) := by decide +kernel
theorem dL_refused_194 : decode cL_refused 194 = .ok (.aload_n 0, 1) := by decide +kernel
theorem dL_refused_195 : decode cL_refused 195 = .ok (.aload_n 0, 1) := by decide +kernel
theorem dL_refused_196 : decode cL_refused 196 = .ok (.iconst (-1), 1) := by decide +kernel
theorem dL_refused_197 : decode cL_refused 197 = .ok (.iconst 5, 1) := by decide +kernel
theorem dL_refused_198 : decode cL_refused 198 = .ok (.invokestatic 257, 3) := by decide +kernel
theorem dL_refused_201 : decode cL_refused 201 = .ok (.invokestatic 302, 3) := by decide +kernel
theorem dL_refused_204 : decode cL_refused 204 = .ok (.ifCond .eq 22, 3) := by decide +kernel
theorem dL_refused_207 : decode cL_refused 207 = .ok (.aload_n 0, 1) := by decide +kernel
theorem dL_refused_208 : decode cL_refused 208 = .ok (.aload_n 0, 1) := by decide +kernel
theorem dL_refused_209 : decode cL_refused 209 = .ok (.iload 4, 2) := by decide +kernel
theorem dL_refused_211 : decode cL_refused 211 = .ok (.bipush 100, 2) := by decide +kernel
theorem dL_refused_213 : decode cL_refused 213 = .ok (.invokestatic 257, 3) := by decide +kernel
theorem dL_refused_216 : decode cL_refused 216 = .ok (.invokestatic 302, 3) := by decide +kernel
theorem dL_refused_219 : decode cL_refused 219 = .ok (.ifCond .eq 7, 3) := by decide +kernel
theorem dL_refused_222 : decode cL_refused 222 = .ok (.iconst 1, 1) := by decide +kernel
theorem dL_refused_223 : decode cL_refused 223 = .ok (.goto 4, 3) := by decide +kernel
theorem dL_refused_226 : decode cL_refused 226 = .ok (.iconst 0, 1) := by decide +kernel
theorem dL_refused_227 : decode cL_refused 227 = .ok (.istore 5, 2) := by decide +kernel
theorem dL_refused_229 : decode cL_refused 229 = .ok (.iload 5, 2) := by decide +kernel
theorem dL_refused_231 : decode cL_refused 231 = .ok (.ifCond .eq 408, 3) := by decide +kernel
theorem dL_refused_234 : decode cL_refused 234 = .ok (.aload_n 0, 1) := by decide +kernel
theorem dL_refused_235 : decode cL_refused 235 = .ok (.sipush 1000, 3) := by decide +kernel
theorem dL_refused_238 : decode cL_refused 238 = .ok (.bipush 9, 2) := by decide +kernel
theorem dL_refused_240 : decode cL_refused 240 = .ok (.invokestatic 209, 3) := by decide +kernel
theorem dL_refused_243 : decode cL_refused 243 = .ok (.sipush (-1001), 3) := by decide +kernel
theorem dL_refused_246 : decode cL_refused 246 = .ok (.if_icmp .ne 393, 3) := by decide +kernel
theorem dL_refused_249 : decode cL_refused 249 = .ok (.aload_n 0, 1) := by decide +kernel
theorem dL_refused_250 : decode cL_refused 250 = .ok (.iload 4, 2) := by decide +kernel
theorem dL_refused_252 : decode cL_refused 252 = .ok (.iconst 4, 1) := by decide +kernel
theorem dL_refused_253 : decode cL_refused 253 = .ok (.invokestatic 209, 3) := by decide +kernel
theorem dL_refused_256 : decode cL_refused 256 = .ok (.sipush (-1001), 3) := by decide +kernel
theorem dL_refused_259 : decode cL_refused 259 = .ok (.if_icmp .ne 380, 3) := by decide +kernel
theorem dL_refused_262 : decode cL_refused 262 = .ok (.aload_n 0, 1) := by decide +kernel
theorem dL_refused_263 : decode cL_refused 263 = .ok (.iload 4, 2) := by decide +kernel
theorem dL_refused_265 : decode cL_refused 265 = .ok (.iconst (-1), 1) := by decide +kernel
theorem dL_refused_266 : decode cL_refused 266 = .ok (.invokestatic 209, 3) := by decide +kernel
theorem dL_refused_269 : decode cL_refused 269 = .ok (.sipush (-1001), 3) := by decide +kernel
theorem dL_refused_272 : decode cL_refused 272 = .ok (.if_icmp .ne 367, 3) := by decide +kernel
theorem dL_refused_275 : decode cL_refused 275 = .ok (.aload_n 0, 1) := by decide +kernel
theorem dL_refused_276 : decode cL_refused 276 = .ok (.iconst (-1), 1) := by decide +kernel
theorem dL_refused_277 : decode cL_refused 277 = .ok (.invokestatic 226, 3) := by decide +kernel
theorem dL_refused_280 : decode cL_refused 280 = .ok (.sipush (-1001), 3) := by decide +kernel
theorem dL_refused_283 : decode cL_refused 283 = .ok (.if_icmp .ne 356, 3) := by decide +kernel
theorem dL_refused_286 : decode cL_refused 286 = .ok (.aload_n 0, 1) := by decide +kernel
theorem dL_refused_287 : decode cL_refused 287 = .ok (.sipush 1000, 3) := by decide +kernel
theorem dL_refused_290 : decode cL_refused 290 = .ok (.invokestatic 228, 3) := by decide +kernel
theorem dL_refused_293 : decode cL_refused 293 = .ok (.sipush (-1001), 3) := by decide +kernel
theorem dL_refused_296 : decode cL_refused 296 = .ok (.if_icmp .ne 343, 3) := by decide +kernel
theorem dL_refused_299 : decode cL_refused 299 = .ok (.aload_n 0, 1) := by decide +kernel
theorem dL_refused_300 : decode cL_refused 300 = .ok (.iload_n 3, 1) := by decide +kernel
theorem dL_refused_301 : decode cL_refused 301 = .ok (.invokestatic 207, 3) := by decide +kernel
theorem dL_refused_304 : decode cL_refused 304 = .ok (.sipush (-1001), 3) := by decide +kernel
theorem dL_refused_307 : decode cL_refused 307 = .ok (.if_icmp .ne 332, 3) := by decide +kernel
theorem dL_refused_310 : decode cL_refused 310 = .ok (.aload_n 0, 1) := by decide +kernel
theorem dL_refused_311 : decode cL_refused 311 = .ok (.iconst (-1), 1) := by decide +kernel
theorem dL_refused_312 : decode cL_refused 312 = .ok (.invokestatic 207, 3) := by decide +kernel
theorem dL_refused_315 : decode cL_refused 315 = .ok (.sipush (-1001), 3) := by decide +kernel
theorem dL_refused_318 : decode cL_refused 318 = .ok (.if_icmp .ne 321, 3) := by decide +kernel
theorem dL_refused_321 : decode cL_refused 321 = .ok (.aload_n 0, 1) := by decide +kernel
theorem dL_refused_322 : decode cL_refused 322 = .ok (.sipush 1000, 3) := by decide +kernel
theorem dL_refused_325 : decode cL_refused 325 = .ok (.invokestatic 234, 3) := by decide +kernel
theorem dL_refused_328 : decode cL_refused 328 = .ok (.sipush (-1001), 3) := by decide +kernel
theorem dL_refused_331 : decode cL_refused 331 = .ok (.if_icmp .ne 308, 3) := by decide +kernel
theorem dL_refused_334 : decode cL_refused 334 = .ok (.aload_n 0, 1) := by decide +kernel
theorem dL_refused_335 : decode cL_refused 335 = .ok (.iconst (-1), 1) := by decide +kernel
theorem dL_refused_336 : decode cL_refused 336 = .ok (.invokestatic 211, 3) := by decide +kernel
theorem dL_refused_339 : decode cL_refused 339 = .ok (.sipush (-1001), 3) := by decide +kernel
theorem dL_refused_342 : decode cL_refused 342 = .ok (.if_icmp .ne 297, 3) := by decide +kernel
theorem dL_refused_345 : decode cL_refused 345 = .ok (.aload_n 0, 1) := by decide +kernel
theorem dL_refused_346 : decode cL_refused 346 = .ok (.sipush 1000, 3) := by decide +kernel
theorem dL_refused_349 : decode cL_refused 349 = .ok (.bipush 99, 2) := by decide +kernel
theorem dL_refused_351 : decode cL_refused 351 = .ok (.invokestatic 215, 3) := by decide +kernel
theorem dL_refused_354 : decode cL_refused 354 = .ok (.sipush (-1001), 3) := by decide +kernel
theorem dL_refused_357 : decode cL_refused 357 = .ok (.if_icmp .ne 282, 3) := by decide +kernel
theorem dL_refused_360 : decode cL_refused 360 = .ok (.aload_n 0, 1) := by decide +kernel
theorem dL_refused_361 : decode cL_refused 361 = .ok (.iconst 0, 1) := by decide +kernel
theorem dL_refused_362 : decode cL_refused 362 = .ok (.iconst (-1), 1) := by decide +kernel
theorem dL_refused_363 : decode cL_refused 363 = .ok (.invokestatic 215, 3) := by decide +kernel
theorem dL_refused_366 : decode cL_refused 366 = .ok (.sipush (-1002), 3) := by decide +kernel
theorem dL_refused_369 : decode cL_refused 369 = .ok (.if_icmp .ne 270, 3) := by decide +kernel
theorem dL_refused_372 : decode cL_refused 372 = .ok (.aload_n 0, 1) := by decide +kernel
theorem dL_refused_373 : decode cL_refused 373 = .ok (.iconst (-1), 1) := by decide +kernel
theorem dL_refused_374 : decode cL_refused 374 = .ok (.invokestatic 213, 3) := by decide +kernel
theorem dL_refused_377 : decode cL_refused 377 = .ok (.sipush (-1001), 3) := by decide +kernel
theorem dL_refused_380 : decode cL_refused 380 = .ok (.if_icmp .ne 259, 3) := by decide +kernel
theorem dL_refused_383 : decode cL_refused 383 = .ok (.aload_n 0, 1) := by decide +kernel
theorem dL_refused_384 : decode cL_refused 384 = .ok (.sipush 1000, 3) := by decide +kernel
theorem dL_refused_387 : decode cL_refused 387 = .ok (.invokestatic 230, 3) := by decide +kernel
theorem dL_refused_390 : decode cL_refused 390 = .ok (.sipush (-1001), 3) := by decide +kernel
theorem dL_refused_393 : decode cL_refused 393 = .ok (.if_icmp .ne 246, 3) := by decide +kernel
theorem dL_refused_396 : decode cL_refused 396 = .ok (.aload_n 0, 1) := by decide +kernel
theorem dL_refused_397 : decode cL_refused 397 = .ok (.iconst (-1), 1) := by decide +kernel
theorem dL_refused_398 : decode cL_refused 398 = .ok (.invokestatic 232, 3) := by decide +kernel
theorem dL_refused_401 : decode cL_refused 401 = .ok (.sipush (-1001), 3) := by decide +kernel
theorem dL_refused_404 : decode cL_refused 404 = .ok (.if_icmp .ne 235, 3) := by decide +kernel
theorem dL_refused_407 : decode cL_refused 407 = .ok (.aload_n 0, 1) := by decide +kernel
theorem dL_refused_408 : decode cL_refused 408 = .ok (.iconst (-1), 1) := by decide +kernel
theorem dL_refused_409 : decode cL_refused 409 = .ok (.iconst 5, 1) := by decide +kernel
theorem dL_refused_410 : decode cL_refused 410 = .ok (.invokestatic 236, 3) := by decide +kernel
theorem dL_refused_413 : decode cL_refused 413 = .ok (.sipush (-1001), 3) := by decide +kernel
theorem dL_refused_416 : decode cL_refused 416 = .ok (.if_icmp .ne 223, 3) := by decide +kernel
theorem dL_refused_419 : decode cL_refused 419 = .ok (.aload_n 0, 1) := by decide +kernel
theorem dL_refused_420 : decode cL_refused 420 = .ok (.iconst 5, 1) := by decide +kernel
theorem dL_refused_421 : decode cL_refused 421 = .ok (.sipush 1000, 3) := by decide +kernel
theorem dL_refused_424 : decode cL_refused 424 = .ok (.invokestatic 238, 3) := by decide +kernel
theorem dL_refused_427 : decode cL_refused 427 = .ok (.sipush (-1001), 3) := by decide +kernel
theorem dL_refused_430 : decode cL_refused 430 = .ok (.if_icmp .ne 209, 3) := by decide +kernel
theorem dL_refused_433 : decode cL_refused 433 = .ok (.aload_n 0, 1) := by decide +kernel
theorem dL_refused_434 : decode cL_refused 434 = .ok (.bipush 6, 2) := by decide +kernel
theorem dL_refused_436 : decode cL_refused 436 = .ok (.iconst 5, 1) := by decide +kernel
theorem dL_refused_437 : decode cL_refused 437 = .ok (.invokestatic 240, 3) := by decide +kernel
theorem dL_refused_440 : decode cL_refused 440 = .ok (.sipush (-1001), 3) := by decide +kernel
theorem dL_refused_443 : decode cL_refused 443 = .ok (.if_icmp .ne 196, 3) := by decide +kernel
theorem dL_refused_446 : decode cL_refused 446 = .ok (.aload_n 0, 1) := by decide +kernel
theorem dL_refused_447 : decode cL_refused 447 = .ok (.bipush 6, 2) := by decide +kernel
theorem dL_refused_449 : decode cL_refused 449 = .ok (.iconst 5, 1) := by decide +kernel
theorem dL_refused_450 : decode cL_refused 450 = .ok (.invokestatic 242, 3) := by decide +kernel
theorem dL_refused_453 : decode cL_refused 453 = .ok (.sipush (-1001), 3) := by decide +kernel
theorem dL_refused_456 : decode cL_refused 456 = .ok (.if_icmp .ne 183, 3) := by decide +kernel
theorem dL_refused_459 : decode cL_refused 459 = .ok (.aload_n 0, 1) := by decide +kernel
theorem dL_refused_460 : decode cL_refused 460 = .ok (.iconst 5, 1) := by decide +kernel
theorem dL_refused_461 : decode cL_refused 461 = .ok (.invokestatic 219, 3) := by decide +kernel
theorem dL_refused_464 : decode cL_refused 464 = .ok (.sipush (-1001), 3) := by decide +kernel
theorem dL_refused_467 : decode cL_refused 467 = .ok (.if_icmp .ne 172, 3) := by decide +kernel
theorem dL_refused_470 : decode cL_refused 470 = .ok (.aload_n 0, 1) := by decide +kernel
theorem dL_refused_471 : decode cL_refused 471 = .ok (.iconst 5, 1) := by decide +kernel
theorem dL_refused_472 : decode cL_refused 472 = .ok (.iconst 0, 1) := by decide +kernel
theorem dL_refused_473 : decode cL_refused 473 = .ok (.invokestatic 306, 3) := by decide +kernel
theorem dL_refused_476 : decode cL_refused 476 = .ok (.sipush (-1001), 3) := by decide +kernel
theorem dL_refused_479 : decode cL_refused 479 = .ok (.if_icmp .ne 160, 3) := by decide +kernel
theorem dL_refused_482 : decode cL_refused 482 = .ok (.aload_n 0, 1) := by decide +kernel
theorem dL_refused_483 : decode cL_refused 483 = .ok (.iconst 0, 1) := by decide +kernel
theorem dL_refused_484 : decode cL_refused 484 = .ok (.iload_n 3, 1) := by decide +kernel
theorem dL_refused_485 : decode cL_refused 485 = .ok (.invokestatic 306, 3) := by decide +kernel
theorem dL_refused_488 : decode cL_refused 488 = .ok (.sipush (-1002), 3) := by decide +kernel
theorem dL_refused_491 : decode cL_refused 491 = .ok (.if_icmp .ne 148, 3) := by decide +kernel
theorem dL_refused_494 : decode cL_refused 494 = .ok (.aload_n 0, 1) := by decide +kernel
theorem dL_refused_495 : decode cL_refused 495 = .ok (.iconst 0, 1) := by decide +kernel
theorem dL_refused_496 : decode cL_refused 496 = .ok (.iconst (-1), 1) := by decide +kernel
theorem dL_refused_497 : decode cL_refused 497 = .ok (.invokestatic 306, 3) := by decide +kernel
theorem dL_refused_500 : decode cL_refused 500 = .ok (.sipush (-1002), 3) := by decide +kernel
theorem dL_refused_503 : decode cL_refused 503 = .ok (.if_icmp .ne 136, 3) := by decide +kernel
theorem dL_refused_506 : decode cL_refused 506 = .ok (.aload_n 0, 1) := by decide +kernel
theorem dL_refused_507 : decode cL_refused 507 = .ok (.sipush 1000, 3) := by decide +kernel
theorem dL_refused_510 : decode cL_refused 510 = .ok (.iconst 5, 1) := by decide +kernel
theorem dL_refused_511 : decode cL_refused 511 = .ok (.invokestatic 217, 3) := by decide +kernel
theorem dL_refused_514 : decode cL_refused 514 = .ok (.sipush (-1001), 3) := by decide +kernel
theorem dL_refused_517 : decode cL_refused 517 = .ok (.if_icmp .ne 122, 3) := by decide +kernel
theorem dL_refused_520 : decode cL_refused 520 = .ok (.aload_n 0, 1) := by decide +kernel
theorem dL_refused_521 : decode cL_refused 521 = .ok (.sipush 1000, 3) := by decide +kernel
theorem dL_refused_524 : decode cL_refused 524 = .ok (.iconst 0, 1) := by decide +kernel
theorem dL_refused_525 : decode cL_refused 525 = .ok (.invokestatic 217, 3) := by decide +kernel
theorem dL_refused_528 : decode cL_refused 528 = .ok (.sipush (-1002), 3) := by decide +kernel
theorem dL_refused_531 : decode cL_refused 531 = .ok (.if_icmp .ne 108, 3) := by decide +kernel
theorem dL_refused_534 : decode cL_refused 534 = .ok (.aload_n 0, 1) := by decide +kernel
theorem dL_refused_535 : decode cL_refused 535 = .ok (.iconst (-1), 1) := by decide +kernel
theorem dL_refused_536 : decode cL_refused 536 = .ok (.invokestatic 221, 3) := by decide +kernel
theorem dL_refused_539 : decode cL_refused 539 = .ok (.sipush (-1001), 3) := by decide +kernel
theorem dL_refused_542 : decode cL_refused 542 = .ok (.if_icmp .ne 97, 3) := by decide +kernel
theorem dL_refused_545 : decode cL_refused 545 = .ok (.aload_n 0, 1) := by decide +kernel
theorem dL_refused_546 : decode cL_refused 546 = .ok (.iconst 5, 1) := by decide +kernel
theorem dL_refused_547 : decode cL_refused 547 = .ok (.invokestatic 223, 3) := by decide +kernel
theorem dL_refused_550 : decode cL_refused 550 = .ok (.sipush (-1001), 3) := by decide +kernel
theorem dL_refused_553 : decode cL_refused 553 = .ok (.if_icmp .ne 86, 3) := by decide +kernel
theorem dL_refused_556 : decode cL_refused 556 = .ok (.aload_n 0, 1) := by decide +kernel
theorem dL_refused_557 : decode cL_refused 557 = .ok (.iconst 3, 1) := by decide +kernel
theorem dL_refused_558 : decode cL_refused 558 = .ok (.invokestatic 163, 3) := by decide +kernel
theorem dL_refused_561 : decode cL_refused 561 = .ok (.sipush (-1001), 3) := by decide +kernel
theorem dL_refused_564 : decode cL_refused 564 = .ok (.if_icmp .ne 75, 3) := by decide +kernel
theorem dL_refused_567 : decode cL_refused 567 = .ok (.aload_n 0, 1) := by decide +kernel
theorem dL_refused_568 : decode cL_refused 568 = .ok (.iconst (-1), 1) := by decide +kernel
theorem dL_refused_569 : decode cL_refused 569 = .ok (.invokestatic 163, 3) := by decide +kernel
theorem dL_refused_572 : decode cL_refused 572 = .ok (.sipush (-1001), 3) := by decide +kernel
theorem dL_refused_575 : decode cL_refused 575 = .ok (.if_icmp .ne 64, 3) := by decide +kernel
theorem dL_refused_578 : decode cL_refused 578 = .ok (.aload_n 0, 1) := by decide +kernel
theorem dL_refused_579 : decode cL_refused 579 = .ok (.iconst 5, 1) := by decide +kernel
theorem dL_refused_580 : decode cL_refused 580 = .ok (.invokestatic 166, 3) := by decide +kernel
theorem dL_refused_583 : decode cL_refused 583 = .ok (.sipush (-1001), 3) := by decide +kernel
theorem dL_refused_586 : decode cL_refused 586 = .ok (.if_icmp .ne 53, 3) := by decide +kernel
theorem dL_refused_589 : decode cL_refused 589 = .ok (.aload_n 0, 1) := by decide +kernel
theorem dL_refused_590 : decode cL_refused 590 = .ok (.iconst (-1), 1) := by decide +kernel
theorem dL_refused_591 : decode cL_refused 591 = .ok (.invokestatic 168, 3) := by decide +kernel
theorem dL_refused_594 : decode cL_refused 594 = .ok (.sipush (-1001), 3) := by decide +kernel
theorem dL_refused_597 : decode cL_refused 597 = .ok (.if_icmp .ne 42, 3) := by decide +kernel
theorem dL_refused_600 : decode cL_refused 600 = .ok (.aload_n 0, 1) := by decide +kernel
theorem dL_refused_601 : decode cL_refused 601 = .ok (.bipush 120, 2) := by decide +kernel
theorem dL_refused_603 : decode cL_refused 603 = .ok (.invokestatic 168, 3) := by decide +kernel
theorem dL_refused_606 : decode cL_refused 606 = .ok (.sipush (-1001), 3) := by decide +kernel
theorem dL_refused_609 : decode cL_refused 609 = .ok (.if_icmp .ne 30, 3) := by decide +kernel
theorem dL_refused_612 : decode cL_refused 612 = .ok (.aload_n 0, 1) := by decide +kernel
theorem dL_refused_613 : decode cL_refused 613 = .ok (.bipush 10, 2) := by decide +kernel
theorem dL_refused_615 : decode cL_refused 615 = .ok (.invokestatic 205, 3) := by decide +kernel
theorem dL_refused_618 : decode cL_refused 618 = .ok (.sipush (-1001), 3) := by decide +kernel
theorem dL_refused_621 : decode cL_refused 621 = .ok (.if_icmp .ne 18, 3) := by decide +kernel
theorem dL_refused_624 : decode cL_refused 624 = .ok (.aload_n 0, 1) := by decide +kernel
theorem dL_refused_625 : decode cL_refused 625 = .ok (.iconst (-1), 1) := by decide +kernel
theorem dL_refused_626 : decode cL_refused 626 = .ok (.invokestatic 205, 3) := by decide +kernel
theorem dL_refused_629 : decode cL_refused 629 = .ok (.sipush (-1001), 3) := by decide +kernel
theorem dL_refused_632 : decode cL_refused 632 = .ok (.if_icmp .ne 7, 3) := by decide +kernel
theorem dL_refused_635 : decode cL_refused 635 = .ok (.iconst 1, 1) := by decide +kernel
theorem dL_refused_636 : decode cL_refused 636 = .ok (.goto 4, 3) := by decide +kernel
theorem dL_refused_639 : decode cL_refused 639 = .ok (.iconst 0, 1) := by decide +kernel
theorem dL_refused_640 : decode cL_refused 640 = .ok (.istore 5, 2) := by decide +kernel
theorem dL_refused_642 : decode cL_refused 642 = .ok (.aload_n 0, 1) := by decide +kernel
theorem dL_refused_643 : decode cL_refused 643 = .ok (.iload 4, 2) := by decide +kernel
theorem dL_refused_645 : decode cL_refused 645 = .ok (.iconst 0, 1) := by decide +kernel
theorem dL_refused_646 : decode cL_refused 646 = .ok (.invokestatic 209, 3) := by decide +kernel
theorem dL_refused_649 : decode cL_refused 649 = .ok (.istore 6, 2) := by decide +kernel
theorem dL_refused_651 : decode cL_refused 651 = .ok (.iload 5, 2) := by decide +kernel
theorem dL_refused_653 : decode cL_refused 653 = .ok (.ifCond .eq 56, 3) := by decide +kernel
theorem dL_refused_656 : decode cL_refused 656 = .ok (.aload_n 0, 1) := by decide +kernel
theorem dL_refused_657 : decode cL_refused 657 = .ok (.iload 4, 2) := by decide +kernel
theorem dL_refused_659 : decode cL_refused 659 = .ok (.iload 6, 2) := by decide +kernel
theorem dL_refused_661 : decode cL_refused 661 = .ok (.invokestatic 257, 3) := by decide +kernel
theorem dL_refused_664 : decode cL_refused 664 = .ok (.sipush (-1001), 3) := by decide +kernel
theorem dL_refused_667 : decode cL_refused 667 = .ok (.if_icmp .ne 42, 3) := by decide +kernel
theorem dL_refused_670 : decode cL_refused 670 = .ok (.aload_n 0, 1) := by decide +kernel
theorem dL_refused_671 : decode cL_refused 671 = .ok (.bipush 7, 2) := by decide +kernel
theorem dL_refused_673 : decode cL_refused 673 = .ok (.iload 6, 2) := by decide +kernel
theorem dL_refused_675 : decode cL_refused 675 = .ok (.iconst 0, 1) := by decide +kernel
theorem dL_refused_676 : decode cL_refused 676 = .ok (.invokestatic 294, 3) := by decide +kernel
theorem dL_refused_679 : decode cL_refused 679 = .ok (.ifCond .eq 30, 3) := by decide +kernel
theorem dL_refused_682 : decode cL_refused 682 = .ok (.aload_n 0, 1) := by decide +kernel
theorem dL_refused_683 : decode cL_refused 683 = .ok (.iload 4, 2) := by decide +kernel
theorem dL_refused_685 : decode cL_refused 685 = .ok (.iconst 0, 1) := by decide +kernel
theorem dL_refused_686 : decode cL_refused 686 = .ok (.invokestatic 180, 3) := by decide +kernel
theorem dL_refused_689 : decode cL_refused 689 = .ok (.sipush (-1001), 3) := by decide +kernel
theorem dL_refused_692 : decode cL_refused 692 = .ok (.if_icmp .ne 17, 3) := by decide +kernel
theorem dL_refused_695 : decode cL_refused 695 = .ok (.aload_n 0, 1) := by decide +kernel
theorem dL_refused_696 : decode cL_refused 696 = .ok (.iconst 4, 1) := by decide +kernel
theorem dL_refused_697 : decode cL_refused 697 = .ok (.iconst 0, 1) := by decide +kernel
theorem dL_refused_698 : decode cL_refused 698 = .ok (.iconst 0, 1) := by decide +kernel
theorem dL_refused_699 : decode cL_refused 699 = .ok (.invokestatic 294, 3) := by decide +kernel
theorem dL_refused_702 : decode cL_refused 702 = .ok (.ifCond .eq 7, 3) := by decide +kernel
theorem dL_refused_705 : decode cL_refused 705 = .ok (.iconst 1, 1) := by decide +kernel
theorem dL_refused_706 : decode cL_refused 706 = .ok (.goto 4, 3) := by decide +kernel
theorem dL_refused_709 : decode cL_refused 709 = .ok (.iconst 0, 1) := by decide +kernel
theorem dL_refused_710 : decode cL_refused 710 = .ok (.istore 5, 2) := by decide +kernel
theorem dL_refused_712 : decode cL_refused 712 = .ok (.iload 5, 2) := by decide +kernel
theorem dL_refused_714 : decode cL_refused 714 = .ok (.ifCond .eq 130, 3) := by decide +kernel
theorem dL_refused_717 : decode cL_refused 717 = .ok (.aload_n 0, 1) := by decide +kernel
theorem dL_refused_718 : decode cL_refused 718 = .ok (.ldc_w 308, 3) := by decide +kernel
theorem dL_refused_721 : decode cL_refused 721 = .ok (.invokestatic 290, 3) := by decide +kernel
theorem dL_refused_724 : decode cL_refused 724 = .ok (.sipush (-1001), 3) := by decide +kernel
theorem dL_refused_727 : decode cL_refused 727 = .ok (.if_icmp .ne 117, 3) := by decide +kernel
theorem dL_refused_730 : decode cL_refused 730 = .ok (.aload_n 0, 1) := by decide +kernel
theorem dL_refused_731 : decode cL_refused 731 = .ok (.invokevirtual 310, 3) := by decide +kernel
theorem dL_refused_734 : decode cL_refused 734 = .ok (.ifCond .ne 110, 3) := by decide +kernel
theorem dL_refused_737 : decode cL_refused 737 = .ok (.aload_n 0, 1) := by decide +kernel
theorem dL_refused_738 : decode cL_refused 738 = .ok (.iconst 4, 1) := by decide +kernel
theorem dL_refused_739 : decode cL_refused 739 = .ok (.iconst 0, 1) := by decide +kernel
theorem dL_refused_740 : decode cL_refused 740 = .ok (.iconst 0, 1) := by decide +kernel
theorem dL_refused_741 : decode cL_refused 741 = .ok (.invokestatic 294, 3) := by decide +kernel
theorem dL_refused_744 : decode cL_refused 744 = .ok (.ifCond .eq 100, 3) := by decide +kernel
theorem dL_refused_747 : decode cL_refused 747 = .ok (.aload_n 0, 1) := by decide +kernel
theorem dL_refused_748 : decode cL_refused 748 = .ok (.ldc_w 313, 3) := by decide +kernel
theorem dL_refused_751 : decode cL_refused 751 = .ok (.invokestatic 290, 3) := by decide +kernel
theorem dL_refused_754 : decode cL_refused 754 = .ok (.sipush (-1002), 3) := by decide +kernel
theorem dL_refused_757 : decode cL_refused 757 = .ok (.if_icmp .ne 87, 3) := by decide +kernel
theorem dL_refused_760 : decode cL_refused 760 = .ok (.aload_n 0, 1) := by decide +kernel
theorem dL_refused_761 : decode cL_refused 761 = .ok (.iconst 1, 1) := by decide +kernel
theorem dL_refused_762 : decode cL_refused 762 = .ok (.iconst 0, 1) := by decide +kernel
theorem dL_refused_763 : decode cL_refused 763 = .ok (.iconst 3, 1) := by decide +kernel
theorem dL_refused_764 : decode cL_refused 764 = .ok (.invokestatic 294, 3) := by decide +kernel
theorem dL_refused_767 : decode cL_refused 767 = .ok (.ifCond .eq 77, 3) := by decide +kernel
theorem dL_refused_770 : decode cL_refused 770 = .ok (.aload_n 0, 1) := by decide +kernel
theorem dL_refused_771 : decode cL_refused 771 = .ok (.invokevirtual 310, 3) := by decide +kernel
theorem dL_refused_774 : decode cL_refused 774 = .ok (.iconst (-1), 1) := by decide +kernel
theorem dL_refused_775 : decode cL_refused 775 = .ok (.if_icmp .ne 69, 3) := by decide +kernel
theorem dL_refused_778 : decode cL_refused 778 = .ok (.aload_n 0, 1) := by decide +kernel
theorem dL_refused_779 : decode cL_refused 779 = .ok (.new 262, 3) := by decide +kernel
theorem dL_refused_782 : decode cL_refused 782 = .ok (.dup, 1) := by decide +kernel
theorem dL_refused_783 : decode cL_refused 783 = .ok (.invokespecial 264, 3) := by decide +kernel
theorem dL_refused_786 : decode cL_refused 786 = .ok (.ldc_w 315, 3) := by decide +kernel
theorem dL_refused_789 : decode cL_refused 789 = .ok (.invokevirtual 267, 3) := by decide +kernel
theorem dL_refused_792 : decode cL_refused 792 = .ok (.iload 4, 2) := by decide +kernel
theorem dL_refused_794 : decode cL_refused 794 = .ok (.invokevirtual 270, 3) := by decide +kernel
theorem dL_refused_797 : decode cL_refused 797 = .ok (.ldc_w 317, 3) := by decide +kernel
theorem dL_refused_800 : decode cL_refused 800 = .ok (.invokevirtual 267, 3) := by decide +kernel
theorem dL_refused_803 : decode cL_refused 803 = .ok (.iload 4, 2) := by decide +kernel
theorem dL_refused_805 : decode cL_refused 805 = .ok (.invokevirtual 270, 3) := by decide +kernel
theorem dL_refused_808 : decode cL_refused 808 = .ok (.invokevirtual 277, 3) := by decide +kernel
theorem dL_refused_811 : decode cL_refused 811 = .ok (.invokestatic 290, 3) := by decide +kernel
theorem dL_refused_814 : decode cL_refused 814 = .ok (.sipush (-1002), 3) := by decide +kernel
theorem dL_refused_817 : decode cL_refused 817 = .ok (.if_icmp .ne 27, 3) := by decide +kernel
theorem dL_refused_820 : decode cL_refused 820 = .ok (.aload_n 0, 1) := by decide +kernel
theorem dL_refused_821 : decode cL_refused 821 = .ok (.iconst 3, 1) := by decide +kernel
theorem dL_refused_822 : decode cL_refused 822 = .ok (.iload 4, 2) := by decide +kernel
theorem dL_refused_824 : decode cL_refused 824 = .ok (.iconst 1, 1) := by decide +kernel
theorem dL_refused_825 : decode cL_refused 825 = .ok (.invokestatic 294, 3) := by decide +kernel
theorem dL_refused_828 : decode cL_refused 828 = .ok (.ifCond .eq 16, 3) := by decide +kernel
theorem dL_refused_831 : decode cL_refused 831 = .ok (.aload_n 0, 1) := by decide +kernel
theorem dL_refused_832 : decode cL_refused 832 = .ok (.invokestatic 298, 3) := by decide +kernel
theorem dL_refused_835 : decode cL_refused 835 = .ok (.lload_n 1, 1) := by decide +kernel
theorem dL_refused_836 : decode cL_refused 836 = .ok (.lcmp, 1) := by decide +kernel
theorem dL_refused_837 : decode cL_refused 837 = .ok (.ifCond .ne 7, 3) := by decide +kernel
theorem dL_refused_840 : decode cL_refused 840 = .ok (.iconst 1, 1) := by decide +kernel
theorem dL_refused_841 : decode cL_refused 841 = .ok (.goto 4, 3) := by decide +kernel
theorem dL_refused_844 : decode cL_refused 844 = .ok (.iconst 0, 1) := by decide +kernel
theorem dL_refused_845 : decode cL_refused 845 = .ok (.ireturn, 1) := by decide +kernel
