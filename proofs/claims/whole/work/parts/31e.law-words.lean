set_option maxRecDepth 20000 in
theorem ggL_law_X5_lose : GoodIn wsL_law wsX5_lose := goodIn_r _ [629, 15, 358, 359, 2, 360, 105, 106, 107, 361, 362, 363, 364, 33, 772, 773, 774, 775, 776, 777, 778, 779, 780, 818, 819, 820, 821] (by decide +kernel) (by decide +kernel)
set_option maxRecDepth 20000 in
theorem gL_law_X5_lose : GoodIn wsL_law (wsV RL 98 RX5 yX5_lose wsX5_lose) := goodIn_app (goodIn_of _ (by decide +kernel)) ggL_law_X5_lose
set_option maxRecDepth 20000 in
theorem ggL_law_X6_lose : GoodIn wsL_law wsX6_lose := goodIn_r _ [633, 83, 84, 376, 377, 5, 378, 160, 161, 162, 163, 379, 380, 381, 382, 383, 781, 782, 783, 784, 785, 786, 787, 788, 789, 790, 791, 792, 793, 794, 795, 796, 797, 798, 799, 800, 801] (by decide +kernel) (by decide +kernel)
set_option maxRecDepth 20000 in
theorem gL_law_X6_lose : GoodIn wsL_law (wsV RL 102 RX6 yX6_lose wsX6_lose) := goodIn_app (goodIn_of _ (by decide +kernel)) ggL_law_X6_lose
set_option maxRecDepth 20000 in
theorem ggL_law_X5_lay : GoodIn wsL_law wsX5_lay := goodIn_r _ [637, 15, 358, 359, 2, 360, 105, 106, 107, 638, 639, 640, 361, 362, 363, 364, 33, 641, 642, 643, 35, 644, 78, 75, 645, 646, 647, 648, 77, 772, 773, 774, 775, 776, 777, 778, 779, 780, 818, 819, 820, 821] (by decide +kernel) (by decide +kernel)
set_option maxRecDepth 20000 in
theorem gL_law_X5_lay : GoodIn wsL_law (wsV RL 103 RX5 yX5_lay wsX5_lay) := goodIn_app (goodIn_of _ (by decide +kernel)) ggL_law_X5_lay
set_option maxRecDepth 20000 in
theorem ggL_law_X6_lay : GoodIn wsL_law wsX6_lay := goodIn_r _ [652, 389, 85, 376, 377, 5, 378, 160, 161, 162, 163, 653, 654, 655, 656, 83, 84, 379, 380, 381, 382, 383, 657, 658, 659, 781, 782, 783, 784, 785, 786, 787, 788, 789, 790, 791, 792, 793, 794, 795, 796, 797, 798, 799, 800, 801] (by decide +kernel) (by decide +kernel)
set_option maxRecDepth 20000 in
theorem gL_law_X6_lay : GoodIn wsL_law (wsV RL 106 RX6 yX6_lay wsX6_lay) := goodIn_app (goodIn_of _ (by decide +kernel)) ggL_law_X6_lay
set_option maxRecDepth 20000 in
theorem ggL_law_X5_get : GoodIn wsL_law wsX5_get := goodIn_r _ [663, 664, 15, 33, 358, 359, 2, 360, 105, 106, 107, 638, 639, 640, 368, 369, 370, 35, 371, 78, 75, 772, 773, 774, 775, 776, 777, 778, 779, 780, 818, 819, 820, 821] (by decide +kernel) (by decide +kernel)
set_option maxRecDepth 20000 in
theorem gL_law_X5_get : GoodIn wsL_law (wsV RL 107 RX5 yX5_get wsX5_get) := goodIn_app (goodIn_of _ (by decide +kernel)) ggL_law_X5_get
set_option maxRecDepth 20000 in
theorem ggL_law_X6_get : GoodIn wsL_law wsX6_get := goodIn_r _ [668, 389, 669, 85, 376, 377, 5, 378, 160, 161, 162, 163, 653, 654, 655, 656, 83, 84, 379, 380, 381, 382, 383, 781, 782, 783, 784, 785, 786, 787, 788, 789, 790, 791, 792, 793, 794, 795, 796, 797, 798, 799, 800, 801] (by decide +kernel) (by decide +kernel)
set_option maxRecDepth 20000 in
theorem gL_law_X6_get : GoodIn wsL_law (wsV RL 110 RX6 yX6_get wsX6_get) := goodIn_app (goodIn_of _ (by decide +kernel)) ggL_law_X6_get
set_option maxRecDepth 20000 in
theorem ggL_law_X5_copy : GoodIn wsL_law wsX5_copy := goodIn_r _ [673, 15, 674, 675, 676, 677, 358, 359, 2, 360, 105, 106, 107, 361, 362, 363, 364, 33, 678, 679, 680, 35, 681, 78, 772, 773, 774, 775, 776, 777, 778, 779, 780, 818, 819, 820, 821] (by decide +kernel) (by decide +kernel)
set_option maxRecDepth 20000 in
theorem gL_law_X5_copy : GoodIn wsL_law (wsV RL 111 RX5 yX5_copy wsX5_copy) := goodIn_app (goodIn_of _ (by decide +kernel)) ggL_law_X5_copy
set_option maxRecDepth 20000 in
theorem ggL_law_X6_copy : GoodIn wsL_law wsX6_copy := goodIn_r _ [685, 83, 84, 86, 85, 376, 377, 5, 378, 160, 161, 162, 163, 379, 380, 381, 382, 383, 781, 782, 783, 784, 785, 786, 787, 788, 789, 790, 791, 792, 793, 794, 795, 796, 797, 798, 799, 800, 801] (by decide +kernel) (by decide +kernel)
set_option maxRecDepth 20000 in
theorem gL_law_X6_copy : GoodIn wsL_law (wsV RL 115 RX6 yX6_copy wsX6_copy) := goodIn_app (goodIn_of _ (by decide +kernel)) ggL_law_X6_copy
set_option maxRecDepth 20000 in
theorem ggL_law_X5_write : GoodIn wsL_law wsX5_write := goodIn_r _ [689, 15, 32, 13, 690, 137, 138, 139, 691, 334, 335, 102, 103, 2, 104, 105, 106, 107, 358, 359, 360, 361, 362, 363, 364, 33, 448, 449, 450, 31, 451, 66, 68, 69, 70, 71, 452, 307, 308, 21, 309, 47, 453, 112, 113, 114, 454, 455, 456, 457, 458, 429, 430, 431, 119, 120, 121, 122, 459, 460, 461, 462, 67, 486, 487, 488, 489, 641, 642, 643, 35, 644, 78, 75, 645, 646, 647, 648, 77, 772, 773, 774, 775, 776, 777, 778, 779, 780, 818, 819, 820, 821, 812, 813, 814, 815, 816, 817, 806] (by decide +kernel) (by decide +kernel)
set_option maxRecDepth 20000 in
theorem gL_law_X5_write : GoodIn wsL_law (wsV RL 116 RX5 yX5_write wsX5_write) := goodIn_app (goodIn_of _ (by decide +kernel)) ggL_law_X5_write
set_option maxRecDepth 20000 in
theorem ggL_law_X6_write : GoodIn wsL_law wsX6_write := goodIn_r _ [695, 495, 83, 84, 475, 85, 96, 157, 158, 5, 159, 160, 161, 162, 163, 376, 377, 378, 379, 380, 381, 382, 383, 471, 472, 473, 474, 97, 388, 93, 94, 95, 390, 391, 392, 393, 440, 441, 442, 443, 87, 192, 193, 194, 195, 164, 165, 166, 167, 476, 477, 478, 479, 480, 481, 394, 395, 396, 397, 571, 572, 573, 657, 658, 659, 781, 782, 783, 784, 785, 786, 787, 788, 789, 790, 791, 792, 793, 794, 795, 796, 797, 798, 799, 800, 801] (by decide +kernel) (by decide +kernel)
set_option maxRecDepth 20000 in
theorem gL_law_X6_write : GoodIn wsL_law (wsV RL 119 RX6 yX6_write wsX6_write) := goodIn_app (goodIn_of _ (by decide +kernel)) ggL_law_X6_write
set_option maxRecDepth 20000 in
theorem ggL_law_X5_count : GoodIn wsL_law wsX5_count := goodIn_r _ [699, 13, 19, 33, 141, 142, 143, 21, 144, 47, 145, 146, 147, 148, 149, 150, 151, 700, 701, 702, 2, 703, 32, 448, 449, 450, 31, 451, 66, 68, 69, 70, 71, 452, 307, 308, 309, 453, 112, 113, 114, 454, 455, 456, 457, 334, 138, 335, 458, 429, 430, 431, 119, 120, 121, 122, 459, 460, 461, 462, 67, 106, 107, 704, 705, 706, 707, 27, 302, 303, 304, 26, 305, 53, 54, 57, 306, 310, 58, 59, 60, 61, 311, 267, 268, 269, 312, 313, 314, 315, 55, 316, 317, 318, 319, 56, 320, 321, 322, 323, 324, 325, 326, 327, 328, 329, 330, 331, 332, 137, 139, 333, 708, 709, 710, 711, 220, 712, 772, 773, 774, 775, 776, 777, 778, 779, 780, 802, 803, 804, 805, 806, 812, 813, 814, 815, 816, 817, 807, 808, 809, 810, 811] (by decide +kernel) (by decide +kernel)
set_option maxRecDepth 20000 in
theorem gL_law_X5_count : GoodIn wsL_law (wsV RL 120 RX5 yX5_count wsX5_count) := goodIn_app (goodIn_of _ (by decide +kernel)) ggL_law_X5_count
set_option maxRecDepth 20000 in
theorem ggL_law_X6_count : GoodIn wsL_law wsX6_count := goodIn_r _ [716, 187, 383, 188, 189, 190, 5, 191, 192, 193, 194, 195, 87, 164, 165, 166, 167, 161, 162, 163, 717, 718, 719, 720, 467, 468, 469, 470, 97, 471, 472, 473, 474, 475, 388, 93, 94, 95, 96, 390, 391, 392, 393, 440, 441, 442, 443, 476, 477, 478, 479, 480, 481, 394, 395, 396, 397, 721, 722, 723, 724, 529, 530, 531, 532, 349, 345, 346, 347, 348, 91, 350, 351, 352, 353, 92, 725, 726, 727, 728, 781, 782, 783, 784, 785, 786, 787, 788, 789, 790, 791, 792, 793, 794, 795, 796, 797, 798, 799, 800, 801] (by decide +kernel) (by decide +kernel)
set_option maxRecDepth 20000 in
theorem gL_law_X6_count : GoodIn wsL_law (wsV RL 123 RX6 yX6_count wsX6_count) := goodIn_app (goodIn_of _ (by decide +kernel)) ggL_law_X6_count
set_option maxRecDepth 20000 in
theorem ggL_law_X5_digest : GoodIn wsL_law wsX5_digest := goodIn_r _ [732, 733, 734, 735, 697, 698, 2, 699, 13, 19, 33, 141, 142, 143, 21, 144, 47, 145, 146, 147, 148, 149, 150, 151, 700, 701, 702, 703, 32, 448, 449, 450, 31, 451, 66, 68, 69, 70, 71, 452, 307, 308, 309, 453, 112, 113, 114, 454, 455, 456, 457, 334, 138, 335, 458, 429, 430, 431, 119, 120, 121, 122, 459, 460, 461, 462, 67, 106, 107, 704, 705, 706, 707, 27, 302, 303, 304, 26, 305, 53, 54, 57, 306, 310, 58, 59, 60, 61, 311, 267, 268, 269, 312, 313, 314, 315, 55, 316, 317, 318, 319, 56, 320, 321, 322, 323, 324, 325, 326, 327, 328, 329, 330, 331, 332, 137, 139, 333, 708, 709, 710, 711, 220, 712, 736, 737, 738, 739, 740, 445, 446, 447, 102, 103, 104, 105, 741, 505, 506, 507, 23, 28, 508, 509, 510, 511, 512, 233, 234, 235, 236, 127, 513, 514, 515, 516, 517, 518, 519, 520, 742, 483, 484, 485, 486, 487, 488, 489, 743, 744, 745, 746, 747, 412, 413, 414, 108, 109, 110, 415, 748, 421, 422, 423, 424, 425, 426, 427, 428, 749, 546, 547, 548, 336, 750, 575, 576, 577, 578, 579, 580, 581, 582, 583, 584, 585, 586, 587, 751, 752, 753, 754, 755, 554, 555, 556, 557, 756, 757, 758, 759, 760, 593, 594, 595, 596, 597, 598, 599, 600, 601, 602, 603, 604, 282, 283, 284, 285, 772, 773, 774, 775, 776, 777, 778, 779, 780, 802, 803, 804, 805, 806, 812, 813, 814, 815, 816, 817, 807, 808, 809, 810, 811] (by decide +kernel) (by decide +kernel)
set_option maxRecDepth 20000 in
theorem gL_law_X5_digest : GoodIn wsL_law (wsV RL 124 RX5 yX5_digest wsX5_digest) := goodIn_app (goodIn_of _ (by decide +kernel)) ggL_law_X5_digest
