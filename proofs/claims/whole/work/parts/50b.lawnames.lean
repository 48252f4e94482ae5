set_option maxRecDepth 20000 in
theorem ggL_law_X10_init : GoodIn wsL_law wsX10_init := goodIn_r _ [8, 9, 10, 11, 12, 13, 14, 15, 16, 17, 18, 19, 20, 21, 22, 23, 24, 25, 26, 27, 28, 29, 30, 31, 32, 33, 34, 35, 36, 37, 38, 39, 40, 41, 42, 43, 44, 45, 46, 47, 48, 49, 50, 51, 52, 53, 54, 55, 56, 57, 58, 59, 60, 61, 62, 63, 64, 65, 66, 67, 68, 69, 70, 71, 72, 73, 74, 75, 76, 858, 859, 860, 861, 862, 863, 864, 865, 866, 867, 868, 890, 891, 892, 893, 894, 895, 896, 897, 898, 899, 900, 901, 902, 903, 904, 905, 906, 907, 908, 909, 910, 911, 912, 913, 914, 915, 916, 917, 918, 919, 920] (by decide +kernel) (by decide +kernel)
set_option maxRecDepth 20000 in
theorem gL_law_X10_init : GoodIn wsL_law (wsX10_init) := ggL_law_X10_init
set_option maxRecDepth 20000 in
theorem ggL_law_X11_init : GoodIn wsL_law wsX11_init := goodIn_r _ [79, 80, 10, 11, 16, 81, 82, 83, 84, 85, 86, 87, 88, 89, 90, 91, 869, 870, 871, 872, 873, 874, 875, 876, 877, 878, 879, 880, 881, 882, 883, 884, 885, 886, 887, 888, 889] (by decide +kernel) (by decide +kernel)
set_option maxRecDepth 20000 in
theorem gL_law_X11_init : GoodIn wsL_law (wsX11_init) := ggL_law_X11_init
set_option maxRecDepth 20000 in
theorem ggL_law_X10_mill : GoodIn wsL_law wsX10_mill := goodIn_r _ [95, 96, 21, 97, 13, 98, 99, 100, 2, 101, 15, 102, 103, 104, 105, 106, 107, 39, 108, 109, 110, 111, 112, 113, 114, 115, 116, 117, 118, 119, 120, 121, 122, 123, 124, 125, 126, 20, 127, 45, 43, 128, 129, 130, 131, 132, 133, 134, 135, 136, 137, 138, 139, 140, 141, 142, 143, 144, 145, 146, 76, 147, 148, 149, 150, 151, 152, 153, 154, 155, 156, 157, 158, 159, 160, 161, 162, 163, 164, 165, 166, 167, 12, 168, 169, 170, 171, 172, 173, 174, 175, 176, 177, 178, 179, 10, 11, 180, 181, 182, 183, 184, 185, 186, 187, 188, 189, 858, 859, 860, 861, 862, 863, 864, 865, 866, 867, 868, 890, 891, 892, 893, 894, 914, 915, 916, 917, 921, 922, 923, 924, 925, 926] (by decide +kernel) (by decide +kernel)
set_option maxRecDepth 20000 in
theorem gL_law_X10_mill : GoodIn wsL_law (wsV RL 13 RX10 yX10_mill wsX10_mill) := goodIn_app (goodIn_of _ (by decide +kernel)) ggL_law_X10_mill
set_option maxRecDepth 20000 in
theorem ggL_law_X11_mill : GoodIn wsL_law wsX11_mill := goodIn_r _ [193, 194, 195, 81, 82, 83, 196, 197, 5, 198, 199, 200, 201, 202, 203, 204, 205, 206, 207, 208, 209, 210, 211, 88, 89, 212, 213, 214, 215, 216, 217, 218, 219, 220, 221, 222, 90, 223, 224, 225, 226, 227, 228, 229, 230, 231, 232, 233, 234, 235, 236, 237, 238, 239, 869, 870, 871, 872, 873, 874, 875, 876, 877, 878, 879, 880, 881, 882, 883, 884, 885, 886, 887, 888, 889] (by decide +kernel) (by decide +kernel)
set_option maxRecDepth 20000 in
theorem gL_law_X11_mill : GoodIn wsL_law (wsV RL 17 RX11 yX11_mill wsX11_mill) := goodIn_app (goodIn_of _ (by decide +kernel)) ggL_law_X11_mill
set_option maxRecDepth 20000 in
theorem ggL_law_X10_ofMill : GoodIn wsL_law wsX10_ofMill := goodIn_r _ [243, 244, 245, 246, 247, 2, 248, 97, 13, 102, 103, 104, 249, 250, 251, 252, 253, 167, 254, 255, 256, 257, 258, 169, 259, 260, 164, 261, 923, 924, 925, 926, 921, 922, 858, 859, 860, 861, 862, 863, 864, 865, 866, 867, 868] (by decide +kernel) (by decide +kernel)
set_option maxRecDepth 20000 in
theorem gL_law_X10_ofMill : GoodIn wsL_law (wsV RL 18 RX10 yX10_ofMill wsX10_ofMill) := goodIn_app (goodIn_of _ (by decide +kernel)) ggL_law_X10_ofMill
set_option maxRecDepth 20000 in
theorem ggL_law_X11_ofMill : GoodIn wsL_law wsX11_ofMill := goodIn_r _ [265, 266, 81, 267, 268, 269, 5, 270, 195, 200, 201, 202, 271, 272, 273, 274, 82, 869, 870, 871, 872, 873, 874, 875, 876, 877, 878, 879, 880, 881, 882, 883, 884, 885, 886, 887, 888, 889] (by decide +kernel) (by decide +kernel)
set_option maxRecDepth 20000 in
theorem gL_law_X11_ofMill : GoodIn wsL_law (wsV RL 22 RX11 yX11_ofMill wsX11_ofMill) := goodIn_app (goodIn_of _ (by decide +kernel)) ggL_law_X11_ofMill
set_option maxRecDepth 20000 in
theorem ggL_law_X10_turn : GoodIn wsL_law wsX10_turn := goodIn_r _ [278, 279, 280, 244, 245, 246, 247, 2, 248, 97, 13, 102, 103, 104, 923, 924, 925, 926, 921, 922, 858, 859, 860, 861, 862, 863, 864, 865, 866, 867, 868] (by decide +kernel) (by decide +kernel)
set_option maxRecDepth 20000 in
theorem gL_law_X10_turn : GoodIn wsL_law (wsV RL 23 RX10 yX10_turn wsX10_turn) := goodIn_app (goodIn_of _ (by decide +kernel)) ggL_law_X10_turn
set_option maxRecDepth 20000 in
theorem ggL_law_X11_turn : GoodIn wsL_law wsX11_turn := goodIn_r _ [284, 285, 82, 267, 268, 269, 5, 270, 195, 200, 201, 202, 228, 229, 230, 231, 232, 233, 234, 235, 236, 271, 272, 273, 274, 869, 870, 871, 872, 873, 874, 875, 876, 877, 878, 879, 880, 881, 882, 883, 884, 885, 886, 887, 888, 889] (by decide +kernel) (by decide +kernel)
set_option maxRecDepth 20000 in
theorem gL_law_X11_turn : GoodIn wsL_law (wsV RL 27 RX11 yX11_turn wsX11_turn) := goodIn_app (goodIn_of _ (by decide +kernel)) ggL_law_X11_turn
set_option maxRecDepth 20000 in
theorem ggL_law_X10_row : GoodIn wsL_law wsX10_row := goodIn_r _ [289, 290, 25, 244, 245, 246, 247, 2, 248, 97, 13, 102, 103, 104, 291, 292, 293, 24, 294, 50, 295, 858, 859, 860, 861, 862, 863, 864, 865, 866, 867, 868, 923, 924, 925, 926, 921, 922, 895, 896] (by decide +kernel) (by decide +kernel)
set_option maxRecDepth 20000 in
theorem gL_law_X10_row : GoodIn wsL_law (wsV RL 28 RX10 yX10_row wsX10_row) := goodIn_app (goodIn_of _ (by decide +kernel)) ggL_law_X10_row
set_option maxRecDepth 20000 in
theorem ggL_law_X11_row : GoodIn wsL_law wsX11_row := goodIn_r _ [299, 300, 267, 268, 269, 5, 270, 195, 200, 201, 202, 301, 302, 303, 304, 305, 306, 307, 308, 271, 272, 273, 274, 82, 869, 870, 871, 872, 873, 874, 875, 876, 877, 878, 879, 880, 881, 882, 883, 884, 885, 886, 887, 888, 889] (by decide +kernel) (by decide +kernel)
set_option maxRecDepth 20000 in
theorem gL_law_X11_row : GoodIn wsL_law (wsV RL 32 RX11 yX11_row wsX11_row) := goodIn_app (goodIn_of _ (by decide +kernel)) ggL_law_X11_row
set_option maxRecDepth 20000 in
theorem ggL_law_X10_margin : GoodIn wsL_law wsX10_margin := goodIn_r _ [312, 290, 245, 246, 247, 2, 248, 97, 13, 102, 103, 104, 313, 314, 315, 316, 25, 244, 291, 292, 293, 24, 294, 50, 295, 317, 318, 319, 320, 858, 859, 860, 861, 862, 863, 864, 865, 866, 867, 868, 923, 924, 925, 926, 921, 922, 895, 896] (by decide +kernel) (by decide +kernel)
set_option maxRecDepth 20000 in
theorem gL_law_X10_margin : GoodIn wsL_law (wsV RL 33 RX10 yX10_margin wsX10_margin) := goodIn_app (goodIn_of _ (by decide +kernel)) ggL_law_X10_margin
set_option maxRecDepth 20000 in
theorem ggL_law_X11_margin : GoodIn wsL_law wsX11_margin := goodIn_r _ [324, 267, 268, 269, 5, 270, 195, 200, 201, 202, 301, 302, 303, 304, 325, 326, 327, 328, 305, 306, 307, 308, 271, 272, 273, 274, 82, 869, 870, 871, 872, 873, 874, 875, 876, 877, 878, 879, 880, 881, 882, 883, 884, 885, 886, 887, 888, 889] (by decide +kernel) (by decide +kernel)
set_option maxRecDepth 20000 in
theorem gL_law_X11_margin : GoodIn wsL_law (wsV RL 37 RX11 yX11_margin wsX11_margin) := goodIn_app (goodIn_of _ (by decide +kernel)) ggL_law_X11_margin
set_option maxRecDepth 20000 in
theorem ggL_law_X10_near : GoodIn wsL_law wsX10_near := goodIn_r _ [332, 245, 246, 247, 2, 248, 97, 13, 102, 103, 104, 333, 334, 335, 336, 25, 244, 291, 292, 293, 24, 294, 50, 295, 337, 338, 339, 340, 341, 318, 319, 320, 858, 859, 860, 861, 862, 863, 864, 865, 866, 867, 868, 923, 924, 925, 926, 921, 922, 895, 896] (by decide +kernel) (by decide +kernel)
set_option maxRecDepth 20000 in
theorem gL_law_X10_near : GoodIn wsL_law (wsV RL 38 RX10 yX10_near wsX10_near) := goodIn_app (goodIn_of _ (by decide +kernel)) ggL_law_X10_near
set_option maxRecDepth 20000 in
theorem ggL_law_X11_near : GoodIn wsL_law wsX11_near := goodIn_r _ [345, 267, 268, 269, 5, 270, 195, 200, 201, 202, 346, 347, 348, 349, 271, 272, 273, 274, 82, 305, 306, 307, 308, 325, 326, 327, 328, 869, 870, 871, 872, 873, 874, 875, 876, 877, 878, 879, 880, 881, 882, 883, 884, 885, 886, 887, 888, 889] (by decide +kernel) (by decide +kernel)
set_option maxRecDepth 20000 in
theorem gL_law_X11_near : GoodIn wsL_law (wsV RL 42 RX11 yX11_near wsX11_near) := goodIn_app (goodIn_of _ (by decide +kernel)) ggL_law_X11_near
set_option maxRecDepth 20000 in
theorem ggL_law_X10_line : GoodIn wsL_law wsX10_line := goodIn_r _ [353, 244, 33, 279, 280, 245, 246, 247, 2, 248, 97, 13, 102, 103, 104, 354, 355, 356, 32, 357, 358, 333, 334, 335, 336, 25, 291, 292, 293, 24, 294, 50, 295, 337, 338, 339, 340, 341, 318, 319, 320, 359, 360, 361, 362, 363, 364, 365, 366, 367, 368, 923, 924, 925, 926, 921, 922, 858, 859, 860, 861, 862, 863, 864, 865, 866, 867, 868, 910, 911, 912, 895, 896] (by decide +kernel) (by decide +kernel)
set_option maxRecDepth 20000 in
theorem gL_law_X10_line : GoodIn wsL_law (wsV RL 43 RX10 yX10_line wsX10_line) := goodIn_app (goodIn_of _ (by decide +kernel)) ggL_law_X10_line
set_option maxRecDepth 20000 in
theorem ggL_law_X11_line : GoodIn wsL_law wsX11_line := goodIn_r _ [372, 373, 194, 82, 267, 268, 269, 5, 270, 195, 200, 201, 202, 271, 272, 273, 274, 231, 232, 233, 234, 235, 236, 346, 347, 348, 349, 305, 306, 307, 308, 325, 326, 327, 328, 869, 870, 871, 872, 873, 874, 875, 876, 877, 878, 879, 880, 881, 882, 883, 884, 885, 886, 887, 888, 889] (by decide +kernel) (by decide +kernel)
set_option maxRecDepth 20000 in
theorem gL_law_X11_line : GoodIn wsL_law (wsV RL 46 RX11 yX11_line wsX11_line) := goodIn_app (goodIn_of _ (by decide +kernel)) ggL_law_X11_line
set_option maxRecDepth 20000 in
theorem ggL_law_X10_better : GoodIn wsL_law wsX10_better := goodIn_r _ [377, 244, 280, 245, 246, 247, 2, 248, 97, 13, 102, 103, 104, 313, 314, 315, 316, 25, 291, 292, 293, 24, 294, 50, 295, 317, 318, 319, 320, 378, 379, 380, 381, 923, 924, 925, 926, 921, 922, 858, 859, 860, 861, 862, 863, 864, 865, 866, 867, 868, 895, 896] (by decide +kernel) (by decide +kernel)
set_option maxRecDepth 20000 in
theorem gL_law_X10_better : GoodIn wsL_law (wsV RL 47 RX10 yX10_better wsX10_better) := goodIn_app (goodIn_of _ (by decide +kernel)) ggL_law_X10_better
set_option maxRecDepth 20000 in
theorem ggL_law_X11_better : GoodIn wsL_law wsX11_better := goodIn_r _ [385, 373, 82, 267, 268, 269, 5, 270, 195, 200, 201, 202, 271, 272, 273, 274, 234, 235, 236, 325, 326, 327, 328, 305, 306, 307, 308, 869, 870, 871, 872, 873, 874, 875, 876, 877, 878, 879, 880, 881, 882, 883, 884, 885, 886, 887, 888, 889] (by decide +kernel) (by decide +kernel)
set_option maxRecDepth 20000 in
theorem gL_law_X11_better : GoodIn wsL_law (wsV RL 50 RX11 yX11_better wsX11_better) := goodIn_app (goodIn_of _ (by decide +kernel)) ggL_law_X11_better
set_option maxRecDepth 20000 in
theorem ggL_law_X10_off : GoodIn wsL_law wsX10_off := goodIn_r _ [389, 290, 244, 245, 246, 247, 2, 248, 97, 13, 102, 103, 104, 390, 391, 392, 393, 394, 395, 396, 397, 398, 399, 923, 924, 925, 926, 921, 922, 858, 859, 860, 861, 862, 863, 864, 865, 866, 867, 868] (by decide +kernel) (by decide +kernel)
set_option maxRecDepth 20000 in
theorem gL_law_X10_off : GoodIn wsL_law (wsV RL 51 RX10 yX10_off wsX10_off) := goodIn_app (goodIn_of _ (by decide +kernel)) ggL_law_X10_off
set_option maxRecDepth 20000 in
theorem ggL_law_X11_off : GoodIn wsL_law wsX11_off := goodIn_r _ [403, 404, 405, 267, 268, 269, 5, 270, 195, 200, 201, 202, 301, 302, 303, 304, 271, 272, 273, 274, 82, 406, 407, 408, 869, 870, 871, 872, 873, 874, 875, 876, 877, 878, 879, 880, 881, 882, 883, 884, 885, 886, 887, 888, 889] (by decide +kernel) (by decide +kernel)
set_option maxRecDepth 20000 in
theorem gL_law_X11_off : GoodIn wsL_law (wsV RL 55 RX11 yX11_off wsX11_off) := goodIn_app (goodIn_of _ (by decide +kernel)) ggL_law_X11_off
set_option maxRecDepth 20000 in
theorem ggL_law_X10_years : GoodIn wsL_law wsX10_years := goodIn_r _ [412, 244, 279, 280, 245, 246, 247, 2, 248, 97, 13, 102, 103, 104, 413, 414, 415, 333, 334, 335, 336, 25, 291, 292, 293, 24, 294, 50, 295, 337, 338, 339, 340, 341, 318, 319, 320, 923, 924, 925, 926, 921, 922, 858, 859, 860, 861, 862, 863, 864, 865, 866, 867, 868, 895, 896] (by decide +kernel) (by decide +kernel)
set_option maxRecDepth 20000 in
theorem gL_law_X10_years : GoodIn wsL_law (wsV RL 56 RX10 yX10_years wsX10_years) := goodIn_app (goodIn_of _ (by decide +kernel)) ggL_law_X10_years
set_option maxRecDepth 20000 in
theorem ggL_law_X11_years : GoodIn wsL_law wsX11_years := goodIn_r _ [419, 373, 420, 266, 82, 267, 268, 269, 5, 270, 195, 200, 201, 202, 271, 272, 273, 274, 231, 232, 233, 234, 235, 236, 421, 422, 423, 346, 347, 348, 349, 305, 306, 307, 308, 325, 326, 327, 328, 869, 870, 871, 872, 873, 874, 875, 876, 877, 878, 879, 880, 881, 882, 883, 884, 885, 886, 887, 888, 889] (by decide +kernel) (by decide +kernel)
set_option maxRecDepth 20000 in
theorem gL_law_X11_years : GoodIn wsL_law (wsV RL 59 RX11 yX11_years wsX11_years) := goodIn_app (goodIn_of _ (by decide +kernel)) ggL_law_X11_years
set_option maxRecDepth 20000 in
theorem ggL_law_X10_far : GoodIn wsL_law wsX10_far := goodIn_r _ [427, 29, 245, 246, 247, 2, 248, 97, 13, 102, 103, 104, 428, 429, 430, 431, 432, 433, 28, 434, 58, 59, 435, 436, 437, 395, 438, 439, 440, 441, 54, 442, 443, 444, 57, 445, 446, 65, 66, 447, 448, 449, 450, 451, 452, 453, 454, 455, 60, 456, 457, 458, 459, 460, 461, 462, 463, 464, 465, 466, 467, 468, 469, 470, 471, 472, 473, 474, 61, 475, 476, 477, 478, 479, 480, 481, 482, 483, 484, 485, 486, 487, 488, 489, 490, 169, 491, 187, 414, 415, 492, 493, 494, 495, 496, 497, 498, 499, 167, 500, 501, 502, 503, 504, 505, 506, 507, 508, 509, 510, 511, 164, 512, 513, 514, 515, 516, 517, 518, 519, 520, 521, 522, 523, 524, 525, 526, 527, 528, 529, 530, 531, 532, 533, 534, 535, 536, 537, 538, 539, 540, 541, 542, 543, 544, 545, 546, 547, 548, 858, 859, 860, 861, 862, 863, 864, 865, 866, 867, 868, 897, 898, 899, 900, 901, 902, 903, 904, 905, 906, 907, 908, 909, 918, 919, 920, 923, 924, 925, 926, 921, 922] (by decide +kernel) (by decide +kernel)
set_option maxRecDepth 20000 in
theorem gL_law_X10_far : GoodIn wsL_law (wsV RL 60 RX10 yX10_far wsX10_far) := goodIn_app (goodIn_of _ (by decide +kernel)) ggL_law_X10_far
set_option maxRecDepth 20000 in
theorem ggL_law_X11_far : GoodIn wsL_law wsX11_far := goodIn_r _ [552, 300, 267, 268, 269, 5, 270, 195, 200, 201, 202, 553, 554, 555, 556, 557, 558, 559, 560, 561, 562, 563, 564, 565, 84, 85, 86, 271, 272, 273, 274, 82, 566, 567, 568, 569, 570, 571, 572, 573, 574, 575, 576, 577, 578, 579, 580, 581, 582, 583, 421, 422, 423, 584, 585, 586, 587, 81, 588, 589, 590, 591, 592, 593, 594, 595, 596, 597, 598, 599, 600, 601, 602, 869, 870, 871, 872, 873, 874, 875, 876, 877, 878, 879, 880, 881, 882, 883, 884, 885, 886, 887, 888, 889] (by decide +kernel) (by decide +kernel)
set_option maxRecDepth 20000 in
theorem gL_law_X11_far : GoodIn wsL_law (wsV RL 63 RX11 yX11_far wsX11_far) := goodIn_app (goodIn_of _ (by decide +kernel)) ggL_law_X11_far
set_option maxRecDepth 20000 in
theorem ggL_law_X10_after : GoodIn wsL_law wsX10_after := goodIn_r _ [606, 29, 245, 246, 247, 2, 248, 97, 13, 102, 103, 104, 428, 429, 430, 431, 432, 433, 28, 434, 58, 59, 435, 436, 437, 395, 438, 439, 440, 441, 54, 442, 443, 444, 57, 445, 446, 65, 66, 447, 448, 449, 450, 451, 607, 608, 609, 610, 479, 480, 481, 482, 467, 468, 469, 470, 483, 484, 485, 486, 487, 488, 489, 490, 169, 491, 187, 414, 415, 492, 493, 494, 495, 496, 497, 498, 499, 167, 500, 501, 502, 503, 504, 505, 506, 507, 508, 509, 510, 511, 164, 512, 513, 514, 515, 516, 517, 518, 519, 520, 521, 522, 523, 524, 525, 526, 527, 528, 611, 858, 859, 860, 861, 862, 863, 864, 865, 866, 867, 868, 897, 898, 899, 900, 901, 902, 903, 904, 905, 906, 907, 908, 909, 918, 919, 920, 923, 924, 925, 926, 921, 922] (by decide +kernel) (by decide +kernel)
set_option maxRecDepth 20000 in
theorem gL_law_X10_after : GoodIn wsL_law (wsV RL 64 RX10 yX10_after wsX10_after) := goodIn_app (goodIn_of _ (by decide +kernel)) ggL_law_X10_after
set_option maxRecDepth 20000 in
theorem ggL_law_X11_after : GoodIn wsL_law wsX11_after := goodIn_r _ [615, 616, 194, 84, 85, 86, 267, 268, 269, 5, 270, 195, 200, 201, 202, 553, 554, 555, 556, 557, 558, 559, 560, 561, 562, 563, 564, 565, 271, 272, 273, 274, 82, 572, 573, 574, 575, 576, 577, 578, 579, 580, 581, 582, 583, 421, 422, 423, 584, 585, 586, 587, 81, 588, 589, 590, 869, 870, 871, 872, 873, 874, 875, 876, 877, 878, 879, 880, 881, 882, 883, 884, 885, 886, 887, 888, 889] (by decide +kernel) (by decide +kernel)
set_option maxRecDepth 20000 in
theorem gL_law_X11_after : GoodIn wsL_law (wsV RL 68 RX11 yX11_after wsX11_after) := goodIn_app (goodIn_of _ (by decide +kernel)) ggL_law_X11_after
set_option maxRecDepth 20000 in
theorem ggL_law_X10_reach : GoodIn wsL_law wsX10_reach := goodIn_r _ [620, 29, 245, 246, 247, 2, 248, 97, 13, 102, 103, 104, 431, 432, 433, 28, 434, 58, 59, 435, 436, 437, 395, 438, 439, 440, 441, 54, 442, 443, 444, 57, 445, 446, 65, 66, 447, 448, 449, 450, 451, 452, 453, 454, 455, 60, 456, 457, 458, 459, 460, 461, 462, 463, 464, 465, 466, 467, 468, 469, 470, 471, 472, 473, 474, 61, 475, 476, 477, 478, 479, 480, 481, 482, 483, 484, 485, 486, 487, 488, 489, 490, 169, 491, 187, 414, 415, 492, 493, 494, 495, 496, 497, 498, 499, 167, 500, 501, 502, 503, 504, 505, 506, 507, 508, 509, 510, 511, 164, 512, 513, 514, 515, 516, 517, 518, 519, 520, 521, 522, 523, 524, 525, 526, 527, 528, 529, 530, 531, 532, 533, 534, 535, 536, 537, 538, 539, 540, 621, 546, 547, 548, 858, 859, 860, 861, 862, 863, 864, 865, 866, 867, 868, 897, 898, 899, 900, 901, 902, 903, 904, 905, 906, 907, 908, 909, 918, 919, 920, 923, 924, 925, 926, 921, 922] (by decide +kernel) (by decide +kernel)
set_option maxRecDepth 20000 in
theorem gL_law_X10_reach : GoodIn wsL_law (wsV RL 69 RX10 yX10_reach wsX10_reach) := goodIn_app (goodIn_of _ (by decide +kernel)) ggL_law_X10_reach
set_option maxRecDepth 20000 in
theorem ggL_law_X11_reach : GoodIn wsL_law wsX11_reach := goodIn_r _ [625, 570, 267, 268, 269, 5, 270, 195, 200, 201, 202, 558, 559, 560, 561, 562, 563, 564, 565, 84, 85, 86, 271, 272, 273, 274, 82, 566, 567, 568, 569, 571, 572, 573, 574, 575, 576, 577, 578, 579, 580, 581, 582, 583, 421, 422, 423, 584, 585, 586, 587, 81, 588, 589, 590, 591, 592, 593, 594, 869, 870, 871, 872, 873, 874, 875, 876, 877, 878, 879, 880, 881, 882, 883, 884, 885, 886, 887, 888, 889] (by decide +kernel) (by decide +kernel)
set_option maxRecDepth 20000 in
theorem gL_law_X11_reach : GoodIn wsL_law (wsV RL 72 RX11 yX11_reach wsX11_reach) := goodIn_app (goodIn_of _ (by decide +kernel)) ggL_law_X11_reach
set_option maxRecDepth 20000 in
theorem ggL_law_X10_two : GoodIn wsL_law wsX10_two := goodIn_r _ [629, 29, 245, 246, 247, 2, 248, 97, 13, 102, 103, 104, 431, 432, 433, 28, 434, 58, 59, 435, 436, 437, 395, 438, 439, 440, 441, 54, 442, 443, 444, 57, 445, 446, 65, 66, 447, 448, 449, 450, 451, 452, 453, 454, 455, 60, 456, 457, 458, 459, 460, 461, 462, 463, 464, 465, 466, 467, 468, 469, 470, 471, 472, 473, 474, 61, 475, 476, 477, 478, 479, 480, 481, 482, 483, 484, 485, 486, 487, 488, 489, 490, 169, 491, 187, 414, 415, 492, 493, 494, 495, 496, 497, 498, 499, 167, 500, 501, 502, 503, 504, 505, 506, 507, 508, 509, 510, 511, 164, 512, 513, 514, 515, 516, 517, 518, 519, 520, 521, 522, 523, 524, 525, 526, 527, 528, 529, 530, 531, 532, 533, 534, 535, 536, 537, 538, 539, 540, 541, 542, 543, 544, 545, 546, 547, 548, 858, 859, 860, 861, 862, 863, 864, 865, 866, 867, 868, 897, 898, 899, 900, 901, 902, 903, 904, 905, 906, 907, 908, 909, 918, 919, 920, 923, 924, 925, 926, 921, 922] (by decide +kernel) (by decide +kernel)
set_option maxRecDepth 20000 in
theorem gL_law_X10_two : GoodIn wsL_law (wsV RL 73 RX10 yX10_two wsX10_two) := goodIn_app (goodIn_of _ (by decide +kernel)) ggL_law_X10_two
set_option maxRecDepth 20000 in
theorem ggL_law_X11_two : GoodIn wsL_law wsX11_two := goodIn_r _ [633, 556, 634, 373, 85, 571, 267, 268, 269, 5, 270, 195, 200, 201, 202, 558, 559, 560, 561, 562, 563, 564, 565, 84, 86, 271, 272, 273, 274, 82, 566, 567, 568, 569, 570, 572, 573, 574, 575, 576, 577, 578, 579, 580, 581, 582, 583, 421, 422, 423, 584, 585, 586, 587, 81, 588, 589, 590, 591, 592, 593, 594, 595, 596, 597, 598, 599, 600, 601, 602, 869, 870, 871, 872, 873, 874, 875, 876, 877, 878, 879, 880, 881, 882, 883, 884, 885, 886, 887, 888, 889] (by decide +kernel) (by decide +kernel)
set_option maxRecDepth 20000 in
theorem gL_law_X11_two : GoodIn wsL_law (wsV RL 76 RX11 yX11_two wsX11_two) := goodIn_app (goodIn_of _ (by decide +kernel)) ggL_law_X11_two
