set_option maxRecDepth 20000 in
theorem ggL_law_X6_init : GoodIn wsL_law wsX6_init := goodIn_r _ [8, 9, 10, 11, 12, 13, 14, 15, 16, 17, 18, 19, 20, 21, 22, 23, 24, 25, 26, 27, 28, 29, 30, 31, 32, 33, 34, 35, 36, 37, 38, 39, 40, 41, 42, 43, 44, 45, 46, 47, 48, 49, 50, 51, 52, 53, 54, 55, 56, 57, 58, 59, 60, 61, 62, 63, 64, 65, 66, 67, 68, 69, 70, 71, 72, 73, 74, 75, 76, 77, 78, 79, 80, 81, 82, 83, 84, 85, 86, 87, 88, 89, 90, 91, 92, 93, 94, 95, 96, 97, 98, 99, 100, 101, 102, 103, 104, 105, 106, 107, 108, 109, 110, 111, 112, 113, 114, 115, 116, 117, 118, 119, 120, 121, 122, 123, 124, 125, 126, 127, 128, 129, 130, 131, 132, 133, 134, 135, 136, 137, 138, 139, 140, 141, 142, 896, 897, 898, 899, 900, 869, 870, 871, 872, 873, 874, 875, 901, 902, 903, 904, 905, 906, 907, 908, 909, 910, 911, 912, 913, 914, 915, 916, 917, 918, 919, 920] (by decide +kernel) (by decide +kernel)
set_option maxRecDepth 20000 in
theorem gL_law_X6_init : GoodIn wsL_law (wsX6_init) := ggL_law_X6_init
set_option maxRecDepth 20000 in
theorem ggL_law_X7_init : GoodIn wsL_law wsX7_init := goodIn_r _ [145, 146, 10, 11, 41, 147, 148, 149, 150, 151, 111, 152, 153, 154, 155, 156, 157, 158, 159, 160, 161, 162, 163, 164, 165, 166, 167, 5, 168, 169, 170, 171, 172, 173, 174, 175, 176, 177, 178, 179, 876, 877, 878, 879, 880, 881, 882, 883, 884, 885, 886, 887, 888, 889, 890, 891, 892, 893, 894, 895] (by decide +kernel) (by decide +kernel)
set_option maxRecDepth 20000 in
theorem gL_law_X7_init : GoodIn wsL_law (wsX7_init) := ggL_law_X7_init
set_option maxRecDepth 20000 in
theorem ggL_law_X6_begin : GoodIn wsL_law wsX6_begin := goodIn_r _ [183, 15, 19, 23, 31, 184, 185, 14, 186, 187, 47, 48, 49, 50, 42, 43, 44, 45, 51, 52, 53, 54, 55, 56, 57, 58, 59, 60, 61, 62, 188, 71, 72, 18, 73, 69, 74, 75, 76, 77, 78, 67, 79, 80, 81, 82, 68, 83, 84, 85, 86, 87, 88, 89, 90, 91, 92, 93, 94, 95, 96, 97, 98, 99, 100, 101, 102, 103, 104, 105, 106, 189, 190, 191, 22, 192, 112, 193, 135, 136, 30, 137, 129, 869, 870, 871, 872, 873, 874, 875, 896, 897, 898, 899, 900, 901, 902, 903, 904, 905, 906, 907, 908, 914, 915, 916, 917, 918] (by decide +kernel) (by decide +kernel)
set_option maxRecDepth 20000 in
theorem gL_law_X6_begin : GoodIn wsL_law (wsV RL 13 RX6 yX6_begin wsX6_begin) := goodIn_app (goodIn_of _ (by decide +kernel)) ggL_law_X6_begin
set_option maxRecDepth 20000 in
theorem ggL_law_X7_begin : GoodIn wsL_law wsX7_begin := goodIn_r _ [197, 169, 165, 166, 167, 5, 168, 147, 148, 170, 149, 150, 151, 152, 153, 171, 172, 173, 174, 175, 176, 177, 178, 179, 876, 877, 878, 879, 880, 881, 882, 883, 884, 885, 886, 887, 888, 889, 890, 891, 892, 893, 894, 895] (by decide +kernel) (by decide +kernel)
set_option maxRecDepth 20000 in
theorem gL_law_X7_begin : GoodIn wsL_law (wsV RL 17 RX7 yX7_begin wsX7_begin) := goodIn_app (goodIn_of _ (by decide +kernel)) ggL_law_X7_begin
set_option maxRecDepth 20000 in
theorem ggL_law_X6_reckon : GoodIn wsL_law wsX6_reckon := goodIn_r _ [201, 15, 202, 203, 204, 14, 205, 50, 206, 96, 97, 98, 42, 207, 208, 209, 210, 44, 211, 92, 93, 94, 43, 212, 104, 105, 106, 45, 869, 870, 871, 872, 873, 874, 875, 896, 897, 898, 899, 900] (by decide +kernel) (by decide +kernel)
set_option maxRecDepth 20000 in
theorem gL_law_X6_reckon : GoodIn wsL_law (wsV RL 18 RX6 yX6_reckon wsX6_reckon) := goodIn_app (goodIn_of _ (by decide +kernel)) ggL_law_X6_reckon
set_option maxRecDepth 20000 in
theorem ggL_law_X7_reckon : GoodIn wsL_law wsX7_reckon := goodIn_r _ [216, 217, 218, 5, 219, 220, 221, 222, 223, 169, 224, 225, 226, 227, 147, 228, 229, 230, 231, 232, 233, 234, 235, 148, 236, 237, 238, 239, 876, 877, 878, 879, 880, 881, 882, 883, 884, 885, 886, 887, 888, 889, 890, 891, 892, 893, 894, 895] (by decide +kernel) (by decide +kernel)
set_option maxRecDepth 20000 in
theorem gL_law_X7_reckon : GoodIn wsL_law (wsV RL 22 RX7 yX7_reckon wsX7_reckon) := goodIn_app (goodIn_of _ (by decide +kernel)) ggL_law_X7_reckon
set_option maxRecDepth 20000 in
theorem ggL_law_X6_triple : GoodIn wsL_law wsX6_triple := goodIn_r _ [243, 19, 244, 245, 246, 18, 247, 74, 248, 84, 85, 86, 67, 869, 870, 871, 872, 873, 874, 875, 901, 902, 903, 904] (by decide +kernel) (by decide +kernel)
set_option maxRecDepth 20000 in
theorem gL_law_X6_triple : GoodIn wsL_law (wsV RL 23 RX6 yX6_triple wsX6_triple) := goodIn_app (goodIn_of _ (by decide +kernel)) ggL_law_X6_triple
set_option maxRecDepth 20000 in
theorem ggL_law_X7_triple : GoodIn wsL_law wsX7_triple := goodIn_r _ [252, 149, 150, 151, 253, 254, 255, 5, 256, 170, 217, 218, 219, 257, 258, 259, 876, 877, 878, 879, 880, 881, 882, 883, 884, 885, 886, 887, 888, 889, 890, 891, 892, 893, 894, 895] (by decide +kernel) (by decide +kernel)
set_option maxRecDepth 20000 in
theorem gL_law_X7_triple : GoodIn wsL_law (wsV RL 27 RX7 yX7_triple wsX7_triple) := goodIn_app (goodIn_of _ (by decide +kernel)) ggL_law_X7_triple
set_option maxRecDepth 20000 in
theorem ggL_law_X6_number : GoodIn wsL_law wsX6_number := goodIn_r _ [263, 15, 19, 202, 203, 204, 14, 205, 50, 264, 265, 266, 18, 267, 69, 103, 104, 105, 106, 43, 45, 869, 870, 871, 872, 873, 874, 875, 896, 897, 898, 899, 900, 901, 902, 903, 904] (by decide +kernel) (by decide +kernel)
set_option maxRecDepth 20000 in
theorem gL_law_X6_number : GoodIn wsL_law (wsV RL 28 RX6 yX6_number wsX6_number) := goodIn_app (goodIn_of _ (by decide +kernel)) ggL_law_X6_number
set_option maxRecDepth 20000 in
theorem ggL_law_X7_number : GoodIn wsL_law wsX7_number := goodIn_r _ [271, 220, 221, 222, 5, 223, 169, 217, 218, 219, 272, 273, 274, 275, 149, 150, 151, 236, 237, 238, 239, 232, 233, 234, 235, 148, 876, 877, 878, 879, 880, 881, 882, 883, 884, 885, 886, 887, 888, 889, 890, 891, 892, 893, 894, 895] (by decide +kernel) (by decide +kernel)
set_option maxRecDepth 20000 in
theorem gL_law_X7_number : GoodIn wsL_law (wsV RL 31 RX7 yX7_number wsX7_number) := goodIn_app (goodIn_of _ (by decide +kernel)) ggL_law_X7_number
set_option maxRecDepth 20000 in
theorem ggL_law_X6_on : GoodIn wsL_law wsX6_on := goodIn_r _ [279, 19, 244, 245, 246, 18, 247, 74, 280, 281, 282, 283, 87, 88, 89, 90, 69, 83, 84, 85, 86, 67, 91, 92, 93, 14, 94, 43, 95, 96, 97, 98, 42, 284, 285, 2, 286, 869, 870, 871, 872, 873, 874, 875, 901, 902, 903, 904, 896, 897, 898, 899, 900] (by decide +kernel) (by decide +kernel)
set_option maxRecDepth 20000 in
theorem gL_law_X6_on : GoodIn wsL_law (wsV RL 32 RX6 yX6_on wsX6_on) := goodIn_app (goodIn_of _ (by decide +kernel)) ggL_law_X6_on
set_option maxRecDepth 20000 in
theorem ggL_law_X7_on : GoodIn wsL_law wsX7_on := goodIn_r _ [290, 253, 254, 255, 5, 256, 170, 217, 218, 219, 291, 292, 293, 294, 149, 150, 151, 232, 233, 234, 235, 148, 224, 225, 226, 227, 147, 876, 877, 878, 879, 880, 881, 882, 883, 884, 885, 886, 887, 888, 889, 890, 891, 892, 893, 894, 895] (by decide +kernel) (by decide +kernel)
set_option maxRecDepth 20000 in
theorem gL_law_X7_on : GoodIn wsL_law (wsV RL 35 RX7 yX7_on wsX7_on) := goodIn_app (goodIn_of _ (by decide +kernel)) ggL_law_X7_on
set_option maxRecDepth 20000 in
theorem ggL_law_X6_join : GoodIn wsL_law wsX6_join := goodIn_r _ [298, 19, 244, 245, 246, 18, 247, 74, 299, 300, 301, 302, 69, 83, 84, 85, 86, 67, 303, 304, 305, 14, 306, 307, 92, 93, 94, 43, 308, 208, 209, 210, 42, 44, 264, 265, 266, 267, 103, 104, 105, 106, 45, 869, 870, 871, 872, 873, 874, 875, 901, 902, 903, 904, 896, 897, 898, 899, 900] (by decide +kernel) (by decide +kernel)
set_option maxRecDepth 20000 in
theorem gL_law_X6_join : GoodIn wsL_law (wsV RL 36 RX6 yX6_join wsX6_join) := goodIn_app (goodIn_of _ (by decide +kernel)) ggL_law_X6_join
set_option maxRecDepth 20000 in
theorem ggL_law_X7_join : GoodIn wsL_law wsX7_join := goodIn_r _ [312, 253, 254, 255, 5, 256, 170, 217, 218, 219, 313, 314, 315, 316, 291, 292, 293, 294, 149, 150, 151, 232, 233, 234, 235, 148, 224, 225, 226, 227, 147, 876, 877, 878, 879, 880, 881, 882, 883, 884, 885, 886, 887, 888, 889, 890, 891, 892, 893, 894, 895] (by decide +kernel) (by decide +kernel)
set_option maxRecDepth 20000 in
theorem gL_law_X7_join : GoodIn wsL_law (wsV RL 39 RX7 yX7_join wsX7_join) := goodIn_app (goodIn_of _ (by decide +kernel)) ggL_law_X7_join
set_option maxRecDepth 20000 in
theorem ggL_law_X6_row : GoodIn wsL_law wsX6_row := goodIn_r _ [320, 19, 15, 244, 245, 246, 18, 247, 74, 321, 322, 323, 324, 68, 869, 870, 871, 872, 873, 874, 875, 896, 897, 898, 899, 900, 901, 902, 903, 904] (by decide +kernel) (by decide +kernel)
set_option maxRecDepth 20000 in
theorem gL_law_X6_row : GoodIn wsL_law (wsV RL 40 RX6 yX6_row wsX6_row) := goodIn_app (goodIn_of _ (by decide +kernel)) ggL_law_X6_row
set_option maxRecDepth 20000 in
theorem ggL_law_X7_row : GoodIn wsL_law wsX7_row := goodIn_r _ [328, 170, 253, 254, 255, 5, 256, 217, 218, 219, 291, 292, 293, 294, 149, 150, 151, 232, 233, 234, 235, 148, 224, 225, 226, 227, 147, 876, 877, 878, 879, 880, 881, 882, 883, 884, 885, 886, 887, 888, 889, 890, 891, 892, 893, 894, 895] (by decide +kernel) (by decide +kernel)
set_option maxRecDepth 20000 in
theorem gL_law_X7_row : GoodIn wsL_law (wsV RL 43 RX7 yX7_row wsX7_row) := goodIn_app (goodIn_of _ (by decide +kernel)) ggL_law_X7_row
set_option maxRecDepth 20000 in
theorem ggL_law_X6_put : GoodIn wsL_law wsX6_put := goodIn_r _ [332, 19, 23, 244, 245, 246, 18, 247, 74, 284, 285, 2, 286, 869, 870, 871, 872, 873, 874, 875, 905, 906, 907, 908, 901, 902, 903, 904] (by decide +kernel) (by decide +kernel)
set_option maxRecDepth 20000 in
theorem gL_law_X6_put : GoodIn wsL_law (wsV RL 44 RX6 yX6_put wsX6_put) := goodIn_app (goodIn_of _ (by decide +kernel)) ggL_law_X6_put
set_option maxRecDepth 20000 in
theorem ggL_law_X7_put : GoodIn wsL_law wsX7_put := goodIn_r _ [336, 152, 253, 254, 255, 5, 256, 170, 217, 218, 219, 876, 877, 878, 879, 880, 881, 882, 883, 884, 885, 886, 887, 888, 889, 890, 891, 892, 893, 894, 895] (by decide +kernel) (by decide +kernel)
set_option maxRecDepth 20000 in
theorem gL_law_X7_put : GoodIn wsL_law (wsV RL 48 RX7 yX7_put wsX7_put) := goodIn_app (goodIn_of _ (by decide +kernel)) ggL_law_X7_put
set_option maxRecDepth 20000 in
theorem ggL_law_X6_member : GoodIn wsL_law wsX6_member := goodIn_r _ [340, 19, 23, 341, 342, 343, 18, 344, 74, 869, 870, 871, 872, 873, 874, 875, 905, 906, 907, 908, 901, 902, 903, 904] (by decide +kernel) (by decide +kernel)
set_option maxRecDepth 20000 in
theorem gL_law_X6_member : GoodIn wsL_law (wsV RL 49 RX6 yX6_member wsX6_member) := goodIn_app (goodIn_of _ (by decide +kernel)) ggL_law_X6_member
set_option maxRecDepth 20000 in
theorem ggL_law_X7_member : GoodIn wsL_law wsX7_member := goodIn_r _ [348, 152, 349, 350, 351, 5, 352, 170, 876, 877, 878, 879, 880, 881, 882, 883, 884, 885, 886, 887, 888, 889, 890, 891, 892, 893, 894, 895] (by decide +kernel) (by decide +kernel)
set_option maxRecDepth 20000 in
theorem gL_law_X7_member : GoodIn wsL_law (wsV RL 52 RX7 yX7_member wsX7_member) := goodIn_app (goodIn_of _ (by decide +kernel)) ggL_law_X7_member
set_option maxRecDepth 20000 in
theorem ggL_law_X6_count : GoodIn wsL_law wsX6_count := goodIn_r _ [356, 15, 19, 23, 36, 357, 358, 359, 18, 360, 74, 361, 362, 363, 22, 364, 115, 112, 114, 365, 366, 367, 368, 369, 370, 371, 372, 373, 374, 375, 376, 69, 377, 322, 323, 324, 68, 378, 379, 380, 381, 382, 383, 384, 385, 113, 386, 387, 388, 389, 390, 391, 392, 393, 394, 395, 396, 397, 398, 399, 400, 401, 402, 403, 404, 405, 406, 407, 408, 409, 410, 411, 412, 35, 413, 141, 142, 414, 415, 416, 417, 418, 419, 420, 869, 870, 871, 872, 873, 874, 875, 896, 897, 898, 899, 900, 901, 902, 903, 904, 905, 906, 907, 908, 919, 920] (by decide +kernel) (by decide +kernel)
set_option maxRecDepth 20000 in
theorem gL_law_X6_count : GoodIn wsL_law (wsV RL 53 RX6 yX6_count wsX6_count) := goodIn_app (goodIn_of _ (by decide +kernel)) ggL_law_X6_count
set_option maxRecDepth 20000 in
theorem ggL_law_X7_count : GoodIn wsL_law wsX7_count := goodIn_r _ [424, 169, 170, 152, 154, 164, 425, 426, 427, 5, 428, 429, 430, 431, 432, 433, 434, 435, 436, 437, 438, 439, 440, 291, 292, 293, 294, 149, 150, 151, 232, 233, 234, 235, 148, 224, 225, 226, 227, 147, 441, 442, 443, 444, 313, 314, 315, 316, 445, 446, 447, 448, 449, 450, 451, 452, 453, 454, 455, 456, 163, 876, 877, 878, 879, 880, 881, 882, 883, 884, 885, 886, 887, 888, 889, 890, 891, 892, 893, 894, 895] (by decide +kernel) (by decide +kernel)
set_option maxRecDepth 20000 in
theorem gL_law_X7_count : GoodIn wsL_law (wsV RL 56 RX7 yX7_count wsX7_count) := goodIn_app (goodIn_of _ (by decide +kernel)) ggL_law_X7_count
set_option maxRecDepth 20000 in
theorem ggL_law_X6_meets : GoodIn wsL_law wsX6_meets := goodIn_r _ [460, 23, 461, 370, 371, 22, 372, 115, 112, 114, 373, 374, 375, 18, 376, 74, 69, 377, 322, 323, 324, 68, 869, 870, 871, 872, 873, 874, 875, 905, 906, 907, 908, 901, 902, 903, 904, 896, 897, 898, 899, 900] (by decide +kernel) (by decide +kernel)
set_option maxRecDepth 20000 in
theorem gL_law_X6_meets : GoodIn wsL_law (wsV RL 57 RX6 yX6_meets wsX6_meets) := goodIn_app (goodIn_of _ (by decide +kernel)) ggL_law_X6_meets
set_option maxRecDepth 20000 in
theorem ggL_law_X7_meets : GoodIn wsL_law wsX7_meets := goodIn_r _ [465, 170, 152, 437, 438, 439, 5, 440, 291, 292, 293, 294, 149, 150, 151, 232, 233, 234, 235, 148, 224, 225, 226, 227, 147, 876, 877, 878, 879, 880, 881, 882, 883, 884, 885, 886, 887, 888, 889, 890, 891, 892, 893, 894, 895] (by decide +kernel) (by decide +kernel)
set_option maxRecDepth 20000 in
theorem gL_law_X7_meets : GoodIn wsL_law (wsV RL 60 RX7 yX7_meets wsX7_meets) := goodIn_app (goodIn_of _ (by decide +kernel)) ggL_law_X7_meets
set_option maxRecDepth 20000 in
theorem ggL_law_X6_is : GoodIn wsL_law wsX6_is := goodIn_r _ [469, 23, 19, 470, 399, 400, 22, 401, 402, 403, 404, 405, 115, 112, 114, 406, 407, 408, 409, 373, 374, 375, 18, 376, 74, 69, 377, 322, 323, 324, 68, 284, 285, 2, 286, 394, 395, 396, 397, 398, 378, 379, 380, 381, 471, 366, 367, 368, 369, 370, 371, 372, 382, 383, 384, 385, 113, 386, 387, 388, 389, 390, 391, 392, 393, 357, 358, 359, 360, 869, 870, 871, 872, 873, 874, 875, 905, 906, 907, 908, 901, 902, 903, 904, 896, 897, 898, 899, 900] (by decide +kernel) (by decide +kernel)
set_option maxRecDepth 20000 in
theorem gL_law_X6_is : GoodIn wsL_law (wsV RL 61 RX6 yX6_is wsX6_is) := goodIn_app (goodIn_of _ (by decide +kernel)) ggL_law_X6_is
set_option maxRecDepth 20000 in
theorem ggL_law_X7_is : GoodIn wsL_law wsX7_is := goodIn_r _ [475, 152, 154, 449, 450, 451, 5, 452, 170, 437, 438, 439, 440, 291, 292, 293, 294, 149, 150, 151, 232, 233, 234, 235, 148, 224, 225, 226, 227, 147, 445, 446, 447, 448, 433, 434, 435, 436, 441, 442, 443, 444, 313, 314, 315, 316, 425, 426, 427, 428, 876, 877, 878, 879, 880, 881, 882, 883, 884, 885, 886, 887, 888, 889, 890, 891, 892, 893, 894, 895] (by decide +kernel) (by decide +kernel)
set_option maxRecDepth 20000 in
theorem gL_law_X7_is : GoodIn wsL_law (wsV RL 64 RX7 yX7_is wsX7_is) := goodIn_app (goodIn_of _ (by decide +kernel)) ggL_law_X7_is
set_option maxRecDepth 20000 in
theorem ggL_law_X6_greatest : GoodIn wsL_law wsX6_greatest := goodIn_r _ [479, 15, 23, 19, 470, 399, 400, 22, 401, 402, 403, 404, 405, 115, 112, 114, 406, 407, 408, 409, 373, 374, 375, 18, 376, 74, 69, 377, 322, 323, 324, 68, 480, 481, 482, 483, 113, 386, 387, 388, 389, 378, 379, 380, 381, 357, 358, 359, 360, 341, 342, 343, 344, 869, 870, 871, 872, 873, 874, 875, 896, 897, 898, 899, 900, 905, 906, 907, 908, 901, 902, 903, 904] (by decide +kernel) (by decide +kernel)
set_option maxRecDepth 20000 in
theorem gL_law_X6_greatest : GoodIn wsL_law (wsV RL 65 RX6 yX6_greatest wsX6_greatest) := goodIn_app (goodIn_of _ (by decide +kernel)) ggL_law_X6_greatest
set_option maxRecDepth 20000 in
theorem ggL_law_X7_greatest : GoodIn wsL_law wsX7_greatest := goodIn_r _ [487, 169, 152, 156, 449, 450, 451, 5, 452, 170, 437, 438, 439, 440, 291, 292, 293, 294, 149, 150, 151, 232, 233, 234, 235, 148, 224, 225, 226, 227, 147, 488, 489, 490, 491, 155, 157, 492, 493, 494, 495, 425, 426, 427, 428, 349, 350, 351, 352, 876, 877, 878, 879, 880, 881, 882, 883, 884, 885, 886, 887, 888, 889, 890, 891, 892, 893, 894, 895] (by decide +kernel) (by decide +kernel)
set_option maxRecDepth 20000 in
theorem gL_law_X7_greatest : GoodIn wsL_law (wsV RL 68 RX7 yX7_greatest wsX7_greatest) := goodIn_app (goodIn_of _ (by decide +kernel)) ggL_law_X7_greatest
set_option maxRecDepth 20000 in
theorem ggL_law_X6_closure : GoodIn wsL_law wsX6_closure := goodIn_r _ [499, 19, 23, 382, 383, 384, 22, 385, 115, 113, 114, 386, 387, 388, 389, 112, 373, 374, 375, 18, 376, 74, 69, 377, 322, 323, 324, 68, 390, 391, 392, 393, 378, 379, 380, 381, 341, 342, 343, 344, 869, 870, 871, 872, 873, 874, 875, 905, 906, 907, 908, 901, 902, 903, 904, 896, 897, 898, 899, 900] (by decide +kernel) (by decide +kernel)
set_option maxRecDepth 20000 in
theorem gL_law_X6_closure : GoodIn wsL_law (wsV RL 69 RX6 yX6_closure wsX6_closure) := goodIn_app (goodIn_of _ (by decide +kernel)) ggL_law_X6_closure
set_option maxRecDepth 20000 in
theorem ggL_law_X7_closure : GoodIn wsL_law wsX7_closure := goodIn_r _ [503, 154, 441, 442, 443, 5, 444, 170, 152, 437, 438, 439, 440, 291, 292, 293, 294, 149, 150, 151, 232, 233, 234, 235, 148, 224, 225, 226, 227, 147, 313, 314, 315, 316, 349, 350, 351, 352, 876, 877, 878, 879, 880, 881, 882, 883, 884, 885, 886, 887, 888, 889, 890, 891, 892, 893, 894, 895] (by decide +kernel) (by decide +kernel)
set_option maxRecDepth 20000 in
theorem gL_law_X7_closure : GoodIn wsL_law (wsV RL 72 RX7 yX7_closure wsX7_closure) := goodIn_app (goodIn_of _ (by decide +kernel)) ggL_law_X7_closure
set_option maxRecDepth 20000 in
theorem ggL_law_X6_curve : GoodIn wsL_law wsX6_curve := goodIn_r _ [507, 15, 27, 23, 19, 202, 203, 204, 14, 205, 50, 508, 509, 510, 26, 511, 120, 512, 513, 514, 515, 123, 124, 516, 517, 518, 519, 520, 84, 85, 18, 86, 67, 521, 92, 93, 94, 43, 522, 96, 97, 98, 42, 357, 358, 359, 360, 74, 869, 870, 871, 872, 873, 874, 875, 905, 906, 907, 908, 896, 897, 898, 899, 900, 909, 910, 911, 912, 913, 901, 902, 903, 904] (by decide +kernel) (by decide +kernel)
set_option maxRecDepth 20000 in
theorem gL_law_X6_curve : GoodIn wsL_law (wsV RL 73 RX6 yX6_curve wsX6_curve) := goodIn_app (goodIn_of _ (by decide +kernel)) ggL_law_X6_curve
set_option maxRecDepth 20000 in
theorem ggL_law_X7_curve : GoodIn wsL_law wsX7_curve := goodIn_r _ [526, 170, 152, 220, 221, 222, 5, 223, 169, 217, 218, 219, 527, 528, 529, 530, 149, 150, 151, 232, 233, 234, 235, 148, 224, 225, 226, 227, 147, 425, 426, 427, 428, 876, 877, 878, 879, 880, 881, 882, 883, 884, 885, 886, 887, 888, 889, 890, 891, 892, 893, 894, 895] (by decide +kernel) (by decide +kernel)
set_option maxRecDepth 20000 in
theorem gL_law_X7_curve : GoodIn wsL_law (wsV RL 77 RX7 yX7_curve wsX7_curve) := goodIn_app (goodIn_of _ (by decide +kernel)) ggL_law_X7_curve
set_option maxRecDepth 20000 in
theorem ggL_law_X6_through : GoodIn wsL_law wsX6_through := goodIn_r _ [534, 19, 23, 27, 357, 358, 359, 18, 360, 74, 535, 403, 404, 22, 405, 115, 112, 114, 406, 407, 408, 409, 373, 374, 375, 376, 69, 377, 322, 323, 324, 68, 536, 537, 538, 26, 539, 120, 122, 124, 121, 540, 541, 542, 543, 123, 544, 342, 343, 344, 516, 517, 518, 519, 520, 84, 85, 86, 67, 521, 92, 93, 14, 94, 43, 545, 546, 547, 548, 549, 550, 551, 552, 553, 554, 555, 556, 557, 558, 559, 560, 561, 104, 105, 106, 45, 562, 563, 564, 565, 566, 208, 209, 210, 42, 44, 567, 100, 101, 102, 568, 2, 569, 212, 869, 870, 871, 872, 873, 874, 875, 905, 906, 907, 908, 909, 910, 911, 912, 913, 901, 902, 903, 904, 896, 897, 898, 899, 900] (by decide +kernel) (by decide +kernel)
set_option maxRecDepth 20000 in
theorem gL_law_X6_through : GoodIn wsL_law (wsV RL 78 RX6 yX6_through wsX6_through) := goodIn_app (goodIn_of _ (by decide +kernel)) ggL_law_X6_through
set_option maxRecDepth 20000 in
theorem ggL_law_X7_through : GoodIn wsL_law wsX7_through := goodIn_r _ [573, 152, 170, 217, 218, 5, 219, 425, 426, 427, 428, 437, 438, 439, 440, 291, 292, 293, 294, 149, 150, 151, 232, 233, 234, 235, 148, 224, 225, 226, 227, 147, 574, 575, 576, 577, 578, 579, 580, 581, 169, 582, 583, 584, 585, 527, 528, 529, 530, 876, 877, 878, 879, 880, 881, 882, 883, 884, 885, 886, 887, 888, 889, 890, 891, 892, 893, 894, 895] (by decide +kernel) (by decide +kernel)
set_option maxRecDepth 20000 in
theorem gL_law_X7_through : GoodIn wsL_law (wsV RL 81 RX7 yX7_through wsX7_through) := goodIn_app (goodIn_of _ (by decide +kernel)) ggL_law_X7_through
set_option maxRecDepth 20000 in
theorem ggL_law_X6_entry : GoodIn wsL_law wsX6_entry := goodIn_r _ [589, 15, 31, 202, 203, 204, 14, 205, 50, 869, 870, 871, 872, 873, 874, 875, 914, 915, 916, 917, 918, 896, 897, 898, 899, 900] (by decide +kernel) (by decide +kernel)
set_option maxRecDepth 20000 in
theorem gL_law_X6_entry : GoodIn wsL_law (wsV RL 82 RX6 yX6_entry wsX6_entry) := goodIn_app (goodIn_of _ (by decide +kernel)) ggL_law_X6_entry
set_option maxRecDepth 20000 in
theorem ggL_law_X7_entry : GoodIn wsL_law wsX7_entry := goodIn_r _ [593, 153, 217, 218, 5, 219, 220, 221, 222, 223, 169, 876, 877, 878, 879, 880, 881, 882, 883, 884, 885, 886, 887, 888, 889, 890, 891, 892, 893, 894, 895] (by decide +kernel) (by decide +kernel)
set_option maxRecDepth 20000 in
theorem gL_law_X7_entry : GoodIn wsL_law (wsV RL 85 RX7 yX7_entry wsX7_entry) := goodIn_app (goodIn_of _ (by decide +kernel)) ggL_law_X7_entry
set_option maxRecDepth 20000 in
theorem ggL_law_X6_determinant : GoodIn wsL_law wsX6_determinant := goodIn_r _ [597, 31, 598, 599, 600, 30, 601, 133, 129, 602, 603, 604, 605, 606, 304, 305, 14, 306, 307, 92, 93, 94, 43, 308, 208, 209, 210, 42, 44, 607, 608, 96, 97, 98, 869, 870, 871, 872, 873, 874, 875, 914, 915, 916, 917, 918, 896, 897, 898, 899, 900] (by decide +kernel) (by decide +kernel)
set_option maxRecDepth 20000 in
theorem gL_law_X6_determinant : GoodIn wsL_law (wsV RL 86 RX6 yX6_determinant wsX6_determinant) := goodIn_app (goodIn_of _ (by decide +kernel)) ggL_law_X6_determinant
set_option maxRecDepth 20000 in
theorem ggL_law_X7_determinant : GoodIn wsL_law wsX7_determinant := goodIn_r _ [612, 153, 613, 614, 615, 5, 616, 232, 233, 234, 235, 148, 228, 229, 230, 231, 224, 225, 226, 227, 147, 876, 877, 878, 879, 880, 881, 882, 883, 884, 885, 886, 887, 888, 889, 890, 891, 892, 893, 894, 895] (by decide +kernel) (by decide +kernel)
set_option maxRecDepth 20000 in
theorem gL_law_X7_determinant : GoodIn wsL_law (wsV RL 90 RX7 yX7_determinant wsX7_determinant) := goodIn_app (goodIn_of _ (by decide +kernel)) ggL_law_X7_determinant
set_option maxRecDepth 20000 in
theorem ggL_law_X6_image : GoodIn wsL_law wsX6_image := goodIn_r _ [620, 19, 31, 244, 245, 246, 18, 247, 74, 621, 622, 623, 30, 624, 132, 625, 626, 627, 628, 133, 129, 629, 84, 85, 86, 67, 607, 92, 93, 14, 94, 43, 608, 96, 97, 98, 42, 630, 265, 266, 267, 69, 103, 104, 105, 106, 45, 869, 870, 871, 872, 873, 874, 875, 901, 902, 903, 904, 914, 915, 916, 917, 918, 896, 897, 898, 899, 900] (by decide +kernel) (by decide +kernel)
set_option maxRecDepth 20000 in
theorem gL_law_X6_image : GoodIn wsL_law (wsV RL 91 RX6 yX6_image wsX6_image) := goodIn_app (goodIn_of _ (by decide +kernel)) ggL_law_X6_image
set_option maxRecDepth 20000 in
theorem ggL_law_X7_image : GoodIn wsL_law wsX7_image := goodIn_r _ [634, 253, 254, 255, 5, 256, 170, 217, 218, 219, 635, 636, 637, 638, 149, 150, 151, 639, 640, 641, 642, 153, 232, 233, 234, 235, 148, 224, 225, 226, 227, 147, 272, 273, 274, 275, 236, 237, 238, 239, 876, 877, 878, 879, 880, 881, 882, 883, 884, 885, 886, 887, 888, 889, 890, 891, 892, 893, 894, 895] (by decide +kernel) (by decide +kernel)
set_option maxRecDepth 20000 in
theorem gL_law_X7_image : GoodIn wsL_law (wsV RL 94 RX7 yX7_image wsX7_image) := goodIn_app (goodIn_of _ (by decide +kernel)) ggL_law_X7_image
set_option maxRecDepth 20000 in
theorem ggL_law_X6_order : GoodIn wsL_law wsX6_order := goodIn_r _ [646, 31, 598, 599, 600, 30, 601, 133, 129, 602, 603, 604, 605, 606, 304, 305, 14, 306, 307, 92, 93, 94, 43, 308, 208, 209, 210, 42, 44, 607, 608, 96, 97, 98, 647, 648, 649, 650, 132, 630, 265, 266, 18, 267, 69, 103, 104, 105, 106, 45, 651, 622, 623, 624, 625, 626, 627, 628, 629, 84, 85, 86, 67, 652, 653, 654, 655, 656, 245, 246, 247, 74, 869, 870, 871, 872, 873, 874, 875, 914, 915, 916, 917, 918, 896, 897, 898, 899, 900, 901, 902, 903, 904] (by decide +kernel) (by decide +kernel)
set_option maxRecDepth 20000 in
theorem gL_law_X6_order : GoodIn wsL_law (wsV RL 95 RX6 yX6_order wsX6_order) := goodIn_app (goodIn_of _ (by decide +kernel)) ggL_law_X6_order
set_option maxRecDepth 20000 in
theorem ggL_law_X7_order : GoodIn wsL_law wsX7_order := goodIn_r _ [660, 170, 158, 159, 661, 610, 611, 5, 612, 153, 613, 614, 615, 616, 232, 233, 234, 235, 148, 228, 229, 230, 231, 224, 225, 226, 227, 147, 635, 636, 637, 638, 149, 150, 151, 639, 640, 641, 642, 272, 273, 274, 275, 236, 237, 238, 239, 876, 877, 878, 879, 880, 881, 882, 883, 884, 885, 886, 887, 888, 889, 890, 891, 892, 893, 894, 895] (by decide +kernel) (by decide +kernel)
set_option maxRecDepth 20000 in
theorem gL_law_X7_order : GoodIn wsL_law (wsV RL 98 RX7 yX7_order wsX7_order) := goodIn_app (goodIn_of _ (by decide +kernel)) ggL_law_X7_order
set_option maxRecDepth 20000 in
theorem ggL_law_X6_fixed : GoodIn wsL_law wsX6_fixed := goodIn_r _ [665, 31, 666, 667, 668, 30, 669, 132, 651, 622, 623, 624, 625, 626, 627, 628, 133, 129, 629, 84, 85, 18, 86, 67, 607, 92, 93, 14, 94, 43, 608, 96, 97, 98, 42, 630, 265, 266, 267, 69, 103, 104, 105, 106, 45, 869, 870, 871, 872, 873, 874, 875, 914, 915, 916, 917, 918, 901, 902, 903, 904, 896, 897, 898, 899, 900] (by decide +kernel) (by decide +kernel)
set_option maxRecDepth 20000 in
theorem gL_law_X6_fixed : GoodIn wsL_law (wsV RL 99 RX6 yX6_fixed wsX6_fixed) := goodIn_app (goodIn_of _ (by decide +kernel)) ggL_law_X6_fixed
set_option maxRecDepth 20000 in
theorem ggL_law_X7_fixed : GoodIn wsL_law wsX7_fixed := goodIn_r _ [673, 170, 635, 636, 637, 5, 638, 149, 150, 151, 639, 640, 641, 642, 153, 232, 233, 234, 235, 148, 224, 225, 226, 227, 147, 272, 273, 274, 275, 236, 237, 238, 239, 876, 877, 878, 879, 880, 881, 882, 883, 884, 885, 886, 887, 888, 889, 890, 891, 892, 893, 894, 895] (by decide +kernel) (by decide +kernel)
set_option maxRecDepth 20000 in
theorem gL_law_X7_fixed : GoodIn wsL_law (wsV RL 102 RX7 yX7_fixed wsX7_fixed) := goodIn_app (goodIn_of _ (by decide +kernel)) ggL_law_X7_fixed
set_option maxRecDepth 20000 in
theorem ggL_law_X6_invert : GoodIn wsL_law wsX6_invert := goodIn_r _ [677, 31, 598, 599, 600, 30, 601, 133, 129, 602, 603, 604, 605, 606, 304, 305, 14, 306, 307, 92, 93, 94, 43, 308, 208, 209, 210, 42, 44, 607, 608, 96, 97, 98, 678, 679, 680, 681, 130, 682, 683, 684, 685, 568, 2, 569, 212, 104, 105, 106, 45, 869, 870, 871, 872, 873, 874, 875, 914, 915, 916, 917, 918, 896, 897, 898, 899, 900] (by decide +kernel) (by decide +kernel)
set_option maxRecDepth 20000 in
theorem gL_law_X6_invert : GoodIn wsL_law (wsV RL 103 RX6 yX6_invert wsX6_invert) := goodIn_app (goodIn_of _ (by decide +kernel)) ggL_law_X6_invert
set_option maxRecDepth 20000 in
theorem ggL_law_X7_invert : GoodIn wsL_law wsX7_invert := goodIn_r _ [689, 160, 153, 661, 610, 611, 5, 612, 613, 614, 615, 616, 232, 233, 234, 235, 148, 228, 229, 230, 231, 224, 225, 226, 227, 147, 690, 691, 692, 693, 236, 237, 238, 239, 876, 877, 878, 879, 880, 881, 882, 883, 884, 885, 886, 887, 888, 889, 890, 891, 892, 893, 894, 895] (by decide +kernel) (by decide +kernel)
set_option maxRecDepth 20000 in
theorem gL_law_X7_invert : GoodIn wsL_law (wsV RL 106 RX7 yX7_invert wsX7_invert) := goodIn_app (goodIn_of _ (by decide +kernel)) ggL_law_X7_invert
set_option maxRecDepth 20000 in
theorem ggL_law_X6_move : GoodIn wsL_law wsX6_move := goodIn_r _ [697, 31, 23, 19, 698, 699, 700, 30, 701, 132, 131, 651, 622, 623, 624, 625, 626, 627, 628, 133, 129, 629, 84, 85, 18, 86, 67, 607, 92, 93, 14, 94, 43, 608, 96, 97, 98, 42, 630, 265, 266, 267, 69, 103, 104, 105, 106, 45, 357, 358, 359, 360, 74, 869, 870, 871, 872, 873, 874, 875, 905, 906, 907, 908, 914, 915, 916, 917, 918, 901, 902, 903, 904, 896, 897, 898, 899, 900] (by decide +kernel) (by decide +kernel)
set_option maxRecDepth 20000 in
theorem gL_law_X6_move : GoodIn wsL_law (wsV RL 107 RX6 yX6_move wsX6_move) := goodIn_app (goodIn_of _ (by decide +kernel)) ggL_law_X6_move
set_option maxRecDepth 20000 in
theorem ggL_law_X7_move : GoodIn wsL_law wsX7_move := goodIn_r _ [705, 170, 161, 152, 635, 636, 637, 5, 638, 149, 150, 151, 639, 640, 641, 642, 153, 232, 233, 234, 235, 148, 224, 225, 226, 227, 147, 272, 273, 274, 275, 236, 237, 238, 239, 425, 426, 427, 428, 876, 877, 878, 879, 880, 881, 882, 883, 884, 885, 886, 887, 888, 889, 890, 891, 892, 893, 894, 895] (by decide +kernel) (by decide +kernel)
set_option maxRecDepth 20000 in
theorem gL_law_X7_move : GoodIn wsL_law (wsV RL 110 RX7 yX7_move wsX7_move) := goodIn_app (goodIn_of _ (by decide +kernel)) ggL_law_X7_move
set_option maxRecDepth 20000 in
theorem ggL_law_X6_frame : GoodIn wsL_law wsX6_frame := goodIn_r _ [709, 19, 31, 710, 653, 654, 18, 655, 656, 245, 246, 247, 74, 711, 712, 713, 714, 715, 716, 717, 718, 69, 83, 84, 85, 86, 67, 719, 300, 301, 302, 303, 304, 305, 14, 306, 307, 92, 93, 94, 43, 308, 208, 209, 210, 42, 44, 91, 95, 96, 97, 98, 720, 721, 722, 30, 723, 132, 724, 725, 726, 727, 728, 130, 133, 629, 607, 682, 683, 684, 685, 129, 568, 2, 569, 212, 104, 105, 106, 45, 869, 870, 871, 872, 873, 874, 875, 901, 902, 903, 904, 896, 897, 898, 899, 900, 914, 915, 916, 917, 918] (by decide +kernel) (by decide +kernel)
set_option maxRecDepth 20000 in
theorem gL_law_X6_frame : GoodIn wsL_law (wsV RL 111 RX6 yX6_frame wsX6_frame) := goodIn_app (goodIn_of _ (by decide +kernel)) ggL_law_X6_frame
set_option maxRecDepth 20000 in
theorem ggL_law_X7_frame : GoodIn wsL_law wsX7_frame := goodIn_r _ [732, 153, 160, 253, 254, 255, 5, 256, 170, 217, 218, 219, 733, 734, 735, 736, 737, 738, 739, 740, 291, 292, 293, 294, 149, 150, 151, 232, 233, 234, 235, 148, 224, 225, 226, 227, 147, 741, 742, 743, 744, 169, 257, 258, 259, 690, 691, 692, 693, 236, 237, 238, 239, 876, 877, 878, 879, 880, 881, 882, 883, 884, 885, 886, 887, 888, 889, 890, 891, 892, 893, 894, 895] (by decide +kernel) (by decide +kernel)
set_option maxRecDepth 20000 in
theorem gL_law_X7_frame : GoodIn wsL_law (wsV RL 115 RX7 yX7_frame wsX7_frame) := goodIn_app (goodIn_of _ (by decide +kernel)) ggL_law_X7_frame
set_option maxRecDepth 20000 in
theorem ggL_law_X6_behind : GoodIn wsL_law wsX6_behind := goodIn_r _ [748, 19, 31, 32, 710, 653, 654, 18, 655, 656, 245, 246, 247, 74, 711, 712, 713, 714, 715, 716, 717, 718, 69, 83, 84, 85, 86, 67, 719, 300, 301, 302, 303, 304, 305, 14, 306, 307, 92, 93, 94, 43, 308, 208, 209, 210, 42, 44, 91, 95, 96, 97, 98, 598, 599, 600, 30, 601, 133, 129, 602, 603, 604, 605, 606, 607, 608, 720, 721, 722, 723, 132, 724, 725, 726, 727, 728, 130, 629, 682, 683, 684, 685, 568, 2, 569, 212, 104, 105, 106, 45, 749, 750, 751, 752, 869, 870, 871, 872, 873, 874, 875, 901, 902, 903, 904, 896, 897, 898, 899, 900, 914, 915, 916, 917, 918] (by decide +kernel) (by decide +kernel)
set_option maxRecDepth 20000 in
theorem gL_law_X6_behind : GoodIn wsL_law (wsV RL 116 RX6 yX6_behind wsX6_behind) := goodIn_app (goodIn_of _ (by decide +kernel)) ggL_law_X6_behind
set_option maxRecDepth 20000 in
theorem ggL_law_X7_behind : GoodIn wsL_law wsX7_behind := goodIn_r _ [756, 162, 160, 153, 253, 254, 255, 5, 256, 170, 217, 218, 219, 733, 734, 735, 736, 737, 738, 739, 740, 291, 292, 293, 294, 149, 150, 151, 232, 233, 234, 235, 148, 224, 225, 226, 227, 147, 661, 610, 611, 612, 613, 614, 615, 616, 228, 229, 230, 231, 741, 742, 743, 744, 169, 257, 258, 259, 639, 640, 641, 642, 690, 691, 692, 693, 236, 237, 238, 239, 876, 877, 878, 879, 880, 881, 882, 883, 884, 885, 886, 887, 888, 889, 890, 891, 892, 893, 894, 895] (by decide +kernel) (by decide +kernel)
set_option maxRecDepth 20000 in
theorem gL_law_X7_behind : GoodIn wsL_law (wsV RL 119 RX7 yX7_behind wsX7_behind) := goodIn_app (goodIn_of _ (by decide +kernel)) ggL_law_X7_behind
set_option maxRecDepth 20000 in
theorem ggL_law_X6_ratio : GoodIn wsL_law wsX6_ratio := goodIn_r _ [760, 19, 710, 653, 654, 18, 655, 656, 245, 246, 247, 74, 761, 716, 717, 718, 69, 83, 84, 85, 86, 67, 719, 300, 301, 302, 303, 304, 305, 14, 306, 307, 92, 93, 94, 43, 308, 208, 209, 210, 42, 44, 91, 95, 96, 97, 98, 762, 763, 764, 765, 103, 104, 105, 106, 45, 869, 870, 871, 872, 873, 874, 875, 901, 902, 903, 904, 896, 897, 898, 899, 900] (by decide +kernel) (by decide +kernel)
set_option maxRecDepth 20000 in
theorem gL_law_X6_ratio : GoodIn wsL_law (wsV RL 120 RX6 yX6_ratio wsX6_ratio) := goodIn_app (goodIn_of _ (by decide +kernel)) ggL_law_X6_ratio
set_option maxRecDepth 20000 in
theorem ggL_law_X7_ratio : GoodIn wsL_law wsX7_ratio := goodIn_r _ [769, 169, 253, 254, 255, 5, 256, 170, 217, 218, 219, 313, 314, 315, 316, 291, 292, 293, 294, 149, 150, 151, 232, 233, 234, 235, 148, 224, 225, 226, 227, 147, 770, 771, 772, 773, 774, 775, 776, 777, 236, 237, 238, 239, 876, 877, 878, 879, 880, 881, 882, 883, 884, 885, 886, 887, 888, 889, 890, 891, 892, 893, 894, 895] (by decide +kernel) (by decide +kernel)
set_option maxRecDepth 20000 in
theorem gL_law_X7_ratio : GoodIn wsL_law (wsV RL 123 RX7 yX7_ratio wsX7_ratio) := goodIn_app (goodIn_of _ (by decide +kernel)) ggL_law_X7_ratio
set_option maxRecDepth 20000 in
theorem ggL_law_X6_table : GoodIn wsL_law wsX6_table := goodIn_r _ [781, 36, 782, 783, 784, 35, 785, 141, 142, 869, 870, 871, 872, 873, 874, 875, 919, 920] (by decide +kernel) (by decide +kernel)
set_option maxRecDepth 20000 in
theorem gL_law_X6_table : GoodIn wsL_law (wsV RL 124 RX6 yX6_table wsX6_table) := goodIn_app (goodIn_of _ (by decide +kernel)) ggL_law_X6_table
set_option maxRecDepth 20000 in
theorem ggL_law_X7_table : GoodIn wsL_law wsX7_table := goodIn_r _ [789, 164, 163, 217, 218, 5, 219, 876, 877, 878, 879, 880, 881, 882, 883, 884, 885, 886, 887, 888, 889, 890, 891, 892, 893, 894, 895] (by decide +kernel) (by decide +kernel)
set_option maxRecDepth 20000 in
theorem gL_law_X7_table : GoodIn wsL_law (wsV RL 127 RX7 yX7_table wsX7_table) := goodIn_app (goodIn_of _ (by decide +kernel)) ggL_law_X7_table
set_option maxRecDepth 20000 in
theorem ggL_law_X6_mark : GoodIn wsL_law wsX6_mark := goodIn_r _ [793, 36, 794, 795, 796, 35, 797, 141, 798, 799, 800, 801, 142, 284, 285, 2, 286, 802, 803, 804, 805, 869, 870, 871, 872, 873, 874, 875, 919, 920] (by decide +kernel) (by decide +kernel)
set_option maxRecDepth 20000 in
theorem gL_law_X6_mark : GoodIn wsL_law (wsV RL 128 RX6 yX6_mark wsX6_mark) := goodIn_app (goodIn_of _ (by decide +kernel)) ggL_law_X6_mark
set_option maxRecDepth 20000 in
theorem ggL_law_X7_mark : GoodIn wsL_law wsX7_mark := goodIn_r _ [809, 164, 163, 217, 218, 5, 219, 876, 877, 878, 879, 880, 881, 882, 883, 884, 885, 886, 887, 888, 889, 890, 891, 892, 893, 894, 895] (by decide +kernel) (by decide +kernel)
set_option maxRecDepth 20000 in
theorem gL_law_X7_mark : GoodIn wsL_law (wsV RL 132 RX7 yX7_mark wsX7_mark) := goodIn_app (goodIn_of _ (by decide +kernel)) ggL_law_X7_mark
set_option maxRecDepth 20000 in
theorem ggL_law_X6_flaw : GoodIn wsL_law wsX6_flaw := goodIn_r _ [813, 36, 814, 815, 816, 35, 817, 141, 142, 414, 415, 416, 417, 418, 419, 420, 818, 819, 820, 821, 822, 823, 824, 825, 826, 827, 828, 829, 869, 870, 871, 872, 873, 874, 875, 919, 920] (by decide +kernel) (by decide +kernel)
set_option maxRecDepth 20000 in
theorem gL_law_X6_flaw : GoodIn wsL_law (wsV RL 133 RX6 yX6_flaw wsX6_flaw) := goodIn_app (goodIn_of _ (by decide +kernel)) ggL_law_X6_flaw
set_option maxRecDepth 20000 in
theorem ggL_law_X7_flaw : GoodIn wsL_law wsX7_flaw := goodIn_r _ [833, 834, 835, 836, 5, 837, 164, 838, 839, 840, 841, 163, 842, 843, 844, 845, 846, 847, 848, 849, 876, 877, 878, 879, 880, 881, 882, 883, 884, 885, 886, 887, 888, 889, 890, 891, 892, 893, 894, 895] (by decide +kernel) (by decide +kernel)
set_option maxRecDepth 20000 in
theorem gL_law_X7_flaw : GoodIn wsL_law (wsV RL 136 RX7 yX7_flaw wsX7_flaw) := goodIn_app (goodIn_of _ (by decide +kernel)) ggL_law_X7_flaw
set_option maxRecDepth 20000 in
theorem ggL_law_X6_told : GoodIn wsL_law wsX6_told := goodIn_r _ [853, 15, 36, 19, 854, 855, 856, 35, 857, 858, 859, 408, 860, 141, 861, 783, 784, 785, 142, 862, 281, 282, 18, 283, 87, 88, 89, 90, 69, 83, 84, 85, 86, 67, 91, 92, 93, 14, 94, 43, 95, 96, 97, 98, 42, 863, 803, 804, 805, 869, 870, 871, 872, 873, 874, 875, 896, 897, 898, 899, 900, 919, 920, 901, 902, 903, 904] (by decide +kernel) (by decide +kernel)
set_option maxRecDepth 20000 in
theorem gL_law_X6_told : GoodIn wsL_law (wsV RL 137 RX6 yX6_told wsX6_told) := goodIn_app (goodIn_of _ (by decide +kernel)) ggL_law_X6_told
set_option maxRecDepth 20000 in
theorem ggL_law_X7_told : GoodIn wsL_law wsX7_told := goodIn_r _ [867, 169, 170, 163, 164, 868, 787, 788, 5, 789, 217, 218, 219, 291, 292, 293, 294, 149, 150, 151, 232, 233, 234, 235, 148, 224, 225, 226, 227, 147, 876, 877, 878, 879, 880, 881, 882, 883, 884, 885, 886, 887, 888, 889, 890, 891, 892, 893, 894, 895] (by decide +kernel) (by decide +kernel)
set_option maxRecDepth 20000 in
theorem gL_law_X7_told : GoodIn wsL_law (wsV RL 140 RX7 yX7_told wsX7_told) := goodIn_app (goodIn_of _ (by decide +kernel)) ggL_law_X7_told
theorem dL_law_0 : decode cL_law 0 = .ok (.new 7, 3) := by decide +kernel
theorem dL_law_3 : decode cL_law 3 = .ok (.dup, 1) := by decide +kernel
theorem dL_law_4 : decode cL_law 4 = .ok (.invokespecial 9, 3) := by decide +kernel
theorem dL_law_7 : decode cL_law 7 = .ok (.astore_n 1, 1) := by decide +kernel
theorem dL_law_8 : decode cL_law 8 = .ok (.new 10, 3) := by decide +kernel
theorem dL_law_11 : decode cL_law 11 = .ok (.dup, 1) := by decide +kernel
theorem dL_law_12 : decode cL_law 12 = .ok (.invokespecial 12, 3) := by decide +kernel
theorem dL_law_15 : decode cL_law 15 = .ok (.astore_n 2, 1) := by decide +kernel
theorem dL_law_16 : decode cL_law 16 = .ok (.iconst 0, 1) := by decide +kernel
theorem dL_law_17 : decode cL_law 17 = .ok (.istore_n 3, 1) := by decide +kernel
theorem dL_law_18 : decode cL_law 18 = .ok (.iload_n 3, 1) := by decide +kernel
theorem dL_law_19 : decode cL_law 19 = .ok (.aload_n 0, 1) := by decide +kernel
