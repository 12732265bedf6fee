set_option maxRecDepth 20000 in
theorem ggL_law_X9_init : GoodIn wsL_law wsX9_init := goodIn_r _ [8, 9, 10, 11, 12, 13, 14, 15, 16, 17, 18, 19, 20, 21, 22, 23, 24, 25, 26, 27, 28, 29, 30, 31, 32, 33, 34, 35, 36, 37, 38, 39, 40, 41, 42, 43, 44, 45, 46, 47, 48, 49, 50, 51, 52, 53, 54, 55, 56, 57, 58, 59, 60, 61, 62, 63, 64, 65, 66, 67, 68, 69, 70, 71, 72, 73, 74, 75, 76, 77, 78, 79, 80, 81, 82, 83, 84, 85, 86, 87, 88, 89, 90, 91, 92, 93, 94, 95, 96, 97, 98, 99, 889, 890, 891, 853, 854, 855, 856, 857, 858, 859, 860, 861, 862, 892, 893, 894, 895, 896, 897, 898, 899, 900, 901, 902, 903, 904, 905, 906, 907, 908, 909, 910, 911, 912, 913, 914, 915, 916, 917, 918, 919, 920, 921, 922, 923, 924] (by decide +kernel) (by decide +kernel)
set_option maxRecDepth 20000 in
theorem gL_law_X9_init : GoodIn wsL_law (wsX9_init) := ggL_law_X9_init
set_option maxRecDepth 20000 in
theorem ggL_law_X10_init : GoodIn wsL_law wsX10_init := goodIn_r _ [102, 103, 10, 11, 104, 105, 42, 106, 107, 108, 109, 110, 111, 112, 113, 114, 115, 116, 117, 118, 119, 120, 121, 122, 863, 864, 865, 866, 867, 868, 869, 870, 871, 872, 873, 874, 875, 876, 877, 878, 879, 880, 881, 882, 883, 884, 885, 886, 887, 888] (by decide +kernel) (by decide +kernel)
set_option maxRecDepth 20000 in
theorem gL_law_X10_init : GoodIn wsL_law (wsX10_init) := ggL_law_X10_init
set_option maxRecDepth 20000 in
theorem ggL_law_X9_type : GoodIn wsL_law wsX9_type := goodIn_r _ [126, 15, 127, 128, 129, 2, 130, 131, 132, 133, 14, 134, 135, 43, 853, 854, 855, 856, 857, 858, 859, 860, 861, 862, 889, 890, 891] (by decide +kernel) (by decide +kernel)
set_option maxRecDepth 20000 in
theorem gL_law_X9_type : GoodIn wsL_law (wsV RL 13 RX9 yX9_type wsX9_type) := goodIn_app (goodIn_of _ (by decide +kernel)) ggL_law_X9_type
set_option maxRecDepth 20000 in
theorem ggL_law_X10_type : GoodIn wsL_law wsX10_type := goodIn_r _ [139, 140, 105, 141, 142, 5, 143, 863, 864, 865, 866, 867, 868, 869, 870, 871, 872, 873, 874, 875, 876, 877, 878, 879, 880, 881, 882, 883, 884, 885, 886, 887, 888] (by decide +kernel) (by decide +kernel)
set_option maxRecDepth 20000 in
theorem gL_law_X10_type : GoodIn wsL_law (wsV RL 17 RX10 yX10_type wsX10_type) := goodIn_app (goodIn_of _ (by decide +kernel)) ggL_law_X10_type
set_option maxRecDepth 20000 in
theorem ggL_law_X9_clear : GoodIn wsL_law wsX9_clear := goodIn_r _ [147, 15, 127, 853, 854, 855, 856, 857, 858, 859, 860, 861, 862, 889, 890, 891] (by decide +kernel) (by decide +kernel)
set_option maxRecDepth 20000 in
theorem gL_law_X9_clear : GoodIn wsL_law (wsV RL 18 RX9 yX9_clear wsX9_clear) := goodIn_app (goodIn_of _ (by decide +kernel)) ggL_law_X9_clear
set_option maxRecDepth 20000 in
theorem ggL_law_X10_clear : GoodIn wsL_law wsX10_clear := goodIn_r _ [151, 140, 863, 864, 865, 866, 867, 868, 869, 870, 871, 872, 873, 874, 875, 876, 877, 878, 879, 880, 881, 882, 883, 884, 885, 886, 887, 888] (by decide +kernel) (by decide +kernel)
set_option maxRecDepth 20000 in
theorem gL_law_X10_clear : GoodIn wsL_law (wsV RL 22 RX10 yX10_clear wsX10_clear) := goodIn_app (goodIn_of _ (by decide +kernel)) ggL_law_X10_clear
set_option maxRecDepth 20000 in
theorem ggL_law_X9_town : GoodIn wsL_law wsX9_town := goodIn_r _ [155, 15, 19, 20, 24, 156, 37, 157, 127, 158, 159, 160, 14, 161, 162, 135, 163, 164, 165, 166, 18, 167, 48, 168, 169, 170, 171, 172, 173, 174, 175, 176, 177, 178, 179, 43, 180, 181, 182, 183, 184, 185, 186, 187, 188, 189, 190, 191, 192, 193, 194, 195, 196, 197, 198, 199, 200, 201, 202, 203, 204, 205, 206, 207, 208, 209, 210, 211, 212, 213, 214, 215, 216, 217, 218, 219, 220, 221, 222, 223, 224, 225, 226, 227, 228, 229, 230, 231, 232, 233, 234, 49, 235, 236, 237, 238, 50, 51, 52, 53, 239, 240, 241, 242, 243, 23, 244, 61, 245, 246, 247, 248, 60, 249, 250, 67, 251, 68, 69, 252, 70, 253, 254, 255, 256, 257, 853, 854, 855, 856, 857, 858, 859, 860, 861, 862, 907, 908, 909, 910, 889, 890, 891, 911, 912, 913, 914, 915, 916, 917, 918, 919, 892, 893, 894, 895, 896, 897, 898, 899, 900, 901, 902, 920, 921, 922, 923, 924] (by decide +kernel) (by decide +kernel)
set_option maxRecDepth 20000 in
theorem gL_law_X9_town : GoodIn wsL_law (wsV RL 23 RX9 yX9_town wsX9_town) := goodIn_app (goodIn_of _ (by decide +kernel)) ggL_law_X9_town
set_option maxRecDepth 20000 in
theorem ggL_law_X10_town : GoodIn wsL_law wsX10_town := goodIn_r _ [261, 262, 263, 106, 107, 111, 114, 108, 109, 110, 112, 113, 115, 119, 264, 140, 265, 266, 267, 268, 5, 269, 270, 271, 272, 273, 274, 275, 276, 277, 278, 279, 280, 105, 141, 142, 143, 281, 282, 283, 284, 285, 286, 287, 288, 289, 290, 291, 292, 293, 294, 295, 296, 863, 864, 865, 866, 867, 868, 869, 870, 871, 872, 873, 874, 875, 876, 877, 878, 879, 880, 881, 882, 883, 884, 885, 886, 887, 888] (by decide +kernel) (by decide +kernel)
set_option maxRecDepth 20000 in
theorem gL_law_X10_town : GoodIn wsL_law (wsV RL 26 RX10 yX10_town wsX10_town) := goodIn_app (goodIn_of _ (by decide +kernel)) ggL_law_X10_town
set_option maxRecDepth 20000 in
theorem ggL_law_X9_street : GoodIn wsL_law wsX9_street := goodIn_r _ [300, 20, 301, 302, 24, 303, 304, 305, 306, 307, 308, 309, 2, 310, 311, 128, 129, 130, 312, 313, 314, 60, 315, 67, 69, 253, 316, 317, 318, 319, 320, 321, 322, 323, 324, 325, 326, 327, 328, 329, 330, 331, 332, 333, 334, 335, 336, 853, 854, 855, 856, 857, 858, 859, 860, 861, 862, 911, 912, 913, 914, 915, 916, 917, 918, 919, 892, 893, 894, 895, 896, 897, 898, 899, 900, 901, 902, 920, 921, 922, 923, 924] (by decide +kernel) (by decide +kernel)
set_option maxRecDepth 20000 in
theorem gL_law_X9_street : GoodIn wsL_law (wsV RL 27 RX9 yX9_street wsX9_street) := goodIn_app (goodIn_of _ (by decide +kernel)) ggL_law_X9_street
set_option maxRecDepth 20000 in
theorem ggL_law_X10_street : GoodIn wsL_law wsX10_street := goodIn_r _ [340, 108, 109, 114, 341, 342, 343, 5, 344, 107, 141, 142, 143, 345, 346, 347, 348, 349, 350, 351, 352, 111, 863, 864, 865, 866, 867, 868, 869, 870, 871, 872, 873, 874, 875, 876, 877, 878, 879, 880, 881, 882, 883, 884, 885, 886, 887, 888] (by decide +kernel) (by decide +kernel)
set_option maxRecDepth 20000 in
theorem gL_law_X10_street : GoodIn wsL_law (wsV RL 31 RX10 yX10_street wsX10_street) := goodIn_app (goodIn_of _ (by decide +kernel)) ggL_law_X10_street
set_option maxRecDepth 20000 in
theorem ggL_law_X9_citizen : GoodIn wsL_law wsX9_citizen := goodIn_r _ [356, 24, 303, 332, 20, 357, 358, 359, 360, 2, 361, 331, 128, 129, 130, 362, 363, 364, 365, 366, 367, 368, 369, 311, 370, 371, 372, 373, 18, 374, 49, 50, 375, 376, 327, 328, 329, 330, 333, 334, 335, 336, 377, 378, 379, 853, 854, 855, 856, 857, 858, 859, 860, 861, 862, 900, 901, 902, 920, 921, 922, 923, 924, 911, 912, 913, 914, 915, 916, 917, 918, 919, 892, 893, 894, 895, 896, 897, 898, 899] (by decide +kernel) (by decide +kernel)
set_option maxRecDepth 20000 in
theorem gL_law_X9_citizen : GoodIn wsL_law (wsV RL 32 RX9 yX9_citizen wsX9_citizen) := goodIn_app (goodIn_of _ (by decide +kernel)) ggL_law_X9_citizen
set_option maxRecDepth 20000 in
theorem ggL_law_X10_citizen : GoodIn wsL_law wsX10_citizen := goodIn_r _ [383, 114, 113, 384, 385, 386, 5, 387, 111, 141, 142, 143, 388, 389, 390, 391, 392, 393, 394, 395, 108, 109, 863, 864, 865, 866, 867, 868, 869, 870, 871, 872, 873, 874, 875, 876, 877, 878, 879, 880, 881, 882, 883, 884, 885, 886, 887, 888] (by decide +kernel) (by decide +kernel)
set_option maxRecDepth 20000 in
theorem gL_law_X10_citizen : GoodIn wsL_law (wsV RL 35 RX10 yX10_citizen wsX10_citizen) := goodIn_app (goodIn_of _ (by decide +kernel)) ggL_law_X10_citizen
set_option maxRecDepth 20000 in
theorem ggL_law_X9_does : GoodIn wsL_law wsX9_does := goodIn_r _ [399, 24, 303, 332, 304, 306, 305, 358, 359, 360, 2, 361, 20, 331, 128, 129, 130, 400, 401, 402, 23, 403, 245, 62, 61, 404, 405, 406, 407, 408, 409, 410, 60, 411, 67, 251, 236, 237, 238, 68, 69, 70, 253, 362, 363, 364, 365, 366, 367, 368, 369, 311, 370, 371, 372, 373, 18, 374, 49, 50, 375, 376, 327, 328, 329, 330, 333, 334, 335, 336, 377, 378, 379, 412, 413, 414, 415, 416, 417, 418, 419, 420, 421, 422, 320, 321, 322, 312, 313, 314, 315, 316, 317, 318, 319, 853, 854, 855, 856, 857, 858, 859, 860, 861, 862, 900, 901, 902, 920, 921, 922, 923, 924, 911, 912, 913, 914, 915, 916, 917, 918, 919, 892, 893, 894, 895, 896, 897, 898, 899] (by decide +kernel) (by decide +kernel)
set_option maxRecDepth 20000 in
theorem gL_law_X9_does : GoodIn wsL_law (wsV RL 36 RX9 yX9_does wsX9_does) := goodIn_app (goodIn_of _ (by decide +kernel)) ggL_law_X9_does
set_option maxRecDepth 20000 in
theorem ggL_law_X10_does : GoodIn wsL_law wsX10_does := goodIn_r _ [426, 114, 384, 385, 386, 5, 387, 111, 141, 142, 143, 427, 428, 429, 430, 115, 116, 388, 389, 390, 391, 392, 393, 394, 395, 108, 109, 431, 432, 433, 345, 346, 347, 348, 863, 864, 865, 866, 867, 868, 869, 870, 871, 872, 873, 874, 875, 876, 877, 878, 879, 880, 881, 882, 883, 884, 885, 886, 887, 888] (by decide +kernel) (by decide +kernel)
set_option maxRecDepth 20000 in
theorem gL_law_X10_does : GoodIn wsL_law (wsV RL 40 RX10 yX10_does wsX10_does) := goodIn_app (goodIn_of _ (by decide +kernel)) ggL_law_X10_does
set_option maxRecDepth 20000 in
theorem ggL_law_X9_wills : GoodIn wsL_law wsX9_wills := goodIn_r _ [437, 24, 303, 305, 304, 307, 308, 309, 2, 310, 20, 311, 128, 129, 130, 400, 401, 402, 23, 403, 245, 62, 61, 404, 405, 406, 407, 408, 409, 410, 60, 411, 67, 251, 236, 237, 238, 68, 69, 70, 253, 419, 420, 421, 422, 320, 321, 322, 853, 854, 855, 856, 857, 858, 859, 860, 861, 862, 900, 901, 902, 920, 921, 922, 923, 924, 911, 912, 913, 914, 915, 916, 917, 918, 919, 892, 893, 894, 895, 896, 897, 898, 899] (by decide +kernel) (by decide +kernel)
set_option maxRecDepth 20000 in
theorem gL_law_X9_wills : GoodIn wsL_law (wsV RL 41 RX9 yX9_wills wsX9_wills) := goodIn_app (goodIn_of _ (by decide +kernel)) ggL_law_X9_wills
set_option maxRecDepth 20000 in
theorem ggL_law_X10_wills : GoodIn wsL_law wsX10_wills := goodIn_r _ [441, 114, 341, 342, 343, 5, 344, 107, 141, 142, 143, 427, 428, 429, 430, 115, 116, 863, 864, 865, 866, 867, 868, 869, 870, 871, 872, 873, 874, 875, 876, 877, 878, 879, 880, 881, 882, 883, 884, 885, 886, 887, 888] (by decide +kernel) (by decide +kernel)
set_option maxRecDepth 20000 in
theorem gL_law_X10_wills : GoodIn wsL_law (wsV RL 44 RX10 yX10_wills wsX10_wills) := goodIn_app (goodIn_of _ (by decide +kernel)) ggL_law_X10_wills
set_option maxRecDepth 20000 in
theorem ggL_law_X9_moves : GoodIn wsL_law wsX9_moves := goodIn_r _ [445, 24, 303, 332, 358, 359, 360, 2, 361, 20, 331, 128, 129, 130, 307, 308, 309, 310, 311, 400, 401, 402, 23, 403, 245, 62, 61, 404, 405, 406, 407, 408, 409, 410, 60, 411, 67, 251, 236, 237, 238, 68, 69, 70, 253, 853, 854, 855, 856, 857, 858, 859, 860, 861, 862, 900, 901, 902, 920, 921, 922, 923, 924, 911, 912, 913, 914, 915, 916, 917, 918, 919, 892, 893, 894, 895, 896, 897, 898, 899] (by decide +kernel) (by decide +kernel)
set_option maxRecDepth 20000 in
theorem gL_law_X9_moves : GoodIn wsL_law (wsV RL 45 RX9 yX9_moves wsX9_moves) := goodIn_app (goodIn_of _ (by decide +kernel)) ggL_law_X9_moves
set_option maxRecDepth 20000 in
theorem ggL_law_X10_moves : GoodIn wsL_law wsX10_moves := goodIn_r _ [449, 114, 384, 385, 386, 5, 387, 111, 141, 142, 143, 341, 342, 343, 344, 107, 427, 428, 429, 430, 115, 116, 863, 864, 865, 866, 867, 868, 869, 870, 871, 872, 873, 874, 875, 876, 877, 878, 879, 880, 881, 882, 883, 884, 885, 886, 887, 888] (by decide +kernel) (by decide +kernel)
set_option maxRecDepth 20000 in
theorem gL_law_X10_moves : GoodIn wsL_law (wsV RL 48 RX10 yX10_moves wsX10_moves) := goodIn_app (goodIn_of _ (by decide +kernel)) ggL_law_X10_moves
set_option maxRecDepth 20000 in
theorem ggL_law_X9_night : GoodIn wsL_law wsX9_night := goodIn_r _ [453, 24, 303, 454, 128, 129, 2, 130, 400, 401, 402, 23, 403, 245, 62, 61, 404, 405, 406, 407, 408, 409, 410, 60, 411, 67, 251, 236, 237, 238, 68, 69, 70, 253, 455, 456, 457, 458, 20, 311, 312, 313, 314, 315, 316, 317, 318, 319, 320, 321, 322, 853, 854, 855, 856, 857, 858, 859, 860, 861, 862, 900, 901, 902, 920, 921, 922, 923, 924, 911, 912, 913, 914, 915, 916, 917, 918, 919, 892, 893, 894, 895, 896, 897, 898, 899] (by decide +kernel) (by decide +kernel)
set_option maxRecDepth 20000 in
theorem gL_law_X9_night : GoodIn wsL_law (wsV RL 49 RX9 yX9_night wsX9_night) := goodIn_app (goodIn_of _ (by decide +kernel)) ggL_law_X9_night
set_option maxRecDepth 20000 in
theorem ggL_law_X10_night : GoodIn wsL_law wsX10_night := goodIn_r _ [462, 114, 141, 142, 5, 143, 427, 428, 429, 430, 115, 116, 463, 464, 465, 466, 107, 345, 346, 347, 348, 863, 864, 865, 866, 867, 868, 869, 870, 871, 872, 873, 874, 875, 876, 877, 878, 879, 880, 881, 882, 883, 884, 885, 886, 887, 888] (by decide +kernel) (by decide +kernel)
set_option maxRecDepth 20000 in
theorem gL_law_X10_night : GoodIn wsL_law (wsV RL 52 RX10 yX10_night wsX10_night) := goodIn_app (goodIn_of _ (by decide +kernel)) ggL_law_X10_night
set_option maxRecDepth 20000 in
theorem ggL_law_X9_undo : GoodIn wsL_law wsX9_undo := goodIn_r _ [470, 24, 471, 472, 473, 474, 23, 475, 245, 61, 62, 408, 409, 410, 60, 411, 67, 251, 236, 237, 238, 68, 69, 70, 253, 853, 854, 855, 856, 857, 858, 859, 860, 861, 862, 900, 901, 902, 920, 921, 922, 923, 924] (by decide +kernel) (by decide +kernel)
set_option maxRecDepth 20000 in
theorem gL_law_X9_undo : GoodIn wsL_law (wsV RL 53 RX9 yX9_undo wsX9_undo) := goodIn_app (goodIn_of _ (by decide +kernel)) ggL_law_X9_undo
set_option maxRecDepth 20000 in
theorem ggL_law_X10_undo : GoodIn wsL_law wsX10_undo := goodIn_r _ [479, 115, 114, 116, 863, 864, 865, 866, 867, 868, 869, 870, 871, 872, 873, 874, 875, 876, 877, 878, 879, 880, 881, 882, 883, 884, 885, 886, 887, 888] (by decide +kernel) (by decide +kernel)
set_option maxRecDepth 20000 in
theorem gL_law_X10_undo : GoodIn wsL_law (wsV RL 56 RX10 yX10_undo wsX10_undo) := goodIn_app (goodIn_of _ (by decide +kernel)) ggL_law_X10_undo
set_option maxRecDepth 20000 in
theorem ggL_law_X9_now : GoodIn wsL_law wsX9_now := goodIn_r _ [483, 24, 303, 454, 455, 456, 457, 2, 458, 20, 311, 312, 313, 314, 60, 315, 67, 69, 253, 316, 317, 318, 319, 320, 321, 322, 484, 485, 486, 487, 305, 853, 854, 855, 856, 857, 858, 859, 860, 861, 862, 900, 901, 902, 920, 921, 922, 923, 924, 911, 912, 913, 914, 915, 916, 917, 918, 919, 892, 893, 894, 895, 896, 897, 898, 899] (by decide +kernel) (by decide +kernel)
set_option maxRecDepth 20000 in
theorem gL_law_X9_now : GoodIn wsL_law (wsV RL 57 RX9 yX9_now wsX9_now) := goodIn_app (goodIn_of _ (by decide +kernel)) ggL_law_X9_now
set_option maxRecDepth 20000 in
theorem ggL_law_X10_now : GoodIn wsL_law wsX10_now := goodIn_r _ [491, 114, 107, 463, 464, 465, 5, 466, 345, 346, 347, 348, 863, 864, 865, 866, 867, 868, 869, 870, 871, 872, 873, 874, 875, 876, 877, 878, 879, 880, 881, 882, 883, 884, 885, 886, 887, 888] (by decide +kernel) (by decide +kernel)
set_option maxRecDepth 20000 in
theorem gL_law_X10_now : GoodIn wsL_law (wsV RL 60 RX10 yX10_now wsX10_now) := goodIn_app (goodIn_of _ (by decide +kernel)) ggL_law_X10_now
set_option maxRecDepth 20000 in
theorem ggL_law_X9_widest : GoodIn wsL_law wsX9_widest := goodIn_r _ [495, 496, 497, 498, 2, 499, 20, 500, 128, 129, 130, 501, 502, 503, 504, 29, 505, 24, 303, 506, 507, 508, 77, 509, 510, 83, 511, 512, 513, 233, 18, 234, 48, 168, 169, 49, 235, 236, 237, 238, 50, 51, 52, 53, 514, 313, 314, 60, 315, 67, 69, 253, 316, 317, 318, 319, 320, 321, 322, 515, 516, 517, 28, 518, 519, 520, 521, 522, 78, 523, 524, 525, 526, 527, 528, 529, 530, 531, 532, 533, 534, 373, 374, 535, 334, 335, 336, 853, 854, 855, 856, 857, 858, 859, 860, 861, 862, 911, 912, 913, 914, 915, 916, 917, 918, 919, 892, 893, 894, 895, 896, 897, 898, 899, 903, 904, 900, 901, 902, 920, 921, 922, 923, 924] (by decide +kernel) (by decide +kernel)
set_option maxRecDepth 20000 in
theorem gL_law_X9_widest : GoodIn wsL_law (wsV RL 61 RX9 yX9_widest wsX9_widest) := goodIn_app (goodIn_of _ (by decide +kernel)) ggL_law_X9_widest
set_option maxRecDepth 20000 in
theorem ggL_law_X10_widest : GoodIn wsL_law wsX10_widest := goodIn_r _ [539, 540, 541, 542, 5, 543, 544, 545, 546, 547, 106, 141, 142, 143, 548, 549, 550, 551, 107, 345, 346, 347, 348, 114, 552, 553, 554, 555, 108, 109, 556, 557, 558, 863, 864, 865, 866, 867, 868, 869, 870, 871, 872, 873, 874, 875, 876, 877, 878, 879, 880, 881, 882, 883, 884, 885, 886, 887, 888] (by decide +kernel) (by decide +kernel)
set_option maxRecDepth 20000 in
theorem gL_law_X10_widest : GoodIn wsL_law (wsV RL 64 RX10 yX10_widest wsX10_widest) := goodIn_app (goodIn_of _ (by decide +kernel)) ggL_law_X10_widest
set_option maxRecDepth 20000 in
theorem ggL_law_X9_way : GoodIn wsL_law wsX9_way := goodIn_r _ [562, 496, 497, 498, 2, 499, 20, 500, 128, 129, 130, 501, 502, 503, 504, 29, 505, 24, 303, 506, 507, 508, 77, 509, 510, 83, 511, 512, 513, 233, 18, 234, 48, 168, 169, 49, 235, 236, 237, 238, 50, 51, 52, 53, 514, 313, 314, 60, 315, 67, 69, 253, 316, 317, 318, 319, 320, 321, 322, 563, 520, 521, 28, 522, 78, 523, 524, 525, 526, 527, 528, 529, 530, 531, 532, 533, 534, 373, 374, 535, 334, 335, 336, 853, 854, 855, 856, 857, 858, 859, 860, 861, 862, 911, 912, 913, 914, 915, 916, 917, 918, 919, 892, 893, 894, 895, 896, 897, 898, 899, 903, 904, 900, 901, 902, 920, 921, 922, 923, 924] (by decide +kernel) (by decide +kernel)
set_option maxRecDepth 20000 in
theorem gL_law_X9_way : GoodIn wsL_law (wsV RL 65 RX9 yX9_way wsX9_way) := goodIn_app (goodIn_of _ (by decide +kernel)) ggL_law_X9_way
set_option maxRecDepth 20000 in
theorem ggL_law_X10_way : GoodIn wsL_law wsX10_way := goodIn_r _ [567, 540, 541, 542, 5, 543, 544, 545, 546, 547, 106, 141, 142, 143, 548, 549, 550, 551, 107, 345, 346, 347, 348, 114, 552, 553, 554, 555, 108, 109, 556, 557, 558, 863, 864, 865, 866, 867, 868, 869, 870, 871, 872, 873, 874, 875, 876, 877, 878, 879, 880, 881, 882, 883, 884, 885, 886, 887, 888] (by decide +kernel) (by decide +kernel)
set_option maxRecDepth 20000 in
theorem gL_law_X10_way : GoodIn wsL_law (wsV RL 68 RX10 yX10_way wsX10_way) := goodIn_app (goodIn_of _ (by decide +kernel)) ggL_law_X10_way
set_option maxRecDepth 20000 in
theorem ggL_law_X9_flow : GoodIn wsL_law wsX9_flow := goodIn_r _ [571, 496, 497, 498, 2, 499, 20, 500, 128, 129, 130, 501, 502, 503, 504, 29, 505, 24, 303, 506, 507, 508, 77, 509, 510, 83, 511, 512, 513, 233, 18, 234, 48, 168, 169, 49, 235, 236, 237, 238, 50, 51, 52, 53, 514, 313, 314, 60, 315, 67, 69, 253, 316, 317, 318, 319, 320, 321, 322, 572, 573, 574, 28, 575, 576, 78, 523, 524, 577, 578, 579, 580, 581, 335, 582, 535, 334, 336, 583, 584, 585, 586, 529, 530, 531, 587, 588, 589, 590, 591, 592, 593, 594, 595, 596, 597, 598, 599, 600, 601, 853, 854, 855, 856, 857, 858, 859, 860, 861, 862, 911, 912, 913, 914, 915, 916, 917, 918, 919, 892, 893, 894, 895, 896, 897, 898, 899, 903, 904, 900, 901, 902, 920, 921, 922, 923, 924] (by decide +kernel) (by decide +kernel)
set_option maxRecDepth 20000 in
theorem gL_law_X9_flow : GoodIn wsL_law (wsV RL 69 RX9 yX9_flow wsX9_flow) := goodIn_app (goodIn_of _ (by decide +kernel)) ggL_law_X9_flow
set_option maxRecDepth 20000 in
theorem ggL_law_X10_flow : GoodIn wsL_law wsX10_flow := goodIn_r _ [605, 540, 541, 542, 5, 543, 544, 545, 546, 547, 106, 141, 142, 143, 548, 549, 550, 551, 107, 345, 346, 347, 348, 114, 606, 607, 608, 609, 556, 557, 558, 431, 432, 433, 552, 553, 554, 555, 108, 109, 863, 864, 865, 866, 867, 868, 869, 870, 871, 872, 873, 874, 875, 876, 877, 878, 879, 880, 881, 882, 883, 884, 885, 886, 887, 888] (by decide +kernel) (by decide +kernel)
set_option maxRecDepth 20000 in
theorem gL_law_X10_flow : GoodIn wsL_law (wsV RL 72 RX10 yX10_flow wsX10_flow) := goodIn_app (goodIn_of _ (by decide +kernel)) ggL_law_X10_flow
set_option maxRecDepth 20000 in
theorem ggL_law_X9_need : GoodIn wsL_law wsX9_need := goodIn_r _ [613, 614, 496, 497, 498, 2, 499, 20, 500, 128, 129, 130, 501, 502, 503, 504, 29, 505, 24, 303, 506, 507, 508, 77, 509, 510, 83, 511, 512, 513, 233, 18, 234, 48, 168, 169, 49, 235, 236, 237, 238, 50, 51, 52, 53, 514, 313, 314, 60, 315, 67, 69, 253, 316, 317, 318, 319, 320, 321, 322, 615, 616, 617, 28, 618, 79, 576, 78, 523, 524, 529, 530, 531, 619, 255, 256, 257, 620, 621, 622, 623, 624, 592, 625, 594, 577, 578, 579, 599, 600, 601, 853, 854, 855, 856, 857, 858, 859, 860, 861, 862, 911, 912, 913, 914, 915, 916, 917, 918, 919, 892, 893, 894, 895, 896, 897, 898, 899, 903, 904, 900, 901, 902, 920, 921, 922, 923, 924] (by decide +kernel) (by decide +kernel)
set_option maxRecDepth 20000 in
theorem gL_law_X9_need : GoodIn wsL_law (wsV RL 73 RX9 yX9_need wsX9_need) := goodIn_app (goodIn_of _ (by decide +kernel)) ggL_law_X9_need
set_option maxRecDepth 20000 in
theorem ggL_law_X10_need : GoodIn wsL_law wsX10_need := goodIn_r _ [629, 540, 541, 542, 5, 543, 544, 545, 546, 547, 106, 141, 142, 143, 548, 549, 550, 551, 107, 345, 346, 347, 348, 114, 431, 432, 433, 552, 553, 554, 555, 108, 109, 556, 557, 558, 863, 864, 865, 866, 867, 868, 869, 870, 871, 872, 873, 874, 875, 876, 877, 878, 879, 880, 881, 882, 883, 884, 885, 886, 887, 888] (by decide +kernel) (by decide +kernel)
set_option maxRecDepth 20000 in
theorem gL_law_X10_need : GoodIn wsL_law (wsV RL 76 RX10 yX10_need wsX10_need) := goodIn_app (goodIn_of _ (by decide +kernel)) ggL_law_X10_need
set_option maxRecDepth 20000 in
theorem ggL_law_X9_odds : GoodIn wsL_law wsX9_odds := goodIn_r _ [633, 20, 311, 496, 497, 498, 2, 499, 500, 128, 129, 130, 634, 635, 28, 636, 501, 502, 503, 504, 29, 505, 24, 303, 506, 507, 508, 77, 509, 510, 83, 511, 512, 513, 233, 18, 234, 48, 168, 169, 49, 235, 236, 237, 238, 50, 51, 52, 53, 514, 313, 314, 60, 315, 67, 69, 253, 316, 317, 318, 319, 320, 321, 322, 637, 581, 335, 582, 638, 639, 640, 641, 78, 535, 334, 336, 642, 413, 414, 415, 416, 417, 418, 643, 644, 645, 646, 647, 529, 530, 587, 588, 589, 590, 591, 592, 593, 594, 595, 648, 378, 379, 532, 533, 534, 373, 374, 649, 853, 854, 855, 856, 857, 858, 859, 860, 861, 862, 911, 912, 913, 914, 915, 916, 917, 918, 919, 892, 893, 894, 895, 896, 897, 898, 899, 903, 904, 900, 901, 902, 920, 921, 922, 923, 924] (by decide +kernel) (by decide +kernel)
set_option maxRecDepth 20000 in
theorem gL_law_X9_odds : GoodIn wsL_law (wsV RL 77 RX9 yX9_odds wsX9_odds) := goodIn_app (goodIn_of _ (by decide +kernel)) ggL_law_X9_odds
set_option maxRecDepth 20000 in
theorem ggL_law_X10_odds : GoodIn wsL_law wsX10_odds := goodIn_r _ [653, 107, 540, 541, 542, 5, 543, 544, 545, 546, 547, 106, 141, 142, 143, 548, 549, 550, 551, 345, 346, 347, 348, 114, 556, 557, 558, 552, 553, 554, 555, 108, 109, 863, 864, 865, 866, 867, 868, 869, 870, 871, 872, 873, 874, 875, 876, 877, 878, 879, 880, 881, 882, 883, 884, 885, 886, 887, 888] (by decide +kernel) (by decide +kernel)
set_option maxRecDepth 20000 in
theorem gL_law_X10_odds : GoodIn wsL_law (wsV RL 81 RX10 yX10_odds wsX10_odds) := goodIn_app (goodIn_of _ (by decide +kernel)) ggL_law_X10_odds
set_option maxRecDepth 20000 in
theorem ggL_law_X9_carriage : GoodIn wsL_law wsX9_carriage := goodIn_r _ [657, 33, 658, 20, 24, 303, 659, 358, 359, 360, 2, 361, 331, 128, 129, 130, 506, 507, 508, 77, 509, 510, 83, 511, 512, 513, 233, 18, 234, 48, 168, 169, 49, 235, 236, 237, 238, 50, 51, 52, 53, 514, 313, 314, 60, 315, 67, 69, 253, 316, 317, 318, 319, 320, 321, 322, 660, 661, 662, 32, 663, 91, 664, 530, 665, 666, 89, 667, 581, 335, 582, 668, 669, 670, 671, 672, 578, 579, 673, 674, 675, 676, 677, 678, 679, 680, 681, 682, 683, 684, 334, 336, 685, 686, 687, 688, 689, 378, 379, 853, 854, 855, 856, 857, 858, 859, 860, 861, 862, 905, 906, 900, 901, 902, 911, 912, 913, 914, 915, 916, 917, 918, 919, 892, 893, 894, 895, 896, 897, 898, 899, 920, 921, 922, 923, 924] (by decide +kernel) (by decide +kernel)
set_option maxRecDepth 20000 in
theorem gL_law_X9_carriage : GoodIn wsL_law (wsV RL 82 RX9 yX9_carriage wsX9_carriage) := goodIn_app (goodIn_of _ (by decide +kernel)) ggL_law_X9_carriage
set_option maxRecDepth 20000 in
theorem ggL_law_X10_carriage : GoodIn wsL_law wsX10_carriage := goodIn_r _ [693, 120, 107, 384, 385, 386, 5, 387, 111, 141, 142, 143, 694, 695, 696, 697, 556, 557, 558, 698, 699, 700, 701, 113, 345, 346, 347, 348, 114, 863, 864, 865, 866, 867, 868, 869, 870, 871, 872, 873, 874, 875, 876, 877, 878, 879, 880, 881, 882, 883, 884, 885, 886, 887, 888] (by decide +kernel) (by decide +kernel)
set_option maxRecDepth 20000 in
theorem gL_law_X10_carriage : GoodIn wsL_law (wsV RL 85 RX10 yX10_carriage wsX10_carriage) := goodIn_app (goodIn_of _ (by decide +kernel)) ggL_law_X10_carriage
set_option maxRecDepth 20000 in
theorem ggL_law_X9_measures : GoodIn wsL_law wsX9_measures := goodIn_r _ [705, 37, 157, 128, 129, 2, 130, 706, 707, 708, 36, 709, 710, 97, 98, 853, 854, 855, 856, 857, 858, 859, 860, 861, 862, 907, 908, 909, 910] (by decide +kernel) (by decide +kernel)
set_option maxRecDepth 20000 in
theorem gL_law_X9_measures : GoodIn wsL_law (wsV RL 86 RX9 yX9_measures wsX9_measures) := goodIn_app (goodIn_of _ (by decide +kernel)) ggL_law_X9_measures
set_option maxRecDepth 20000 in
theorem ggL_law_X10_measures : GoodIn wsL_law wsX10_measures := goodIn_r _ [714, 264, 121, 122, 141, 142, 5, 143, 863, 864, 865, 866, 867, 868, 869, 870, 871, 872, 873, 874, 875, 876, 877, 878, 879, 880, 881, 882, 883, 884, 885, 886, 887, 888] (by decide +kernel) (by decide +kernel)
set_option maxRecDepth 20000 in
theorem gL_law_X10_measures : GoodIn wsL_law (wsV RL 89 RX10 yX10_measures wsX10_measures) := goodIn_app (goodIn_of _ (by decide +kernel)) ggL_law_X10_measures
set_option maxRecDepth 20000 in
theorem ggL_law_X9_forget : GoodIn wsL_law wsX9_forget := goodIn_r _ [718, 37, 157, 853, 854, 855, 856, 857, 858, 859, 860, 861, 862, 907, 908, 909, 910] (by decide +kernel) (by decide +kernel)
set_option maxRecDepth 20000 in
theorem gL_law_X9_forget : GoodIn wsL_law (wsV RL 90 RX9 yX9_forget wsX9_forget) := goodIn_app (goodIn_of _ (by decide +kernel)) ggL_law_X9_forget
set_option maxRecDepth 20000 in
theorem ggL_law_X10_forget : GoodIn wsL_law wsX10_forget := goodIn_r _ [722, 264, 863, 864, 865, 866, 867, 868, 869, 870, 871, 872, 873, 874, 875, 876, 877, 878, 879, 880, 881, 882, 883, 884, 885, 886, 887, 888] (by decide +kernel) (by decide +kernel)
set_option maxRecDepth 20000 in
theorem gL_law_X10_forget : GoodIn wsL_law (wsV RL 93 RX10 yX10_forget wsX10_forget) := goodIn_app (goodIn_of _ (by decide +kernel)) ggL_law_X10_forget
set_option maxRecDepth 20000 in
theorem ggL_law_X9_deeds : GoodIn wsL_law wsX9_deeds := goodIn_r _ [726, 37, 727, 728, 729, 36, 730, 731, 732, 733, 734, 710, 98, 97, 735, 736, 737, 738, 317, 60, 318, 319, 320, 321, 322, 739, 740, 741, 742, 853, 854, 855, 856, 857, 858, 859, 860, 861, 862, 907, 908, 909, 910] (by decide +kernel) (by decide +kernel)
set_option maxRecDepth 20000 in
theorem gL_law_X9_deeds : GoodIn wsL_law (wsV RL 94 RX9 yX9_deeds wsX9_deeds) := goodIn_app (goodIn_of _ (by decide +kernel)) ggL_law_X9_deeds
set_option maxRecDepth 20000 in
theorem ggL_law_X10_deeds : GoodIn wsL_law wsX10_deeds := goodIn_r _ [746, 141, 142, 5, 143, 747, 748, 749, 750, 264, 122, 121, 751, 752, 753, 863, 864, 865, 866, 867, 868, 869, 870, 871, 872, 873, 874, 875, 876, 877, 878, 879, 880, 881, 882, 883, 884, 885, 886, 887, 888] (by decide +kernel) (by decide +kernel)
set_option maxRecDepth 20000 in
theorem gL_law_X10_deeds : GoodIn wsL_law (wsV RL 97 RX10 yX10_deeds wsX10_deeds) := goodIn_app (goodIn_of _ (by decide +kernel)) ggL_law_X10_deeds
set_option maxRecDepth 20000 in
theorem ggL_law_X9_when : GoodIn wsL_law wsX9_when := goodIn_r _ [757, 37, 758, 759, 760, 36, 761, 99, 762, 320, 321, 322, 763, 255, 256, 257, 731, 732, 733, 734, 710, 98, 97, 735, 736, 737, 738, 317, 60, 318, 319, 853, 854, 855, 856, 857, 858, 859, 860, 861, 862, 907, 908, 909, 910] (by decide +kernel) (by decide +kernel)
set_option maxRecDepth 20000 in
theorem gL_law_X9_when : GoodIn wsL_law (wsV RL 98 RX9 yX9_when wsX9_when) := goodIn_app (goodIn_of _ (by decide +kernel)) ggL_law_X9_when
set_option maxRecDepth 20000 in
theorem ggL_law_X10_when : GoodIn wsL_law wsX10_when := goodIn_r _ [767, 768, 769, 770, 5, 771, 747, 748, 749, 750, 264, 122, 121, 751, 752, 753, 863, 864, 865, 866, 867, 868, 869, 870, 871, 872, 873, 874, 875, 876, 877, 878, 879, 880, 881, 882, 883, 884, 885, 886, 887, 888] (by decide +kernel) (by decide +kernel)
set_option maxRecDepth 20000 in
theorem gL_law_X10_when : GoodIn wsL_law (wsV RL 101 RX10 yX10_when wsX10_when) := goodIn_app (goodIn_of _ (by decide +kernel)) ggL_law_X10_when
set_option maxRecDepth 20000 in
theorem ggL_law_X9_mark : GoodIn wsL_law wsX9_mark := goodIn_r _ [775, 776, 307, 308, 309, 2, 310, 20, 311, 128, 129, 130, 777, 778, 779, 780, 781, 24, 303, 312, 313, 314, 60, 315, 67, 69, 253, 316, 317, 318, 319, 320, 321, 322, 782, 783, 784, 785, 786, 323, 324, 325, 326, 327, 328, 329, 330, 331, 332, 333, 334, 335, 336, 412, 413, 414, 415, 416, 417, 418, 787, 788, 789, 790, 791, 305, 792, 793, 794, 795, 796, 797, 798, 799, 800, 801, 802, 803, 804, 805, 806, 366, 367, 368, 369, 370, 371, 372, 373, 18, 374, 49, 50, 375, 376, 853, 854, 855, 856, 857, 858, 859, 860, 861, 862, 911, 912, 913, 914, 915, 916, 917, 918, 919, 892, 893, 894, 895, 896, 897, 898, 899, 900, 901, 902, 920, 921, 922, 923, 924] (by decide +kernel) (by decide +kernel)
set_option maxRecDepth 20000 in
theorem gL_law_X9_mark : GoodIn wsL_law (wsV RL 102 RX9 yX9_mark wsX9_mark) := goodIn_app (goodIn_of _ (by decide +kernel)) ggL_law_X9_mark
set_option maxRecDepth 20000 in
theorem ggL_law_X10_mark : GoodIn wsL_law wsX10_mark := goodIn_r _ [810, 811, 812, 813, 114, 107, 141, 142, 5, 143, 341, 342, 343, 344, 814, 815, 816, 556, 557, 558, 345, 346, 347, 348, 349, 350, 351, 352, 111, 431, 432, 433, 392, 393, 394, 395, 108, 109, 863, 864, 865, 866, 867, 868, 869, 870, 871, 872, 873, 874, 875, 876, 877, 878, 879, 880, 881, 882, 883, 884, 885, 886, 887, 888] (by decide +kernel) (by decide +kernel)
set_option maxRecDepth 20000 in
theorem gL_law_X10_mark : GoodIn wsL_law (wsV RL 105 RX10 yX10_mark wsX10_mark) := goodIn_app (goodIn_of _ (by decide +kernel)) ggL_law_X10_mark
set_option maxRecDepth 20000 in
theorem ggL_law_X9_keep : GoodIn wsL_law wsX9_keep := goodIn_r _ [820, 25, 24, 156, 303, 454, 128, 129, 2, 130, 821, 822, 823, 23, 824, 61, 62, 245, 408, 409, 410, 60, 411, 67, 251, 236, 237, 238, 68, 69, 70, 253, 853, 854, 855, 856, 857, 858, 859, 860, 861, 862, 900, 901, 902, 920, 921, 922, 923, 924] (by decide +kernel) (by decide +kernel)
set_option maxRecDepth 20000 in
theorem gL_law_X9_keep : GoodIn wsL_law (wsV RL 106 RX9 yX9_keep wsX9_keep) := goodIn_app (goodIn_of _ (by decide +kernel)) ggL_law_X9_keep
set_option maxRecDepth 20000 in
theorem ggL_law_X10_keep : GoodIn wsL_law wsX10_keep := goodIn_r _ [828, 117, 114, 116, 115, 119, 141, 142, 5, 143, 863, 864, 865, 866, 867, 868, 869, 870, 871, 872, 873, 874, 875, 876, 877, 878, 879, 880, 881, 882, 883, 884, 885, 886, 887, 888] (by decide +kernel) (by decide +kernel)
set_option maxRecDepth 20000 in
theorem gL_law_X10_keep : GoodIn wsL_law (wsV RL 109 RX10 yX10_keep wsX10_keep) := goodIn_app (goodIn_of _ (by decide +kernel)) ggL_law_X10_keep
set_option maxRecDepth 20000 in
theorem ggL_law_X9_back : GoodIn wsL_law wsX9_back := goodIn_r _ [832, 156, 24, 25, 303, 454, 128, 129, 2, 130, 333, 334, 335, 336, 821, 822, 823, 23, 824, 61, 62, 245, 408, 409, 410, 60, 411, 67, 251, 236, 237, 238, 68, 69, 70, 253, 853, 854, 855, 856, 857, 858, 859, 860, 861, 862, 900, 901, 902, 920, 921, 922, 923, 924] (by decide +kernel) (by decide +kernel)
set_option maxRecDepth 20000 in
theorem gL_law_X9_back : GoodIn wsL_law (wsV RL 110 RX9 yX9_back wsX9_back) := goodIn_app (goodIn_of _ (by decide +kernel)) ggL_law_X9_back
set_option maxRecDepth 20000 in
theorem ggL_law_X10_back : GoodIn wsL_law wsX10_back := goodIn_r _ [836, 119, 114, 117, 116, 115, 141, 142, 5, 143, 863, 864, 865, 866, 867, 868, 869, 870, 871, 872, 873, 874, 875, 876, 877, 878, 879, 880, 881, 882, 883, 884, 885, 886, 887, 888] (by decide +kernel) (by decide +kernel)
set_option maxRecDepth 20000 in
theorem gL_law_X10_back : GoodIn wsL_law (wsV RL 113 RX10 yX10_back wsX10_back) := goodIn_app (goodIn_of _ (by decide +kernel)) ggL_law_X10_back
set_option maxRecDepth 20000 in
theorem ggL_law_X9_count : GoodIn wsL_law wsX9_count := goodIn_r _ [840, 20, 500, 311, 331, 37, 157, 24, 471, 15, 127, 853, 854, 855, 856, 857, 858, 859, 860, 861, 862, 911, 912, 913, 914, 915, 916, 917, 918, 919, 892, 893, 894, 895, 896, 897, 898, 899, 907, 908, 909, 910, 900, 901, 902, 889, 890, 891] (by decide +kernel) (by decide +kernel)
set_option maxRecDepth 20000 in
theorem gL_law_X9_count : GoodIn wsL_law (wsV RL 114 RX9 yX9_count wsX9_count) := goodIn_app (goodIn_of _ (by decide +kernel)) ggL_law_X9_count
set_option maxRecDepth 20000 in
theorem ggL_law_X10_count : GoodIn wsL_law wsX10_count := goodIn_r _ [844, 106, 107, 111, 264, 115, 140, 863, 864, 865, 866, 867, 868, 869, 870, 871, 872, 873, 874, 875, 876, 877, 878, 879, 880, 881, 882, 883, 884, 885, 886, 887, 888] (by decide +kernel) (by decide +kernel)
set_option maxRecDepth 20000 in
theorem gL_law_X10_count : GoodIn wsL_law (wsV RL 117 RX10 yX10_count wsX10_count) := goodIn_app (goodIn_of _ (by decide +kernel)) ggL_law_X10_count
set_option maxRecDepth 20000 in
theorem ggL_law_X9_trace : GoodIn wsL_law wsX9_trace := goodIn_r _ [848, 781, 853, 854, 855, 856, 857, 858, 859, 860, 861, 862] (by decide +kernel) (by decide +kernel)
set_option maxRecDepth 20000 in
theorem gL_law_X9_trace : GoodIn wsL_law (wsV RL 118 RX9 yX9_trace wsX9_trace) := goodIn_app (goodIn_of _ (by decide +kernel)) ggL_law_X9_trace
set_option maxRecDepth 20000 in
theorem ggL_law_X10_trace : GoodIn wsL_law wsX10_trace := goodIn_r _ [852, 812, 863, 864, 865, 866, 867, 868, 869, 870, 871, 872, 873, 874, 875, 876, 877, 878, 879, 880, 881, 882, 883, 884, 885, 886, 887, 888] (by decide +kernel) (by decide +kernel)
set_option maxRecDepth 20000 in
theorem gL_law_X10_trace : GoodIn wsL_law (wsV RL 122 RX10 yX10_trace wsX10_trace) := goodIn_app (goodIn_of _ (by decide +kernel)) ggL_law_X10_trace
theorem dL_law_0 : decode cL_law 0 = .ok (.new 7, 3) := by decide +kernel
theorem dL_law_3 : decode cL_law 3 = .ok (.dup, 1) := by decide +kernel
theorem dL_law_4 : decode cL_law 4 = .ok (.invokespecial 9, 3) := by decide +kernel
theorem dL_law_7 : decode cL_law 7 = .ok (.astore_n 1, 1) := by decide +kernel
theorem dL_law_8 : decode cL_law 8 = .ok (.new 10, 3) := by decide +kernel
theorem dL_law_11 : decode cL_law 11 = .ok (.dup, 1) := by decide +kernel
theorem dL_law_12 : decode cL_law 12 = .ok (.invokespecial 12, 3) := by decide +kernel
theorem dL_law_15 : decode cL_law 15 = .ok (.astore_n 2, 1) := by decide +kernel
theorem dL_law_16 : decode cL_law 16 = .ok (.iconst 0, 1) := by decide +kernel
theorem dL_law_17 : decode cL_law 17 = .ok (.istore_n 3, 1) := by decide +kernel
theorem dL_law_18 : decode cL_law 18 = .ok (.iload_n 3, 1) := by decide +kernel
theorem dL_law_19 : decode cL_law 19 = .ok (.aload_n 0, 1) := by decide +kernel
theorem dL_law_20 : decode cL_law 20 = .ok (.arraylength, 1) := by decide +kernel
theorem dL_law_21 : decode cL_law 21 = .ok (.iconst 5, 1) := by decide +kernel
theorem dL_law_22 : decode cL_law 22 = .ok (.isub, 1) := by decide +kernel
theorem dL_law_23 : decode cL_law 23 = .ok (.if_icmp .gt 844, 3) := by decide +kernel
theorem dL_law_26 : decode cL_law 26 = .ok (.aload_n 0, 1) := by decide +kernel
theorem dL_law_27 : decode cL_law 27 = .ok (.iload_n 3, 1) := by decide +kernel
theorem dL_law_28 : decode cL_law 28 = .ok (.iaload, 1) := by decide +kernel
theorem dL_law_29 : decode cL_law 29 = .ok (.bipush 31, 2) := by decide +kernel
theorem dL_law_31 : decode cL_law 31 = .ok (.iand, 1) := by decide +kernel
theorem dL_law_32 : decode cL_law 32 = .ok (.tableswitch 829 0 25 #[120, 143, 156, 169, 202, 235, 278, 301, 334, 357, 370, 393, 426, 469, 512, 555, 608, 631, 664, 677, 700, 713, 746, 769, 792, 815], 120) := by decide +kernel
theorem dL_law_152 : decode cL_law 152 = .ok (.aload_n 1, 1) := by decide +kernel
theorem dL_law_153 : decode cL_law 153 = .ok (.aload_n 0, 1) := by decide +kernel
theorem dL_law_154 : decode cL_law 154 = .ok (.iload_n 3, 1) := by decide +kernel
theorem dL_law_155 : decode cL_law 155 = .ok (.iconst 1, 1) := by decide +kernel
theorem dL_law_156 : decode cL_law 156 = .ok (.iadd, 1) := by decide +kernel
theorem dL_law_157 : decode cL_law 157 = .ok (.iaload, 1) := by decide +kernel
theorem dL_law_158 : decode cL_law 158 = .ok (.invokevirtual 13, 3) := by decide +kernel
theorem dL_law_161 : decode cL_law 161 = .ok (.aload_n 2, 1) := by decide +kernel
theorem dL_law_162 : decode cL_law 162 = .ok (.aload_n 0, 1) := by decide +kernel
theorem dL_law_163 : decode cL_law 163 = .ok (.iload_n 3, 1) := by decide +kernel
theorem dL_law_164 : decode cL_law 164 = .ok (.iconst 1, 1) := by decide +kernel
theorem dL_law_165 : decode cL_law 165 = .ok (.iadd, 1) := by decide +kernel
theorem dL_law_166 : decode cL_law 166 = .ok (.iaload, 1) := by decide +kernel
theorem dL_law_167 : decode cL_law 167 = .ok (.invokevirtual 17, 3) := by decide +kernel
theorem dL_law_170 : decode cL_law 170 = .ok (.if_icmp .eq 691, 3) := by decide +kernel
theorem dL_law_173 : decode cL_law 173 = .ok (.iconst 0, 1) := by decide +kernel
theorem dL_law_174 : decode cL_law 174 = .ok (.ireturn, 1) := by decide +kernel
theorem dL_law_175 : decode cL_law 175 = .ok (.aload_n 1, 1) := by decide +kernel
theorem dL_law_176 : decode cL_law 176 = .ok (.invokevirtual 18, 3) := by decide +kernel
theorem dL_law_179 : decode cL_law 179 = .ok (.aload_n 2, 1) := by decide +kernel
theorem dL_law_180 : decode cL_law 180 = .ok (.invokevirtual 22, 3) := by decide +kernel
theorem dL_law_183 : decode cL_law 183 = .ok (.if_icmp .eq 678, 3) := by decide +kernel
theorem dL_law_186 : decode cL_law 186 = .ok (.iconst 0, 1) := by decide +kernel
theorem dL_law_187 : decode cL_law 187 = .ok (.ireturn, 1) := by decide +kernel
theorem dL_law_188 : decode cL_law 188 = .ok (.aload_n 1, 1) := by decide +kernel
theorem dL_law_189 : decode cL_law 189 = .ok (.invokevirtual 23, 3) := by decide +kernel
theorem dL_law_192 : decode cL_law 192 = .ok (.aload_n 2, 1) := by decide +kernel
theorem dL_law_193 : decode cL_law 193 = .ok (.invokevirtual 26, 3) := by decide +kernel
theorem dL_law_196 : decode cL_law 196 = .ok (.if_icmp .eq 665, 3) := by decide +kernel
theorem dL_law_199 : decode cL_law 199 = .ok (.iconst 0, 1) := by decide +kernel
theorem dL_law_200 : decode cL_law 200 = .ok (.ireturn, 1) := by decide +kernel
theorem dL_law_201 : decode cL_law 201 = .ok (.aload_n 1, 1) := by decide +kernel
theorem dL_law_202 : decode cL_law 202 = .ok (.aload_n 0, 1) := by decide +kernel
theorem dL_law_203 : decode cL_law 203 = .ok (.iload_n 3, 1) := by decide +kernel
theorem dL_law_204 : decode cL_law 204 = .ok (.iconst 1, 1) := by decide +kernel
theorem dL_law_205 : decode cL_law 205 = .ok (.iadd, 1) := by decide +kernel
theorem dL_law_206 : decode cL_law 206 = .ok (.iaload, 1) := by decide +kernel
theorem dL_law_207 : decode cL_law 207 = .ok (.aload_n 0, 1) := by decide +kernel
theorem dL_law_208 : decode cL_law 208 = .ok (.iload_n 3, 1) := by decide +kernel
theorem dL_law_209 : decode cL_law 209 = .ok (.iconst 2, 1) := by decide +kernel
theorem dL_law_210 : decode cL_law 210 = .ok (.iadd, 1) := by decide +kernel
theorem dL_law_211 : decode cL_law 211 = .ok (.iaload, 1) := by decide +kernel
theorem dL_law_212 : decode cL_law 212 = .ok (.invokevirtual 27, 3) := by decide +kernel
theorem dL_law_215 : decode cL_law 215 = .ok (.aload_n 2, 1) := by decide +kernel
theorem dL_law_216 : decode cL_law 216 = .ok (.aload_n 0, 1) := by decide +kernel
theorem dL_law_217 : decode cL_law 217 = .ok (.iload_n 3, 1) := by decide +kernel
theorem dL_law_218 : decode cL_law 218 = .ok (.iconst 1, 1) := by decide +kernel
theorem dL_law_219 : decode cL_law 219 = .ok (.iadd, 1) := by decide +kernel
theorem dL_law_220 : decode cL_law 220 = .ok (.iaload, 1) := by decide +kernel
theorem dL_law_221 : decode cL_law 221 = .ok (.aload_n 0, 1) := by decide +kernel
theorem dL_law_222 : decode cL_law 222 = .ok (.iload_n 3, 1) := by decide +kernel
theorem dL_law_223 : decode cL_law 223 = .ok (.iconst 2, 1) := by decide +kernel
theorem dL_law_224 : decode cL_law 224 = .ok (.iadd, 1) := by decide +kernel
theorem dL_law_225 : decode cL_law 225 = .ok (.iaload, 1) := by decide +kernel
theorem dL_law_226 : decode cL_law 226 = .ok (.invokevirtual 31, 3) := by decide +kernel
theorem dL_law_229 : decode cL_law 229 = .ok (.if_icmp .eq 632, 3) := by decide +kernel
theorem dL_law_232 : decode cL_law 232 = .ok (.iconst 0, 1) := by decide +kernel
theorem dL_law_233 : decode cL_law 233 = .ok (.ireturn, 1) := by decide +kernel
theorem dL_law_234 : decode cL_law 234 = .ok (.aload_n 1, 1) := by decide +kernel
theorem dL_law_235 : decode cL_law 235 = .ok (.aload_n 0, 1) := by decide +kernel
theorem dL_law_236 : decode cL_law 236 = .ok (.iload_n 3, 1) := by decide +kernel
theorem dL_law_237 : decode cL_law 237 = .ok (.iconst 1, 1) := by decide +kernel
theorem dL_law_238 : decode cL_law 238 = .ok (.iadd, 1) := by decide +kernel
theorem dL_law_239 : decode cL_law 239 = .ok (.iaload, 1) := by decide +kernel
theorem dL_law_240 : decode cL_law 240 = .ok (.aload_n 0, 1) := by decide +kernel
theorem dL_law_241 : decode cL_law 241 = .ok (.iload_n 3, 1) := by decide +kernel
theorem dL_law_242 : decode cL_law 242 = .ok (.iconst 2, 1) := by decide +kernel
theorem dL_law_243 : decode cL_law 243 = .ok (.iadd, 1) := by decide +kernel
theorem dL_law_244 : decode cL_law 244 = .ok (.iaload, 1) := by decide +kernel
theorem dL_law_245 : decode cL_law 245 = .ok (.invokevirtual 32, 3) := by decide +kernel
theorem dL_law_248 : decode cL_law 248 = .ok (.aload_n 2, 1) := by decide +kernel
theorem dL_law_249 : decode cL_law 249 = .ok (.aload_n 0, 1) := by decide +kernel
theorem dL_law_250 : decode cL_law 250 = .ok (.iload_n 3, 1) := by decide +kernel
theorem dL_law_251 : decode cL_law 251 = .ok (.iconst 1, 1) := by decide +kernel
theorem dL_law_252 : decode cL_law 252 = .ok (.iadd, 1) := by decide +kernel
theorem dL_law_253 : decode cL_law 253 = .ok (.iaload, 1) := by decide +kernel
theorem dL_law_254 : decode cL_law 254 = .ok (.aload_n 0, 1) := by decide +kernel
theorem dL_law_255 : decode cL_law 255 = .ok (.iload_n 3, 1) := by decide +kernel
theorem dL_law_256 : decode cL_law 256 = .ok (.iconst 2, 1) := by decide +kernel
theorem dL_law_257 : decode cL_law 257 = .ok (.iadd, 1) := by decide +kernel
theorem dL_law_258 : decode cL_law 258 = .ok (.iaload, 1) := by decide +kernel
theorem dL_law_259 : decode cL_law 259 = .ok (.invokevirtual 35, 3) := by decide +kernel
theorem dL_law_262 : decode cL_law 262 = .ok (.if_icmp .eq 599, 3) := by decide +kernel
theorem dL_law_265 : decode cL_law 265 = .ok (.iconst 0, 1) := by decide +kernel
theorem dL_law_266 : decode cL_law 266 = .ok (.ireturn, 1) := by decide +kernel
theorem dL_law_267 : decode cL_law 267 = .ok (.aload_n 1, 1) := by decide +kernel
theorem dL_law_268 : decode cL_law 268 = .ok (.aload_n 0, 1) := by decide +kernel
theorem dL_law_269 : decode cL_law 269 = .ok (.iload_n 3, 1) := by decide +kernel
theorem dL_law_270 : decode cL_law 270 = .ok (.iconst 1, 1) := by decide +kernel
theorem dL_law_271 : decode cL_law 271 = .ok (.iadd, 1) := by decide +kernel
theorem dL_law_272 : decode cL_law 272 = .ok (.iaload, 1) := by decide +kernel
theorem dL_law_273 : decode cL_law 273 = .ok (.aload_n 0, 1) := by decide +kernel
theorem dL_law_274 : decode cL_law 274 = .ok (.iload_n 3, 1) := by decide +kernel
theorem dL_law_275 : decode cL_law 275 = .ok (.iconst 2, 1) := by decide +kernel
theorem dL_law_276 : decode cL_law 276 = .ok (.iadd, 1) := by decide +kernel
theorem dL_law_277 : decode cL_law 277 = .ok (.iaload, 1) := by decide +kernel
theorem dL_law_278 : decode cL_law 278 = .ok (.aload_n 0, 1) := by decide +kernel
theorem dL_law_279 : decode cL_law 279 = .ok (.iload_n 3, 1) := by decide +kernel
theorem dL_law_280 : decode cL_law 280 = .ok (.iconst 3, 1) := by decide +kernel
theorem dL_law_281 : decode cL_law 281 = .ok (.iadd, 1) := by decide +kernel
theorem dL_law_282 : decode cL_law 282 = .ok (.iaload, 1) := by decide +kernel
theorem dL_law_283 : decode cL_law 283 = .ok (.invokevirtual 36, 3) := by decide +kernel
theorem dL_law_286 : decode cL_law 286 = .ok (.aload_n 2, 1) := by decide +kernel
theorem dL_law_287 : decode cL_law 287 = .ok (.aload_n 0, 1) := by decide +kernel
theorem dL_law_288 : decode cL_law 288 = .ok (.iload_n 3, 1) := by decide +kernel
theorem dL_law_289 : decode cL_law 289 = .ok (.iconst 1, 1) := by decide +kernel
theorem dL_law_290 : decode cL_law 290 = .ok (.iadd, 1) := by decide +kernel
theorem dL_law_291 : decode cL_law 291 = .ok (.iaload, 1) := by decide +kernel
theorem dL_law_292 : decode cL_law 292 = .ok (.aload_n 0, 1) := by decide +kernel
theorem dL_law_293 : decode cL_law 293 = .ok (.iload_n 3, 1) := by decide +kernel
theorem dL_law_294 : decode cL_law 294 = .ok (.iconst 2, 1) := by decide +kernel
theorem dL_law_295 : decode cL_law 295 = .ok (.iadd, 1) := by decide +kernel
theorem dL_law_296 : decode cL_law 296 = .ok (.iaload, 1) := by decide +kernel
theorem dL_law_297 : decode cL_law 297 = .ok (.aload_n 0, 1) := by decide +kernel
theorem dL_law_298 : decode cL_law 298 = .ok (.iload_n 3, 1) := by decide +kernel
theorem dL_law_299 : decode cL_law 299 = .ok (.iconst 3, 1) := by decide +kernel
theorem dL_law_300 : decode cL_law 300 = .ok (.iadd, 1) := by decide +kernel
theorem dL_law_301 : decode cL_law 301 = .ok (.iaload, 1) := by decide +kernel
theorem dL_law_302 : decode cL_law 302 = .ok (.invokevirtual 40, 3) := by decide +kernel
theorem dL_law_305 : decode cL_law 305 = .ok (.if_icmp .eq 556, 3) := by decide +kernel
theorem dL_law_308 : decode cL_law 308 = .ok (.iconst 0, 1) := by decide +kernel
theorem dL_law_309 : decode cL_law 309 = .ok (.ireturn, 1) := by decide +kernel
theorem dL_law_310 : decode cL_law 310 = .ok (.aload_n 1, 1) := by decide +kernel
theorem dL_law_311 : decode cL_law 311 = .ok (.aload_n 0, 1) := by decide +kernel
theorem dL_law_312 : decode cL_law 312 = .ok (.iload_n 3, 1) := by decide +kernel
theorem dL_law_313 : decode cL_law 313 = .ok (.iconst 1, 1) := by decide +kernel
theorem dL_law_314 : decode cL_law 314 = .ok (.iadd, 1) := by decide +kernel
theorem dL_law_315 : decode cL_law 315 = .ok (.iaload, 1) := by decide +kernel
theorem dL_law_316 : decode cL_law 316 = .ok (.invokevirtual 41, 3) := by decide +kernel
theorem dL_law_319 : decode cL_law 319 = .ok (.aload_n 2, 1) := by decide +kernel
theorem dL_law_320 : decode cL_law 320 = .ok (.aload_n 0, 1) := by decide +kernel
theorem dL_law_321 : decode cL_law 321 = .ok (.iload_n 3, 1) := by decide +kernel
theorem dL_law_322 : decode cL_law 322 = .ok (.iconst 1, 1) := by decide +kernel
theorem dL_law_323 : decode cL_law 323 = .ok (.iadd, 1) := by decide +kernel
theorem dL_law_324 : decode cL_law 324 = .ok (.iaload, 1) := by decide +kernel
theorem dL_law_325 : decode cL_law 325 = .ok (.invokevirtual 44, 3) := by decide +kernel
theorem dL_law_328 : decode cL_law 328 = .ok (.if_icmp .eq 533, 3) := by decide +kernel
theorem dL_law_331 : decode cL_law 331 = .ok (.iconst 0, 1) := by decide +kernel
theorem dL_law_332 : decode cL_law 332 = .ok (.ireturn, 1) := by decide +kernel
theorem dL_law_333 : decode cL_law 333 = .ok (.aload_n 1, 1) := by decide +kernel
theorem dL_law_334 : decode cL_law 334 = .ok (.aload_n 0, 1) := by decide +kernel
theorem dL_law_335 : decode cL_law 335 = .ok (.iload_n 3, 1) := by decide +kernel
theorem dL_law_336 : decode cL_law 336 = .ok (.iconst 1, 1) := by decide +kernel
theorem dL_law_337 : decode cL_law 337 = .ok (.iadd, 1) := by decide +kernel
theorem dL_law_338 : decode cL_law 338 = .ok (.iaload, 1) := by decide +kernel
theorem dL_law_339 : decode cL_law 339 = .ok (.aload_n 0, 1) := by decide +kernel
theorem dL_law_340 : decode cL_law 340 = .ok (.iload_n 3, 1) := by decide +kernel
theorem dL_law_341 : decode cL_law 341 = .ok (.iconst 2, 1) := by decide +kernel
theorem dL_law_342 : decode cL_law 342 = .ok (.iadd, 1) := by decide +kernel
theorem dL_law_343 : decode cL_law 343 = .ok (.iaload, 1) := by decide +kernel
theorem dL_law_344 : decode cL_law 344 = .ok (.invokevirtual 45, 3) := by decide +kernel
theorem dL_law_347 : decode cL_law 347 = .ok (.aload_n 2, 1) := by decide +kernel
theorem dL_law_348 : decode cL_law 348 = .ok (.aload_n 0, 1) := by decide +kernel
theorem dL_law_349 : decode cL_law 349 = .ok (.iload_n 3, 1) := by decide +kernel
theorem dL_law_350 : decode cL_law 350 = .ok (.iconst 1, 1) := by decide +kernel
theorem dL_law_351 : decode cL_law 351 = .ok (.iadd, 1) := by decide +kernel
theorem dL_law_352 : decode cL_law 352 = .ok (.iaload, 1) := by decide +kernel
theorem dL_law_353 : decode cL_law 353 = .ok (.aload_n 0, 1) := by decide +kernel
theorem dL_law_354 : decode cL_law 354 = .ok (.iload_n 3, 1) := by decide +kernel
theorem dL_law_355 : decode cL_law 355 = .ok (.iconst 2, 1) := by decide +kernel
theorem dL_law_356 : decode cL_law 356 = .ok (.iadd, 1) := by decide +kernel
theorem dL_law_357 : decode cL_law 357 = .ok (.iaload, 1) := by decide +kernel
theorem dL_law_358 : decode cL_law 358 = .ok (.invokevirtual 48, 3) := by decide +kernel
theorem dL_law_361 : decode cL_law 361 = .ok (.if_icmp .eq 500, 3) := by decide +kernel
theorem dL_law_364 : decode cL_law 364 = .ok (.iconst 0, 1) := by decide +kernel
theorem dL_law_365 : decode cL_law 365 = .ok (.ireturn, 1) := by decide +kernel
theorem dL_law_366 : decode cL_law 366 = .ok (.aload_n 1, 1) := by decide +kernel
theorem dL_law_367 : decode cL_law 367 = .ok (.aload_n 0, 1) := by decide +kernel
theorem dL_law_368 : decode cL_law 368 = .ok (.iload_n 3, 1) := by decide +kernel
theorem dL_law_369 : decode cL_law 369 = .ok (.iconst 1, 1) := by decide +kernel
theorem dL_law_370 : decode cL_law 370 = .ok (.iadd, 1) := by decide +kernel
theorem dL_law_371 : decode cL_law 371 = .ok (.iaload, 1) := by decide +kernel
theorem dL_law_372 : decode cL_law 372 = .ok (.invokevirtual 49, 3) := by decide +kernel
theorem dL_law_375 : decode cL_law 375 = .ok (.aload_n 2, 1) := by decide +kernel
theorem dL_law_376 : decode cL_law 376 = .ok (.aload_n 0, 1) := by decide +kernel
theorem dL_law_377 : decode cL_law 377 = .ok (.iload_n 3, 1) := by decide +kernel
theorem dL_law_378 : decode cL_law 378 = .ok (.iconst 1, 1) := by decide +kernel
theorem dL_law_379 : decode cL_law 379 = .ok (.iadd, 1) := by decide +kernel
theorem dL_law_380 : decode cL_law 380 = .ok (.iaload, 1) := by decide +kernel
theorem dL_law_381 : decode cL_law 381 = .ok (.invokevirtual 52, 3) := by decide +kernel
theorem dL_law_384 : decode cL_law 384 = .ok (.if_icmp .eq 477, 3) := by decide +kernel
theorem dL_law_387 : decode cL_law 387 = .ok (.iconst 0, 1) := by decide +kernel
theorem dL_law_388 : decode cL_law 388 = .ok (.ireturn, 1) := by decide +kernel
theorem dL_law_389 : decode cL_law 389 = .ok (.aload_n 1, 1) := by decide +kernel
theorem dL_law_390 : decode cL_law 390 = .ok (.invokevirtual 53, 3) := by decide +kernel
theorem dL_law_393 : decode cL_law 393 = .ok (.aload_n 2, 1) := by decide +kernel
theorem dL_law_394 : decode cL_law 394 = .ok (.invokevirtual 56, 3) := by decide +kernel
theorem dL_law_397 : decode cL_law 397 = .ok (.if_icmp .eq 464, 3) := by decide +kernel
theorem dL_law_400 : decode cL_law 400 = .ok (.iconst 0, 1) := by decide +kernel
theorem dL_law_401 : decode cL_law 401 = .ok (.ireturn, 1) := by decide +kernel
theorem dL_law_402 : decode cL_law 402 = .ok (.aload_n 1, 1) := by decide +kernel
theorem dL_law_403 : decode cL_law 403 = .ok (.aload_n 0, 1) := by decide +kernel
theorem dL_law_404 : decode cL_law 404 = .ok (.iload_n 3, 1) := by decide +kernel
theorem dL_law_405 : decode cL_law 405 = .ok (.iconst 1, 1) := by decide +kernel
theorem dL_law_406 : decode cL_law 406 = .ok (.iadd, 1) := by decide +kernel
theorem dL_law_407 : decode cL_law 407 = .ok (.iaload, 1) := by decide +kernel
theorem dL_law_408 : decode cL_law 408 = .ok (.invokevirtual 57, 3) := by decide +kernel
theorem dL_law_411 : decode cL_law 411 = .ok (.aload_n 2, 1) := by decide +kernel
theorem dL_law_412 : decode cL_law 412 = .ok (.aload_n 0, 1) := by decide +kernel
theorem dL_law_413 : decode cL_law 413 = .ok (.iload_n 3, 1) := by decide +kernel
theorem dL_law_414 : decode cL_law 414 = .ok (.iconst 1, 1) := by decide +kernel
theorem dL_law_415 : decode cL_law 415 = .ok (.iadd, 1) := by decide +kernel
theorem dL_law_416 : decode cL_law 416 = .ok (.iaload, 1) := by decide +kernel
theorem dL_law_417 : decode cL_law 417 = .ok (.invokevirtual 60, 3) := by decide +kernel
theorem dL_law_420 : decode cL_law 420 = .ok (.if_icmp .eq 441, 3) := by decide +kernel
theorem dL_law_423 : decode cL_law 423 = .ok (.iconst 0, 1) := by decide +kernel
theorem dL_law_424 : decode cL_law 424 = .ok (.ireturn, 1) := by decide +kernel
theorem dL_law_425 : decode cL_law 425 = .ok (.aload_n 1, 1) := by decide +kernel
theorem dL_law_426 : decode cL_law 426 = .ok (.aload_n 0, 1) := by decide +kernel
theorem dL_law_427 : decode cL_law 427 = .ok (.iload_n 3, 1) := by decide +kernel
theorem dL_law_428 : decode cL_law 428 = .ok (.iconst 1, 1) := by decide +kernel
theorem dL_law_429 : decode cL_law 429 = .ok (.iadd, 1) := by decide +kernel
theorem dL_law_430 : decode cL_law 430 = .ok (.iaload, 1) := by decide +kernel
theorem dL_law_431 : decode cL_law 431 = .ok (.aload_n 0, 1) := by decide +kernel
theorem dL_law_432 : decode cL_law 432 = .ok (.iload_n 3, 1) := by decide +kernel
theorem dL_law_433 : decode cL_law 433 = .ok (.iconst 2, 1) := by decide +kernel
theorem dL_law_434 : decode cL_law 434 = .ok (.iadd, 1) := by decide +kernel
theorem dL_law_435 : decode cL_law 435 = .ok (.iaload, 1) := by decide +kernel
theorem dL_law_436 : decode cL_law 436 = .ok (.invokevirtual 61, 3) := by decide +kernel
theorem dL_law_439 : decode cL_law 439 = .ok (.aload_n 2, 1) := by decide +kernel
theorem dL_law_440 : decode cL_law 440 = .ok (.aload_n 0, 1) := by decide +kernel
theorem dL_law_441 : decode cL_law 441 = .ok (.iload_n 3, 1) := by decide +kernel
theorem dL_law_442 : decode cL_law 442 = .ok (.iconst 1, 1) := by decide +kernel
theorem dL_law_443 : decode cL_law 443 = .ok (.iadd, 1) := by decide +kernel
theorem dL_law_444 : decode cL_law 444 = .ok (.iaload, 1) := by decide +kernel
theorem dL_law_445 : decode cL_law 445 = .ok (.aload_n 0, 1) := by decide +kernel
theorem dL_law_446 : decode cL_law 446 = .ok (.iload_n 3, 1) := by decide +kernel
theorem dL_law_447 : decode cL_law 447 = .ok (.iconst 2, 1) := by decide +kernel
theorem dL_law_448 : decode cL_law 448 = .ok (.iadd, 1) := by decide +kernel
theorem dL_law_449 : decode cL_law 449 = .ok (.iaload, 1) := by decide +kernel
theorem dL_law_450 : decode cL_law 450 = .ok (.invokevirtual 64, 3) := by decide +kernel
theorem dL_law_453 : decode cL_law 453 = .ok (.if_icmp .eq 408, 3) := by decide +kernel
theorem dL_law_456 : decode cL_law 456 = .ok (.iconst 0, 1) := by decide +kernel
theorem dL_law_457 : decode cL_law 457 = .ok (.ireturn, 1) := by decide +kernel
theorem dL_law_458 : decode cL_law 458 = .ok (.aload_n 1, 1) := by decide +kernel
theorem dL_law_459 : decode cL_law 459 = .ok (.aload_n 0, 1) := by decide +kernel
theorem dL_law_460 : decode cL_law 460 = .ok (.iload_n 3, 1) := by decide +kernel
theorem dL_law_461 : decode cL_law 461 = .ok (.iconst 1, 1) := by decide +kernel
theorem dL_law_462 : decode cL_law 462 = .ok (.iadd, 1) := by decide +kernel
theorem dL_law_463 : decode cL_law 463 = .ok (.iaload, 1) := by decide +kernel
theorem dL_law_464 : decode cL_law 464 = .ok (.aload_n 0, 1) := by decide +kernel
theorem dL_law_465 : decode cL_law 465 = .ok (.iload_n 3, 1) := by decide +kernel
theorem dL_law_466 : decode cL_law 466 = .ok (.iconst 2, 1) := by decide +kernel
theorem dL_law_467 : decode cL_law 467 = .ok (.iadd, 1) := by decide +kernel
theorem dL_law_468 : decode cL_law 468 = .ok (.iaload, 1) := by decide +kernel
theorem dL_law_469 : decode cL_law 469 = .ok (.aload_n 0, 1) := by decide +kernel
theorem dL_law_470 : decode cL_law 470 = .ok (.iload_n 3, 1) := by decide +kernel
theorem dL_law_471 : decode cL_law 471 = .ok (.iconst 3, 1) := by decide +kernel
theorem dL_law_472 : decode cL_law 472 = .ok (.iadd, 1) := by decide +kernel
theorem dL_law_473 : decode cL_law 473 = .ok (.iaload, 1) := by decide +kernel
theorem dL_law_474 : decode cL_law 474 = .ok (.invokevirtual 65, 3) := by decide +kernel
theorem dL_law_477 : decode cL_law 477 = .ok (.aload_n 2, 1) := by decide +kernel
theorem dL_law_478 : decode cL_law 478 = .ok (.aload_n 0, 1) := by decide +kernel
theorem dL_law_479 : decode cL_law 479 = .ok (.iload_n 3, 1) := by decide +kernel
theorem dL_law_480 : decode cL_law 480 = .ok (.iconst 1, 1) := by decide +kernel
theorem dL_law_481 : decode cL_law 481 = .ok (.iadd, 1) := by decide +kernel
theorem dL_law_482 : decode cL_law 482 = .ok (.iaload, 1) := by decide +kernel
theorem dL_law_483 : decode cL_law 483 = .ok (.aload_n 0, 1) := by decide +kernel
theorem dL_law_484 : decode cL_law 484 = .ok (.iload_n 3, 1) := by decide +kernel
theorem dL_law_485 : decode cL_law 485 = .ok (.iconst 2, 1) := by decide +kernel
theorem dL_law_486 : decode cL_law 486 = .ok (.iadd, 1) := by decide +kernel
theorem dL_law_487 : decode cL_law 487 = .ok (.iaload, 1) := by decide +kernel
theorem dL_law_488 : decode cL_law 488 = .ok (.aload_n 0, 1) := by decide +kernel
theorem dL_law_489 : decode cL_law 489 = .ok (.iload_n 3, 1) := by decide +kernel
theorem dL_law_490 : decode cL_law 490 = .ok (.iconst 3, 1) := by decide +kernel
theorem dL_law_491 : decode cL_law 491 = .ok (.iadd, 1) := by decide +kernel
theorem dL_law_492 : decode cL_law 492 = .ok (.iaload, 1) := by decide +kernel
theorem dL_law_493 : decode cL_law 493 = .ok (.invokevirtual 68, 3) := by decide +kernel
theorem dL_law_496 : decode cL_law 496 = .ok (.if_icmp .eq 365, 3) := by decide +kernel
theorem dL_law_499 : decode cL_law 499 = .ok (.iconst 0, 1) := by decide +kernel
theorem dL_law_500 : decode cL_law 500 = .ok (.ireturn, 1) := by decide +kernel
theorem dL_law_501 : decode cL_law 501 = .ok (.aload_n 1, 1) := by decide +kernel
theorem dL_law_502 : decode cL_law 502 = .ok (.aload_n 0, 1) := by decide +kernel
theorem dL_law_503 : decode cL_law 503 = .ok (.iload_n 3, 1) := by decide +kernel
theorem dL_law_504 : decode cL_law 504 = .ok (.iconst 1, 1) := by decide +kernel
theorem dL_law_505 : decode cL_law 505 = .ok (.iadd, 1) := by decide +kernel
theorem dL_law_506 : decode cL_law 506 = .ok (.iaload, 1) := by decide +kernel
theorem dL_law_507 : decode cL_law 507 = .ok (.aload_n 0, 1) := by decide +kernel
theorem dL_law_508 : decode cL_law 508 = .ok (.iload_n 3, 1) := by decide +kernel
theorem dL_law_509 : decode cL_law 509 = .ok (.iconst 2, 1) := by decide +kernel
theorem dL_law_510 : decode cL_law 510 = .ok (.iadd, 1) := by decide +kernel
theorem dL_law_511 : decode cL_law 511 = .ok (.iaload, 1) := by decide +kernel
theorem dL_law_512 : decode cL_law 512 = .ok (.aload_n 0, 1) := by decide +kernel
theorem dL_law_513 : decode cL_law 513 = .ok (.iload_n 3, 1) := by decide +kernel
theorem dL_law_514 : decode cL_law 514 = .ok (.iconst 3, 1) := by decide +kernel
theorem dL_law_515 : decode cL_law 515 = .ok (.iadd, 1) := by decide +kernel
theorem dL_law_516 : decode cL_law 516 = .ok (.iaload, 1) := by decide +kernel
theorem dL_law_517 : decode cL_law 517 = .ok (.invokevirtual 69, 3) := by decide +kernel
theorem dL_law_520 : decode cL_law 520 = .ok (.aload_n 2, 1) := by decide +kernel
theorem dL_law_521 : decode cL_law 521 = .ok (.aload_n 0, 1) := by decide +kernel
theorem dL_law_522 : decode cL_law 522 = .ok (.iload_n 3, 1) := by decide +kernel
theorem dL_law_523 : decode cL_law 523 = .ok (.iconst 1, 1) := by decide +kernel
theorem dL_law_524 : decode cL_law 524 = .ok (.iadd, 1) := by decide +kernel
theorem dL_law_525 : decode cL_law 525 = .ok (.iaload, 1) := by decide +kernel
theorem dL_law_526 : decode cL_law 526 = .ok (.aload_n 0, 1) := by decide +kernel
theorem dL_law_527 : decode cL_law 527 = .ok (.iload_n 3, 1) := by decide +kernel
theorem dL_law_528 : decode cL_law 528 = .ok (.iconst 2, 1) := by decide +kernel
theorem dL_law_529 : decode cL_law 529 = .ok (.iadd, 1) := by decide +kernel
theorem dL_law_530 : decode cL_law 530 = .ok (.iaload, 1) := by decide +kernel
theorem dL_law_531 : decode cL_law 531 = .ok (.aload_n 0, 1) := by decide +kernel
theorem dL_law_532 : decode cL_law 532 = .ok (.iload_n 3, 1) := by decide +kernel
theorem dL_law_533 : decode cL_law 533 = .ok (.iconst 3, 1) := by decide +kernel
theorem dL_law_534 : decode cL_law 534 = .ok (.iadd, 1) := by decide +kernel
theorem dL_law_535 : decode cL_law 535 = .ok (.iaload, 1) := by decide +kernel
theorem dL_law_536 : decode cL_law 536 = .ok (.invokevirtual 72, 3) := by decide +kernel
theorem dL_law_539 : decode cL_law 539 = .ok (.if_icmp .eq 322, 3) := by decide +kernel
theorem dL_law_542 : decode cL_law 542 = .ok (.iconst 0, 1) := by decide +kernel
theorem dL_law_543 : decode cL_law 543 = .ok (.ireturn, 1) := by decide +kernel
theorem dL_law_544 : decode cL_law 544 = .ok (.aload_n 1, 1) := by decide +kernel
theorem dL_law_545 : decode cL_law 545 = .ok (.aload_n 0, 1) := by decide +kernel
theorem dL_law_546 : decode cL_law 546 = .ok (.iload_n 3, 1) := by decide +kernel
theorem dL_law_547 : decode cL_law 547 = .ok (.iconst 1, 1) := by decide +kernel
theorem dL_law_548 : decode cL_law 548 = .ok (.iadd, 1) := by decide +kernel
theorem dL_law_549 : decode cL_law 549 = .ok (.iaload, 1) := by decide +kernel
theorem dL_law_550 : decode cL_law 550 = .ok (.aload_n 0, 1) := by decide +kernel
theorem dL_law_551 : decode cL_law 551 = .ok (.iload_n 3, 1) := by decide +kernel
theorem dL_law_552 : decode cL_law 552 = .ok (.iconst 2, 1) := by decide +kernel
theorem dL_law_553 : decode cL_law 553 = .ok (.iadd, 1) := by decide +kernel
theorem dL_law_554 : decode cL_law 554 = .ok (.iaload, 1) := by decide +kernel
theorem dL_law_555 : decode cL_law 555 = .ok (.aload_n 0, 1) := by decide +kernel
theorem dL_law_556 : decode cL_law 556 = .ok (.iload_n 3, 1) := by decide +kernel
theorem dL_law_557 : decode cL_law 557 = .ok (.iconst 3, 1) := by decide +kernel
theorem dL_law_558 : decode cL_law 558 = .ok (.iadd, 1) := by decide +kernel
theorem dL_law_559 : decode cL_law 559 = .ok (.iaload, 1) := by decide +kernel
theorem dL_law_560 : decode cL_law 560 = .ok (.invokevirtual 73, 3) := by decide +kernel
theorem dL_law_563 : decode cL_law 563 = .ok (.aload_n 2, 1) := by decide +kernel
theorem dL_law_564 : decode cL_law 564 = .ok (.aload_n 0, 1) := by decide +kernel
theorem dL_law_565 : decode cL_law 565 = .ok (.iload_n 3, 1) := by decide +kernel
theorem dL_law_566 : decode cL_law 566 = .ok (.iconst 1, 1) := by decide +kernel
theorem dL_law_567 : decode cL_law 567 = .ok (.iadd, 1) := by decide +kernel
theorem dL_law_568 : decode cL_law 568 = .ok (.iaload, 1) := by decide +kernel
theorem dL_law_569 : decode cL_law 569 = .ok (.aload_n 0, 1) := by decide +kernel
theorem dL_law_570 : decode cL_law 570 = .ok (.iload_n 3, 1) := by decide +kernel
theorem dL_law_571 : decode cL_law 571 = .ok (.iconst 2, 1) := by decide +kernel
theorem dL_law_572 : decode cL_law 572 = .ok (.iadd, 1) := by decide +kernel
theorem dL_law_573 : decode cL_law 573 = .ok (.iaload, 1) := by decide +kernel
theorem dL_law_574 : decode cL_law 574 = .ok (.aload_n 0, 1) := by decide +kernel
theorem dL_law_575 : decode cL_law 575 = .ok (.iload_n 3, 1) := by decide +kernel
theorem dL_law_576 : decode cL_law 576 = .ok (.iconst 3, 1) := by decide +kernel
theorem dL_law_577 : decode cL_law 577 = .ok (.iadd, 1) := by decide +kernel
theorem dL_law_578 : decode cL_law 578 = .ok (.iaload, 1) := by decide +kernel
theorem dL_law_579 : decode cL_law 579 = .ok (.invokevirtual 76, 3) := by decide +kernel
theorem dL_law_582 : decode cL_law 582 = .ok (.if_icmp .eq 279, 3) := by decide +kernel
theorem dL_law_585 : decode cL_law 585 = .ok (.iconst 0, 1) := by decide +kernel
theorem dL_law_586 : decode cL_law 586 = .ok (.ireturn, 1) := by decide +kernel
theorem dL_law_587 : decode cL_law 587 = .ok (.aload_n 1, 1) := by decide +kernel
theorem dL_law_588 : decode cL_law 588 = .ok (.aload_n 0, 1) := by decide +kernel
theorem dL_law_589 : decode cL_law 589 = .ok (.iload_n 3, 1) := by decide +kernel
theorem dL_law_590 : decode cL_law 590 = .ok (.iconst 1, 1) := by decide +kernel
theorem dL_law_591 : decode cL_law 591 = .ok (.iadd, 1) := by decide +kernel
theorem dL_law_592 : decode cL_law 592 = .ok (.iaload, 1) := by decide +kernel
theorem dL_law_593 : decode cL_law 593 = .ok (.aload_n 0, 1) := by decide +kernel
theorem dL_law_594 : decode cL_law 594 = .ok (.iload_n 3, 1) := by decide +kernel
theorem dL_law_595 : decode cL_law 595 = .ok (.iconst 2, 1) := by decide +kernel
theorem dL_law_596 : decode cL_law 596 = .ok (.iadd, 1) := by decide +kernel
theorem dL_law_597 : decode cL_law 597 = .ok (.iaload, 1) := by decide +kernel
theorem dL_law_598 : decode cL_law 598 = .ok (.aload_n 0, 1) := by decide +kernel
theorem dL_law_599 : decode cL_law 599 = .ok (.iload_n 3, 1) := by decide +kernel
theorem dL_law_600 : decode cL_law 600 = .ok (.iconst 3, 1) := by decide +kernel
theorem dL_law_601 : decode cL_law 601 = .ok (.iadd, 1) := by decide +kernel
theorem dL_law_602 : decode cL_law 602 = .ok (.iaload, 1) := by decide +kernel
theorem dL_law_603 : decode cL_law 603 = .ok (.aload_n 0, 1) := by decide +kernel
theorem dL_law_604 : decode cL_law 604 = .ok (.iload_n 3, 1) := by decide +kernel
theorem dL_law_605 : decode cL_law 605 = .ok (.iconst 4, 1) := by decide +kernel
theorem dL_law_606 : decode cL_law 606 = .ok (.iadd, 1) := by decide +kernel
theorem dL_law_607 : decode cL_law 607 = .ok (.iaload, 1) := by decide +kernel
theorem dL_law_608 : decode cL_law 608 = .ok (.invokevirtual 77, 3) := by decide +kernel
theorem dL_law_611 : decode cL_law 611 = .ok (.aload_n 2, 1) := by decide +kernel
theorem dL_law_612 : decode cL_law 612 = .ok (.aload_n 0, 1) := by decide +kernel
theorem dL_law_613 : decode cL_law 613 = .ok (.iload_n 3, 1) := by decide +kernel
theorem dL_law_614 : decode cL_law 614 = .ok (.iconst 1, 1) := by decide +kernel
theorem dL_law_615 : decode cL_law 615 = .ok (.iadd, 1) := by decide +kernel
theorem dL_law_616 : decode cL_law 616 = .ok (.iaload, 1) := by decide +kernel
theorem dL_law_617 : decode cL_law 617 = .ok (.aload_n 0, 1) := by decide +kernel
theorem dL_law_618 : decode cL_law 618 = .ok (.iload_n 3, 1) := by decide +kernel
theorem dL_law_619 : decode cL_law 619 = .ok (.iconst 2, 1) := by decide +kernel
theorem dL_law_620 : decode cL_law 620 = .ok (.iadd, 1) := by decide +kernel
theorem dL_law_621 : decode cL_law 621 = .ok (.iaload, 1) := by decide +kernel
theorem dL_law_622 : decode cL_law 622 = .ok (.aload_n 0, 1) := by decide +kernel
theorem dL_law_623 : decode cL_law 623 = .ok (.iload_n 3, 1) := by decide +kernel
theorem dL_law_624 : decode cL_law 624 = .ok (.iconst 3, 1) := by decide +kernel
theorem dL_law_625 : decode cL_law 625 = .ok (.iadd, 1) := by decide +kernel
theorem dL_law_626 : decode cL_law 626 = .ok (.iaload, 1) := by decide +kernel
theorem dL_law_627 : decode cL_law 627 = .ok (.aload_n 0, 1) := by decide +kernel
theorem dL_law_628 : decode cL_law 628 = .ok (.iload_n 3, 1) := by decide +kernel
theorem dL_law_629 : decode cL_law 629 = .ok (.iconst 4, 1) := by decide +kernel
theorem dL_law_630 : decode cL_law 630 = .ok (.iadd, 1) := by decide +kernel
theorem dL_law_631 : decode cL_law 631 = .ok (.iaload, 1) := by decide +kernel
theorem dL_law_632 : decode cL_law 632 = .ok (.invokevirtual 81, 3) := by decide +kernel
theorem dL_law_635 : decode cL_law 635 = .ok (.if_icmp .eq 226, 3) := by decide +kernel
theorem dL_law_638 : decode cL_law 638 = .ok (.iconst 0, 1) := by decide +kernel
theorem dL_law_639 : decode cL_law 639 = .ok (.ireturn, 1) := by decide +kernel
theorem dL_law_640 : decode cL_law 640 = .ok (.aload_n 1, 1) := by decide +kernel
theorem dL_law_641 : decode cL_law 641 = .ok (.aload_n 0, 1) := by decide +kernel
theorem dL_law_642 : decode cL_law 642 = .ok (.iload_n 3, 1) := by decide +kernel
theorem dL_law_643 : decode cL_law 643 = .ok (.iconst 1, 1) := by decide +kernel
theorem dL_law_644 : decode cL_law 644 = .ok (.iadd, 1) := by decide +kernel
theorem dL_law_645 : decode cL_law 645 = .ok (.iaload, 1) := by decide +kernel
theorem dL_law_646 : decode cL_law 646 = .ok (.invokevirtual 82, 3) := by decide +kernel
theorem dL_law_649 : decode cL_law 649 = .ok (.aload_n 2, 1) := by decide +kernel
theorem dL_law_650 : decode cL_law 650 = .ok (.aload_n 0, 1) := by decide +kernel
theorem dL_law_651 : decode cL_law 651 = .ok (.iload_n 3, 1) := by decide +kernel
theorem dL_law_652 : decode cL_law 652 = .ok (.iconst 1, 1) := by decide +kernel
theorem dL_law_653 : decode cL_law 653 = .ok (.iadd, 1) := by decide +kernel
theorem dL_law_654 : decode cL_law 654 = .ok (.iaload, 1) := by decide +kernel
theorem dL_law_655 : decode cL_law 655 = .ok (.invokevirtual 85, 3) := by decide +kernel
theorem dL_law_658 : decode cL_law 658 = .ok (.if_icmp .eq 203, 3) := by decide +kernel
theorem dL_law_661 : decode cL_law 661 = .ok (.iconst 0, 1) := by decide +kernel
theorem dL_law_662 : decode cL_law 662 = .ok (.ireturn, 1) := by decide +kernel
theorem dL_law_663 : decode cL_law 663 = .ok (.aload_n 1, 1) := by decide +kernel
theorem dL_law_664 : decode cL_law 664 = .ok (.aload_n 0, 1) := by decide +kernel
theorem dL_law_665 : decode cL_law 665 = .ok (.iload_n 3, 1) := by decide +kernel
theorem dL_law_666 : decode cL_law 666 = .ok (.iconst 1, 1) := by decide +kernel
theorem dL_law_667 : decode cL_law 667 = .ok (.iadd, 1) := by decide +kernel
theorem dL_law_668 : decode cL_law 668 = .ok (.iaload, 1) := by decide +kernel
theorem dL_law_669 : decode cL_law 669 = .ok (.aload_n 0, 1) := by decide +kernel
theorem dL_law_670 : decode cL_law 670 = .ok (.iload_n 3, 1) := by decide +kernel
theorem dL_law_671 : decode cL_law 671 = .ok (.iconst 2, 1) := by decide +kernel
theorem dL_law_672 : decode cL_law 672 = .ok (.iadd, 1) := by decide +kernel
theorem dL_law_673 : decode cL_law 673 = .ok (.iaload, 1) := by decide +kernel
theorem dL_law_674 : decode cL_law 674 = .ok (.invokevirtual 86, 3) := by decide +kernel
theorem dL_law_677 : decode cL_law 677 = .ok (.aload_n 2, 1) := by decide +kernel
theorem dL_law_678 : decode cL_law 678 = .ok (.aload_n 0, 1) := by decide +kernel
theorem dL_law_679 : decode cL_law 679 = .ok (.iload_n 3, 1) := by decide +kernel
theorem dL_law_680 : decode cL_law 680 = .ok (.iconst 1, 1) := by decide +kernel
theorem dL_law_681 : decode cL_law 681 = .ok (.iadd, 1) := by decide +kernel
theorem dL_law_682 : decode cL_law 682 = .ok (.iaload, 1) := by decide +kernel
theorem dL_law_683 : decode cL_law 683 = .ok (.aload_n 0, 1) := by decide +kernel
theorem dL_law_684 : decode cL_law 684 = .ok (.iload_n 3, 1) := by decide +kernel
theorem dL_law_685 : decode cL_law 685 = .ok (.iconst 2, 1) := by decide +kernel
theorem dL_law_686 : decode cL_law 686 = .ok (.iadd, 1) := by decide +kernel
theorem dL_law_687 : decode cL_law 687 = .ok (.iaload, 1) := by decide +kernel
theorem dL_law_688 : decode cL_law 688 = .ok (.invokevirtual 89, 3) := by decide +kernel
theorem dL_law_691 : decode cL_law 691 = .ok (.if_icmp .eq 170, 3) := by decide +kernel
theorem dL_law_694 : decode cL_law 694 = .ok (.iconst 0, 1) := by decide +kernel
theorem dL_law_695 : decode cL_law 695 = .ok (.ireturn, 1) := by decide +kernel
theorem dL_law_696 : decode cL_law 696 = .ok (.aload_n 1, 1) := by decide +kernel
theorem dL_law_697 : decode cL_law 697 = .ok (.invokevirtual 90, 3) := by decide +kernel
theorem dL_law_700 : decode cL_law 700 = .ok (.aload_n 2, 1) := by decide +kernel
theorem dL_law_701 : decode cL_law 701 = .ok (.invokevirtual 93, 3) := by decide +kernel
theorem dL_law_704 : decode cL_law 704 = .ok (.if_icmp .eq 157, 3) := by decide +kernel
theorem dL_law_707 : decode cL_law 707 = .ok (.iconst 0, 1) := by decide +kernel
theorem dL_law_708 : decode cL_law 708 = .ok (.ireturn, 1) := by decide +kernel
theorem dL_law_709 : decode cL_law 709 = .ok (.aload_n 1, 1) := by decide +kernel
theorem dL_law_710 : decode cL_law 710 = .ok (.aload_n 0, 1) := by decide +kernel
theorem dL_law_711 : decode cL_law 711 = .ok (.iload_n 3, 1) := by decide +kernel
theorem dL_law_712 : decode cL_law 712 = .ok (.iconst 1, 1) := by decide +kernel
theorem dL_law_713 : decode cL_law 713 = .ok (.iadd, 1) := by decide +kernel
theorem dL_law_714 : decode cL_law 714 = .ok (.iaload, 1) := by decide +kernel
theorem dL_law_715 : decode cL_law 715 = .ok (.invokevirtual 94, 3) := by decide +kernel
theorem dL_law_718 : decode cL_law 718 = .ok (.aload_n 2, 1) := by decide +kernel
theorem dL_law_719 : decode cL_law 719 = .ok (.aload_n 0, 1) := by decide +kernel
theorem dL_law_720 : decode cL_law 720 = .ok (.iload_n 3, 1) := by decide +kernel
theorem dL_law_721 : decode cL_law 721 = .ok (.iconst 1, 1) := by decide +kernel
theorem dL_law_722 : decode cL_law 722 = .ok (.iadd, 1) := by decide +kernel
theorem dL_law_723 : decode cL_law 723 = .ok (.iaload, 1) := by decide +kernel
theorem dL_law_724 : decode cL_law 724 = .ok (.invokevirtual 97, 3) := by decide +kernel
theorem dL_law_727 : decode cL_law 727 = .ok (.if_icmp .eq 134, 3) := by decide +kernel
theorem dL_law_730 : decode cL_law 730 = .ok (.iconst 0, 1) := by decide +kernel
theorem dL_law_731 : decode cL_law 731 = .ok (.ireturn, 1) := by decide +kernel
theorem dL_law_732 : decode cL_law 732 = .ok (.aload_n 1, 1) := by decide +kernel
theorem dL_law_733 : decode cL_law 733 = .ok (.invokevirtual 98, 3) := by decide +kernel
theorem dL_law_736 : decode cL_law 736 = .ok (.aload_n 2, 1) := by decide +kernel
theorem dL_law_737 : decode cL_law 737 = .ok (.invokevirtual 101, 3) := by decide +kernel
theorem dL_law_740 : decode cL_law 740 = .ok (.if_icmp .eq 121, 3) := by decide +kernel
theorem dL_law_743 : decode cL_law 743 = .ok (.iconst 0, 1) := by decide +kernel
theorem dL_law_744 : decode cL_law 744 = .ok (.ireturn, 1) := by decide +kernel
theorem dL_law_745 : decode cL_law 745 = .ok (.aload_n 1, 1) := by decide +kernel
theorem dL_law_746 : decode cL_law 746 = .ok (.aload_n 0, 1) := by decide +kernel
theorem dL_law_747 : decode cL_law 747 = .ok (.iload_n 3, 1) := by decide +kernel
theorem dL_law_748 : decode cL_law 748 = .ok (.iconst 1, 1) := by decide +kernel
theorem dL_law_749 : decode cL_law 749 = .ok (.iadd, 1) := by decide +kernel
theorem dL_law_750 : decode cL_law 750 = .ok (.iaload, 1) := by decide +kernel
theorem dL_law_751 : decode cL_law 751 = .ok (.aload_n 0, 1) := by decide +kernel
theorem dL_law_752 : decode cL_law 752 = .ok (.iload_n 3, 1) := by decide +kernel
theorem dL_law_753 : decode cL_law 753 = .ok (.iconst 2, 1) := by decide +kernel
theorem dL_law_754 : decode cL_law 754 = .ok (.iadd, 1) := by decide +kernel
theorem dL_law_755 : decode cL_law 755 = .ok (.iaload, 1) := by decide +kernel
theorem dL_law_756 : decode cL_law 756 = .ok (.invokevirtual 102, 3) := by decide +kernel
theorem dL_law_759 : decode cL_law 759 = .ok (.aload_n 2, 1) := by decide +kernel
theorem dL_law_760 : decode cL_law 760 = .ok (.aload_n 0, 1) := by decide +kernel
theorem dL_law_761 : decode cL_law 761 = .ok (.iload_n 3, 1) := by decide +kernel
theorem dL_law_762 : decode cL_law 762 = .ok (.iconst 1, 1) := by decide +kernel
theorem dL_law_763 : decode cL_law 763 = .ok (.iadd, 1) := by decide +kernel
theorem dL_law_764 : decode cL_law 764 = .ok (.iaload, 1) := by decide +kernel
theorem dL_law_765 : decode cL_law 765 = .ok (.aload_n 0, 1) := by decide +kernel
theorem dL_law_766 : decode cL_law 766 = .ok (.iload_n 3, 1) := by decide +kernel
theorem dL_law_767 : decode cL_law 767 = .ok (.iconst 2, 1) := by decide +kernel
theorem dL_law_768 : decode cL_law 768 = .ok (.iadd, 1) := by decide +kernel
theorem dL_law_769 : decode cL_law 769 = .ok (.iaload, 1) := by decide +kernel
theorem dL_law_770 : decode cL_law 770 = .ok (.invokevirtual 105, 3) := by decide +kernel
theorem dL_law_773 : decode cL_law 773 = .ok (.if_icmp .eq 88, 3) := by decide +kernel
theorem dL_law_776 : decode cL_law 776 = .ok (.iconst 0, 1) := by decide +kernel
theorem dL_law_777 : decode cL_law 777 = .ok (.ireturn, 1) := by decide +kernel
theorem dL_law_778 : decode cL_law 778 = .ok (.aload_n 1, 1) := by decide +kernel
theorem dL_law_779 : decode cL_law 779 = .ok (.aload_n 0, 1) := by decide +kernel
theorem dL_law_780 : decode cL_law 780 = .ok (.iload_n 3, 1) := by decide +kernel
theorem dL_law_781 : decode cL_law 781 = .ok (.iconst 1, 1) := by decide +kernel
theorem dL_law_782 : decode cL_law 782 = .ok (.iadd, 1) := by decide +kernel
theorem dL_law_783 : decode cL_law 783 = .ok (.iaload, 1) := by decide +kernel
theorem dL_law_784 : decode cL_law 784 = .ok (.invokevirtual 106, 3) := by decide +kernel
theorem dL_law_787 : decode cL_law 787 = .ok (.aload_n 2, 1) := by decide +kernel
theorem dL_law_788 : decode cL_law 788 = .ok (.aload_n 0, 1) := by decide +kernel
theorem dL_law_789 : decode cL_law 789 = .ok (.iload_n 3, 1) := by decide +kernel
theorem dL_law_790 : decode cL_law 790 = .ok (.iconst 1, 1) := by decide +kernel
theorem dL_law_791 : decode cL_law 791 = .ok (.iadd, 1) := by decide +kernel
theorem dL_law_792 : decode cL_law 792 = .ok (.iaload, 1) := by decide +kernel
theorem dL_law_793 : decode cL_law 793 = .ok (.invokevirtual 109, 3) := by decide +kernel
theorem dL_law_796 : decode cL_law 796 = .ok (.if_icmp .eq 65, 3) := by decide +kernel
theorem dL_law_799 : decode cL_law 799 = .ok (.iconst 0, 1) := by decide +kernel
theorem dL_law_800 : decode cL_law 800 = .ok (.ireturn, 1) := by decide +kernel
theorem dL_law_801 : decode cL_law 801 = .ok (.aload_n 1, 1) := by decide +kernel
theorem dL_law_802 : decode cL_law 802 = .ok (.aload_n 0, 1) := by decide +kernel
theorem dL_law_803 : decode cL_law 803 = .ok (.iload_n 3, 1) := by decide +kernel
theorem dL_law_804 : decode cL_law 804 = .ok (.iconst 1, 1) := by decide +kernel
theorem dL_law_805 : decode cL_law 805 = .ok (.iadd, 1) := by decide +kernel
theorem dL_law_806 : decode cL_law 806 = .ok (.iaload, 1) := by decide +kernel
theorem dL_law_807 : decode cL_law 807 = .ok (.invokevirtual 110, 3) := by decide +kernel
theorem dL_law_810 : decode cL_law 810 = .ok (.aload_n 2, 1) := by decide +kernel
theorem dL_law_811 : decode cL_law 811 = .ok (.aload_n 0, 1) := by decide +kernel
theorem dL_law_812 : decode cL_law 812 = .ok (.iload_n 3, 1) := by decide +kernel
theorem dL_law_813 : decode cL_law 813 = .ok (.iconst 1, 1) := by decide +kernel
theorem dL_law_814 : decode cL_law 814 = .ok (.iadd, 1) := by decide +kernel
theorem dL_law_815 : decode cL_law 815 = .ok (.iaload, 1) := by decide +kernel
theorem dL_law_816 : decode cL_law 816 = .ok (.invokevirtual 113, 3) := by decide +kernel
theorem dL_law_819 : decode cL_law 819 = .ok (.if_icmp .eq 42, 3) := by decide +kernel
theorem dL_law_822 : decode cL_law 822 = .ok (.iconst 0, 1) := by decide +kernel
theorem dL_law_823 : decode cL_law 823 = .ok (.ireturn, 1) := by decide +kernel
theorem dL_law_824 : decode cL_law 824 = .ok (.aload_n 1, 1) := by decide +kernel
theorem dL_law_825 : decode cL_law 825 = .ok (.aload_n 0, 1) := by decide +kernel
theorem dL_law_826 : decode cL_law 826 = .ok (.iload_n 3, 1) := by decide +kernel
theorem dL_law_827 : decode cL_law 827 = .ok (.iconst 1, 1) := by decide +kernel
theorem dL_law_828 : decode cL_law 828 = .ok (.iadd, 1) := by decide +kernel
theorem dL_law_829 : decode cL_law 829 = .ok (.iaload, 1) := by decide +kernel
theorem dL_law_830 : decode cL_law 830 = .ok (.invokevirtual 114, 3) := by decide +kernel
theorem dL_law_833 : decode cL_law 833 = .ok (.aload_n 2, 1) := by decide +kernel
theorem dL_law_834 : decode cL_law 834 = .ok (.aload_n 0, 1) := by decide +kernel
theorem dL_law_835 : decode cL_law 835 = .ok (.iload_n 3, 1) := by decide +kernel
theorem dL_law_836 : decode cL_law 836 = .ok (.iconst 1, 1) := by decide +kernel
theorem dL_law_837 : decode cL_law 837 = .ok (.iadd, 1) := by decide +kernel
theorem dL_law_838 : decode cL_law 838 = .ok (.iaload, 1) := by decide +kernel
theorem dL_law_839 : decode cL_law 839 = .ok (.invokevirtual 117, 3) := by decide +kernel
theorem dL_law_842 : decode cL_law 842 = .ok (.if_icmp .eq 19, 3) := by decide +kernel
theorem dL_law_845 : decode cL_law 845 = .ok (.iconst 0, 1) := by decide +kernel
theorem dL_law_846 : decode cL_law 846 = .ok (.ireturn, 1) := by decide +kernel
theorem dL_law_847 : decode cL_law 847 = .ok (.aload_n 1, 1) := by decide +kernel
theorem dL_law_848 : decode cL_law 848 = .ok (.invokevirtual 118, 3) := by decide +kernel
theorem dL_law_851 : decode cL_law 851 = .ok (.aload_n 2, 1) := by decide +kernel
theorem dL_law_852 : decode cL_law 852 = .ok (.invokevirtual 122, 3) := by decide +kernel
theorem dL_law_855 : decode cL_law 855 = .ok (.lcmp, 1) := by decide +kernel
theorem dL_law_856 : decode cL_law 856 = .ok (.ifCond .eq 5, 3) := by decide +kernel
theorem dL_law_859 : decode cL_law 859 = .ok (.iconst 0, 1) := by decide +kernel
theorem dL_law_860 : decode cL_law 860 = .ok (.ireturn, 1) := by decide +kernel
theorem dL_law_861 : decode cL_law 861 = .ok (.iinc 3 5, 3) := by decide +kernel
theorem dL_law_864 : decode cL_law 864 = .ok (.goto (-846), 3) := by decide +kernel
theorem dL_law_867 : decode cL_law 867 = .ok (.iconst 1, 1) := by decide +kernel
theorem dL_law_868 : decode cL_law 868 = .ok (.ireturn, 1) := by decide +kernel
