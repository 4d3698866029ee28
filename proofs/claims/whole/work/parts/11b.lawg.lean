set_option maxRecDepth 20000 in
theorem ggL_law_X4_init : GoodIn wsL_law wsX4_init := goodIn_r _ [9, 10, 11, 12, 13, 14, 15, 16, 17, 18, 19, 20, 21, 22, 23, 24, 25, 26, 27, 28, 29, 30, 31, 32, 33, 34, 35, 36, 37, 38, 39, 40, 41, 42, 43, 44, 45, 46, 47, 48, 49, 50, 51, 52, 53, 54, 55, 56, 57, 58, 59, 60, 61, 62, 63, 64, 65, 66, 67, 68, 69, 70, 71, 72, 73, 74, 75, 878, 879, 836, 837, 838, 839, 840, 841, 842, 843, 844, 845, 846, 847, 880, 881, 882, 883, 884, 885, 886, 887, 888, 889, 890, 891, 892, 893, 894, 895, 896, 897, 898, 899, 900, 901] (by decide +kernel) (by decide +kernel)
set_option maxRecDepth 20000 in
theorem gL_law_X4_init : GoodIn wsL_law (wsX4_init) := ggL_law_X4_init
set_option maxRecDepth 20000 in
theorem ggL_law_X5_init : GoodIn wsL_law wsX5_init := goodIn_r _ [78, 79, 11, 12, 30, 80, 81, 82, 83, 84, 85, 86, 87, 88, 89, 32, 90, 91, 92, 93, 94, 95, 96, 97, 98, 99, 100, 101, 102, 848, 849, 850, 851, 852, 853, 854, 855, 856, 857, 858, 859, 860, 861, 862, 863, 864, 865, 866, 867, 868, 869, 870, 871, 872, 873, 874, 875, 876, 877] (by decide +kernel) (by decide +kernel)
set_option maxRecDepth 20000 in
theorem gL_law_X5_init : GoodIn wsL_law (wsX5_init) := ggL_law_X5_init
set_option maxRecDepth 20000 in
theorem ggL_law_L_wagon : GoodIn wsL_law wsL_wagon := goodIn_ca (goodIn_ca (goodIn_r _ [106, 107, 108, 109, 110, 2, 111, 112, 113, 114, 16, 21, 115, 116, 117, 118, 119, 120, 121, 122, 123, 124, 125, 126, 127, 128, 129, 130, 131, 15, 132, 38, 133, 134, 135, 136, 39, 137, 138, 139, 20, 140, 141, 142, 143, 144, 145, 43, 44, 45, 836, 837, 838, 839, 840, 841, 842, 843, 844, 845, 846, 847, 878, 879, 880, 881, 882, 883] (by decide +kernel) (by decide +kernel)) (goodIn_sub (fun _ h => List.mem_append_left _ (List.mem_append_left _ (List.mem_append_right _ h))) (by decide +kernel))) (goodIn_sub (fun _ h => List.mem_append_left _ (List.mem_append_right _ h)) (by decide +kernel))
set_option maxRecDepth 20000 in
theorem gL_law_L_wagon : GoodIn wsL_law (va_wsS RL 112 yL_wagon wsL_wagon) := goodIn_app (goodIn_of _ (by decide +kernel)) ggL_law_L_wagon
set_option maxRecDepth 20000 in
theorem ggL_law_X5_wagon : GoodIn wsL_law wsX5_wagon := goodIn_r _ [149, 150, 83, 151, 81, 82, 152, 153, 5, 154, 155, 156, 157, 158, 159, 160, 161, 162, 163, 164, 84, 80, 848, 849, 850, 851, 852, 853, 854, 855, 856, 857, 858, 859, 860, 861, 862, 863, 864, 865, 866, 867, 868, 869, 870, 871, 872, 873, 874, 875, 876, 877] (by decide +kernel) (by decide +kernel)
set_option maxRecDepth 20000 in
theorem gL_law_X5_wagon : GoodIn wsL_law (wsV RL 117 RX5 yX5_wagon wsX5_wagon) := goodIn_app (goodIn_of _ (by decide +kernel)) ggL_law_X5_wagon
set_option maxRecDepth 20000 in
theorem ggL_law_X5_thrown : GoodIn wsL_law wsX5_thrown := goodIn_r _ [168, 151, 848, 849, 850, 851, 852, 853, 854, 855, 856, 857, 858, 859, 860, 861, 862, 863, 864, 865, 866, 867, 868, 869, 870, 871, 872, 873, 874, 875, 876, 877] (by decide +kernel) (by decide +kernel)
set_option maxRecDepth 20000 in
theorem gL_law_X5_thrown : GoodIn wsL_law (wsV RL 118 RX5 yX5_thrown wsX5_thrown) := goodIn_app (goodIn_of _ (by decide +kernel)) ggL_law_X5_thrown
set_option maxRecDepth 20000 in
theorem ggL_law_L_shunt : GoodIn wsL_law wsL_shunt := goodIn_ca (goodIn_ca (goodIn_r _ [171, 107, 172, 173, 174, 2, 175, 118, 119, 112, 113, 16, 115, 116, 117, 120, 121, 122, 123, 124, 125, 126, 127, 128, 176, 177, 178, 15, 179, 38, 129, 130, 131, 132, 180, 181, 182, 183, 21, 184, 185, 186, 187, 39, 188, 142, 143, 20, 144, 145, 43, 44, 45, 836, 837, 838, 839, 840, 841, 842, 843, 844, 845, 846, 847, 878, 879, 880, 881, 882, 883] (by decide +kernel) (by decide +kernel)) (goodIn_sub (fun _ h => List.mem_append_left _ (List.mem_append_right _ h)) (by decide +kernel))) (goodIn_sub (fun _ h => List.mem_append_left _ (List.mem_append_left _ (List.mem_append_right _ h))) (by decide +kernel))
set_option maxRecDepth 20000 in
theorem gL_law_L_shunt : GoodIn wsL_law (va_wsS RL 122 yL_shunt wsL_shunt) := goodIn_app (goodIn_of _ (by decide +kernel)) ggL_law_L_shunt
set_option maxRecDepth 20000 in
theorem ggL_law_X5_shunt : GoodIn wsL_law wsX5_shunt := goodIn_r _ [192, 83, 151, 84, 152, 153, 5, 154, 155, 156, 157, 158, 159, 160, 161, 162, 163, 164, 80, 848, 849, 850, 851, 852, 853, 854, 855, 856, 857, 858, 859, 860, 861, 862, 863, 864, 865, 866, 867, 868, 869, 870, 871, 872, 873, 874, 875, 876, 877] (by decide +kernel) (by decide +kernel)
set_option maxRecDepth 20000 in
theorem gL_law_X5_shunt : GoodIn wsL_law (wsV RL 125 RX5 yX5_shunt wsX5_shunt) := goodIn_app (goodIn_of _ (by decide +kernel)) ggL_law_X5_shunt
set_option maxRecDepth 20000 in
theorem ggL_law_L_wash : GoodIn wsL_law wsL_wash := goodIn_ca (goodIn_ca (goodIn_r _ [195, 107, 196, 197, 198, 2, 199, 112, 113, 16, 31, 200, 201, 202, 118, 119, 120, 121, 122, 126, 127, 128, 176, 177, 178, 15, 179, 38, 203, 204, 205, 206, 39, 836, 837, 838, 839, 840, 841, 842, 843, 844, 845, 846, 847, 878, 879] (by decide +kernel) (by decide +kernel)) (goodIn_sub (fun _ h => List.mem_append_left _ (List.mem_append_left _ (List.mem_append_right _ h))) (by decide +kernel))) (goodIn_sub (fun _ h => List.mem_append_left _ (List.mem_append_right _ h)) (by decide +kernel))
set_option maxRecDepth 20000 in
theorem gL_law_L_wash : GoodIn wsL_law (va_wsS RL 126 yL_wash wsL_wash) := goodIn_app (goodIn_of _ (by decide +kernel)) ggL_law_L_wash
set_option maxRecDepth 20000 in
theorem ggL_law_X5_wash : GoodIn wsL_law wsX5_wash := goodIn_r _ [210, 83, 151, 84, 81, 155, 156, 5, 157, 158, 159, 160, 848, 849, 850, 851, 852, 853, 854, 855, 856, 857, 858, 859, 860, 861, 862, 863, 864, 865, 866, 867, 868, 869, 870, 871, 872, 873, 874, 875, 876, 877] (by decide +kernel) (by decide +kernel)
set_option maxRecDepth 20000 in
theorem gL_law_X5_wash : GoodIn wsL_law (wsV RL 129 RX5 yX5_wash wsX5_wash) := goodIn_app (goodIn_of _ (by decide +kernel)) ggL_law_X5_wash
set_option maxRecDepth 20000 in
theorem ggL_law_L_follow : GoodIn wsL_law wsL_follow := goodIn_ca (goodIn_r _ [213, 107, 214, 215, 216, 2, 217, 118, 119, 33, 218, 219, 220, 836, 837, 838, 839, 840, 841, 842, 843, 844, 845, 846, 847] (by decide +kernel) (by decide +kernel)) (goodIn_sub (fun _ h => List.mem_append_left _ (List.mem_append_right _ h)) (by decide +kernel))
set_option maxRecDepth 20000 in
theorem gL_law_L_follow : GoodIn wsL_law (va_wsS RL 130 yL_follow wsL_follow) := goodIn_app (goodIn_of _ (by decide +kernel)) ggL_law_L_follow
set_option maxRecDepth 20000 in
theorem ggL_law_X5_follow : GoodIn wsL_law wsX5_follow := goodIn_r _ [224, 151, 85, 225, 226, 5, 227, 158, 159, 160, 848, 849, 850, 851, 852, 853, 854, 855, 856, 857, 858, 859, 860, 861, 862, 863, 864, 865, 866, 867, 868, 869, 870, 871, 872, 873, 874, 875, 876, 877] (by decide +kernel) (by decide +kernel)
set_option maxRecDepth 20000 in
theorem gL_law_X5_follow : GoodIn wsL_law (wsV RL 132 RX5 yX5_follow wsX5_follow) := goodIn_app (goodIn_of _ (by decide +kernel)) ggL_law_X5_follow
set_option maxRecDepth 20000 in
theorem ggL_law_L_on : GoodIn wsL_law wsL_on := goodIn_ca (goodIn_r _ [230, 107, 231, 232, 233, 2, 234, 16, 115, 116, 117, 118, 119, 120, 121, 122, 123, 124, 125, 126, 127, 128, 176, 177, 178, 15, 179, 38, 836, 837, 838, 839, 840, 841, 842, 843, 844, 845, 846, 847, 878, 879] (by decide +kernel) (by decide +kernel)) (goodIn_sub (fun _ h => List.mem_append_left _ (List.mem_append_right _ h)) (by decide +kernel))
set_option maxRecDepth 20000 in
theorem gL_law_L_on : GoodIn wsL_law (va_wsS RL 133 yL_on wsL_on) := goodIn_app (goodIn_of _ (by decide +kernel)) ggL_law_L_on
set_option maxRecDepth 20000 in
theorem ggL_law_X5_on : GoodIn wsL_law wsX5_on := goodIn_r _ [238, 151, 83, 152, 153, 5, 154, 155, 156, 157, 158, 159, 160, 848, 849, 850, 851, 852, 853, 854, 855, 856, 857, 858, 859, 860, 861, 862, 863, 864, 865, 866, 867, 868, 869, 870, 871, 872, 873, 874, 875, 876, 877] (by decide +kernel) (by decide +kernel)
set_option maxRecDepth 20000 in
theorem gL_law_X5_on : GoodIn wsL_law (wsV RL 135 RX5 yX5_on wsX5_on) := goodIn_app (goodIn_of _ (by decide +kernel)) ggL_law_X5_on
set_option maxRecDepth 20000 in
theorem ggL_law_L_at : GoodIn wsL_law wsL_at := goodIn_ca (goodIn_ca (goodIn_r _ [241, 107, 242, 243, 244, 2, 245, 16, 115, 116, 117, 118, 119, 120, 121, 122, 123, 124, 125, 126, 127, 128, 246, 247, 248, 249, 250, 176, 177, 178, 15, 179, 38, 203, 204, 205, 206, 39, 836, 837, 838, 839, 840, 841, 842, 843, 844, 845, 846, 847, 878, 879] (by decide +kernel) (by decide +kernel)) (goodIn_sub (fun _ h => List.mem_append_left _ (List.mem_append_right _ h)) (by decide +kernel))) (goodIn_sub (fun _ h => List.mem_append_right _ h) (by decide +kernel))
set_option maxRecDepth 20000 in
theorem gL_law_L_at : GoodIn wsL_law (va_wsS RL 136 yL_at wsL_at) := goodIn_app (goodIn_of _ (by decide +kernel)) ggL_law_L_at
set_option maxRecDepth 20000 in
theorem ggL_law_X5_at : GoodIn wsL_law wsX5_at := goodIn_r _ [254, 255, 256, 257, 5, 258, 83, 151, 84, 152, 153, 154, 155, 156, 157, 158, 159, 160, 848, 849, 850, 851, 852, 853, 854, 855, 856, 857, 858, 859, 860, 861, 862, 863, 864, 865, 866, 867, 868, 869, 870, 871, 872, 873, 874, 875, 876, 877] (by decide +kernel) (by decide +kernel)
set_option maxRecDepth 20000 in
theorem gL_law_X5_at : GoodIn wsL_law (wsV RL 139 RX5 yX5_at wsX5_at) := goodIn_app (goodIn_of _ (by decide +kernel)) ggL_law_X5_at
set_option maxRecDepth 20000 in
theorem ggL_law_L_atByReplay : GoodIn wsL_law wsL_atByReplay := goodIn_ca (goodIn_ca (goodIn_r _ [261, 107, 262, 263, 264, 2, 265, 21, 17, 115, 116, 117, 118, 119, 120, 121, 122, 123, 124, 125, 266, 267, 268, 20, 269, 145, 43, 44, 45, 270, 271, 272, 15, 273, 38, 274, 59, 60, 61, 275, 134, 135, 136, 39, 276, 185, 186, 187, 126, 127, 128, 246, 247, 248, 249, 250, 176, 177, 178, 179, 203, 204, 205, 206, 836, 837, 838, 839, 840, 841, 842, 843, 844, 845, 846, 847, 880, 881, 882, 883, 878, 879] (by decide +kernel) (by decide +kernel)) (goodIn_sub (fun _ h => List.mem_append_left _ (List.mem_append_right _ h)) (by decide +kernel))) (goodIn_sub (fun _ h => List.mem_append_right _ h) (by decide +kernel))
set_option maxRecDepth 20000 in
theorem gL_law_L_atByReplay : GoodIn wsL_law (va_wsS RL 140 yL_atByReplay wsL_atByReplay) := goodIn_app (goodIn_of _ (by decide +kernel)) ggL_law_L_atByReplay
set_option maxRecDepth 20000 in
theorem ggL_law_X5_atByReplay : GoodIn wsL_law wsX5_atByReplay := goodIn_r _ [280, 255, 256, 257, 5, 258, 83, 151, 84, 152, 153, 154, 155, 156, 157, 158, 159, 160, 848, 849, 850, 851, 852, 853, 854, 855, 856, 857, 858, 859, 860, 861, 862, 863, 864, 865, 866, 867, 868, 869, 870, 871, 872, 873, 874, 875, 876, 877] (by decide +kernel) (by decide +kernel)
set_option maxRecDepth 20000 in
theorem gL_law_X5_atByReplay : GoodIn wsL_law (wsV RL 142 RX5 yX5_atByReplay wsX5_atByReplay) := goodIn_app (goodIn_of _ (by decide +kernel)) ggL_law_X5_atByReplay
set_option maxRecDepth 20000 in
theorem ggL_law_L_where : GoodIn wsL_law wsL_where := goodIn_ca (goodIn_r _ [283, 284, 285, 286, 287, 2, 288, 16, 289, 290, 291, 292, 249, 250, 114, 293, 294, 295, 15, 296, 38, 297, 204, 205, 206, 39, 836, 837, 838, 839, 840, 841, 842, 843, 844, 845, 846, 847, 878, 879] (by decide +kernel) (by decide +kernel)) (goodIn_sub (fun _ h => List.mem_append_right _ h) (by decide +kernel))
set_option maxRecDepth 20000 in
theorem gL_law_L_where : GoodIn wsL_law (va_wsS RL 143 yL_where wsL_where) := goodIn_app (goodIn_of _ (by decide +kernel)) ggL_law_L_where
set_option maxRecDepth 20000 in
theorem ggL_law_X5_where : GoodIn wsL_law wsX5_where := goodIn_r _ [301, 80, 302, 303, 304, 5, 305, 151, 306, 307, 308, 309, 150, 158, 159, 160, 848, 849, 850, 851, 852, 853, 854, 855, 856, 857, 858, 859, 860, 861, 862, 863, 864, 865, 866, 867, 868, 869, 870, 871, 872, 873, 874, 875, 876, 877] (by decide +kernel) (by decide +kernel)
set_option maxRecDepth 20000 in
theorem gL_law_X5_where : GoodIn wsL_law (wsV RL 145 RX5 yX5_where wsX5_where) := goodIn_app (goodIn_of _ (by decide +kernel)) ggL_law_X5_where
set_option maxRecDepth 20000 in
theorem ggL_law_L_carried : GoodIn wsL_law wsL_carried := goodIn_ca (goodIn_r _ [312, 284, 313, 314, 315, 2, 316, 31, 289, 290, 291, 292, 249, 250, 114, 836, 837, 838, 839, 840, 841, 842, 843, 844, 845, 846, 847] (by decide +kernel) (by decide +kernel)) (goodIn_sub (fun _ h => List.mem_append_right _ h) (by decide +kernel))
set_option maxRecDepth 20000 in
theorem gL_law_L_carried : GoodIn wsL_law (va_wsS RL 146 yL_carried wsL_carried) := goodIn_app (goodIn_of _ (by decide +kernel)) ggL_law_L_carried
set_option maxRecDepth 20000 in
theorem ggL_law_X5_carried : GoodIn wsL_law wsX5_carried := goodIn_r _ [320, 81, 302, 303, 304, 5, 305, 151, 306, 307, 308, 309, 150, 158, 159, 160, 848, 849, 850, 851, 852, 853, 854, 855, 856, 857, 858, 859, 860, 861, 862, 863, 864, 865, 866, 867, 868, 869, 870, 871, 872, 873, 874, 875, 876, 877] (by decide +kernel) (by decide +kernel)
set_option maxRecDepth 20000 in
theorem gL_law_X5_carried : GoodIn wsL_law (wsV RL 148 RX5 yX5_carried wsX5_carried) := goodIn_app (goodIn_of _ (by decide +kernel)) ggL_law_X5_carried
set_option maxRecDepth 20000 in
theorem ggL_law_L_promised : GoodIn wsL_law wsL_promised := goodIn_ca (goodIn_r _ [323, 284, 324, 325, 326, 2, 327, 25, 289, 290, 291, 292, 249, 250, 114, 328, 329, 330, 24, 331, 57, 836, 837, 838, 839, 840, 841, 842, 843, 844, 845, 846, 847, 884, 885, 886, 887, 888, 889, 890, 891, 892] (by decide +kernel) (by decide +kernel)) (goodIn_sub (fun _ h => List.mem_append_right _ h) (by decide +kernel))
set_option maxRecDepth 20000 in
theorem gL_law_L_promised : GoodIn wsL_law (va_wsS RL 149 yL_promised wsL_promised) := goodIn_app (goodIn_of _ (by decide +kernel)) ggL_law_L_promised
set_option maxRecDepth 20000 in
theorem ggL_law_X5_promised : GoodIn wsL_law wsX5_promised := goodIn_r _ [335, 82, 302, 303, 304, 5, 305, 151, 306, 307, 308, 309, 150, 158, 159, 160, 336, 337, 338, 339, 92, 848, 849, 850, 851, 852, 853, 854, 855, 856, 857, 858, 859, 860, 861, 862, 863, 864, 865, 866, 867, 868, 869, 870, 871, 872, 873, 874, 875, 876, 877] (by decide +kernel) (by decide +kernel)
set_option maxRecDepth 20000 in
theorem gL_law_X5_promised : GoodIn wsL_law (wsV RL 151 RX5 yX5_promised wsX5_promised) := goodIn_app (goodIn_of _ (by decide +kernel)) ggL_law_X5_promised
set_option maxRecDepth 20000 in
theorem ggL_law_L_call : GoodIn wsL_law wsL_call := goodIn_ca (goodIn_ca (goodIn_r _ [342, 107, 343, 344, 345, 2, 346, 112, 113, 29, 347, 348, 349, 350, 118, 119, 200, 201, 202, 120, 121, 122, 351, 352, 353, 28, 354, 71, 355, 356, 357, 358, 359, 360, 361, 362, 363, 73, 364, 365, 366, 367, 67, 368, 369, 370, 371, 66, 68, 69, 70, 372, 373, 374, 375, 72, 376, 377, 378, 379, 380, 381, 836, 837, 838, 839, 840, 841, 842, 843, 844, 845, 846, 847, 893, 894, 895, 896, 897, 898, 899, 900, 901] (by decide +kernel) (by decide +kernel)) (goodIn_sub (fun _ h => List.mem_append_left _ (List.mem_append_left _ (List.mem_append_right _ h))) (by decide +kernel))) (goodIn_sub (fun _ h => List.mem_append_left _ (List.mem_append_right _ h)) (by decide +kernel))
set_option maxRecDepth 20000 in
theorem gL_law_L_call : GoodIn wsL_law (va_wsS RL 152 yL_call wsL_call) := goodIn_app (goodIn_of _ (by decide +kernel)) ggL_law_L_call
set_option maxRecDepth 20000 in
theorem ggL_law_X5_call : GoodIn wsL_law wsX5_call := goodIn_r _ [385, 386, 151, 87, 387, 88, 89, 90, 91, 158, 159, 5, 160, 155, 156, 157, 388, 389, 390, 391, 392, 393, 394, 395, 396, 397, 398, 399, 86, 400, 401, 402, 403, 404, 405, 406, 848, 849, 850, 851, 852, 853, 854, 855, 856, 857, 858, 859, 860, 861, 862, 863, 864, 865, 866, 867, 868, 869, 870, 871, 872, 873, 874, 875, 876, 877] (by decide +kernel) (by decide +kernel)
set_option maxRecDepth 20000 in
theorem gL_law_X5_call : GoodIn wsL_law (wsV RL 154 RX5 yX5_call wsX5_call) := goodIn_app (goodIn_of _ (by decide +kernel)) ggL_law_X5_call
set_option maxRecDepth 20000 in
theorem ggL_law_L_ask : GoodIn wsL_law wsL_ask := goodIn_ca (goodIn_ca (goodIn_ca (goodIn_r _ [409, 284, 410, 411, 412, 2, 413, 118, 119, 112, 113, 29, 25, 414, 415, 416, 417, 249, 250, 418, 419, 420, 28, 421, 359, 218, 219, 220, 422, 423, 424, 425, 426, 427, 428, 429, 71, 66, 430, 431, 432, 433, 68, 434, 435, 436, 24, 437, 438, 439, 440, 441, 442, 52, 443, 444, 445, 446, 67, 447, 448, 449, 450, 16, 126, 127, 128, 176, 177, 178, 15, 179, 38, 203, 204, 205, 206, 39, 328, 329, 330, 331, 57, 451, 452, 453, 454, 31, 33, 455, 456, 457, 458, 459, 460, 461, 462, 50, 51, 53, 463, 464, 465, 466, 467, 468, 469, 470, 56, 55, 836, 837, 838, 839, 840, 841, 842, 843, 844, 845, 846, 847, 893, 894, 895, 896, 897, 898, 899, 900, 901, 884, 885, 886, 887, 888, 889, 890, 891, 892, 878, 879] (by decide +kernel) (by decide +kernel)) (goodIn_sub (fun _ h => List.mem_append_left _ (List.mem_append_right _ h)) (by decide +kernel))) (goodIn_sub (fun _ h => List.mem_append_left _ (List.mem_append_left _ (List.mem_append_right _ h))) (by decide +kernel))) (goodIn_sub (fun _ h => List.mem_append_right _ h) (by decide +kernel))
set_option maxRecDepth 20000 in
theorem gL_law_L_ask : GoodIn wsL_law (va_wsS RL 155 yL_ask wsL_ask) := goodIn_app (goodIn_of _ (by decide +kernel)) ggL_law_L_ask
set_option maxRecDepth 20000 in
theorem ggL_law_X5_ask : GoodIn wsL_law wsX5_ask := goodIn_r _ [474, 90, 151, 91, 475, 93, 89, 92, 94, 88, 95, 97, 476, 477, 478, 5, 479, 386, 158, 159, 160, 225, 226, 227, 480, 481, 482, 483, 83, 84, 336, 337, 338, 339, 82, 484, 485, 486, 487, 81, 85, 488, 489, 490, 491, 98, 848, 849, 850, 851, 852, 853, 854, 855, 856, 857, 858, 859, 860, 861, 862, 863, 864, 865, 866, 867, 868, 869, 870, 871, 872, 873, 874, 875, 876, 877] (by decide +kernel) (by decide +kernel)
set_option maxRecDepth 20000 in
theorem gL_law_X5_ask : GoodIn wsL_law (wsV RL 157 RX5 yX5_ask wsX5_ask) := goodIn_app (goodIn_of _ (by decide +kernel)) ggL_law_X5_ask
set_option maxRecDepth 20000 in
theorem ggL_law_L_confirm : GoodIn wsL_law wsL_confirm := goodIn_ca (goodIn_ca (goodIn_r _ [494, 284, 495, 496, 497, 2, 498, 112, 113, 29, 25, 414, 415, 416, 417, 249, 250, 418, 419, 420, 28, 421, 359, 422, 423, 424, 425, 426, 427, 428, 429, 71, 66, 430, 431, 432, 433, 68, 499, 500, 501, 24, 502, 53, 463, 464, 465, 466, 836, 837, 838, 839, 840, 841, 842, 843, 844, 845, 846, 847, 893, 894, 895, 896, 897, 898, 899, 900, 901, 884, 885, 886, 887, 888, 889, 890, 891, 892] (by decide +kernel) (by decide +kernel)) (goodIn_sub (fun _ h => List.mem_append_left _ (List.mem_append_left _ (List.mem_append_right _ h))) (by decide +kernel))) (goodIn_sub (fun _ h => List.mem_append_right _ h) (by decide +kernel))
set_option maxRecDepth 20000 in
theorem gL_law_L_confirm : GoodIn wsL_law (va_wsS RL 158 yL_confirm wsL_confirm) := goodIn_app (goodIn_of _ (by decide +kernel)) ggL_law_L_confirm
set_option maxRecDepth 20000 in
theorem ggL_law_X5_confirm : GoodIn wsL_law wsX5_confirm := goodIn_r _ [506, 90, 91, 151, 92, 476, 477, 478, 5, 479, 386, 158, 159, 160, 848, 849, 850, 851, 852, 853, 854, 855, 856, 857, 858, 859, 860, 861, 862, 863, 864, 865, 866, 867, 868, 869, 870, 871, 872, 873, 874, 875, 876, 877] (by decide +kernel) (by decide +kernel)
set_option maxRecDepth 20000 in
theorem gL_law_X5_confirm : GoodIn wsL_law (wsV RL 160 RX5 yX5_confirm wsX5_confirm) := goodIn_app (goodIn_of _ (by decide +kernel)) ggL_law_X5_confirm
set_option maxRecDepth 20000 in
theorem ggL_law_L_resume : GoodIn wsL_law wsL_resume := goodIn_ca (goodIn_ca (goodIn_r _ [509, 284, 510, 511, 512, 2, 513, 112, 113, 29, 25, 414, 415, 416, 417, 249, 250, 418, 419, 420, 28, 421, 359, 514, 515, 516, 517, 518, 519, 520, 24, 521, 438, 422, 423, 424, 425, 426, 427, 428, 429, 71, 66, 430, 431, 432, 433, 68, 522, 523, 524, 525, 526, 527, 528, 529, 53, 530, 531, 532, 533, 50, 455, 456, 457, 458, 534, 535, 536, 537, 51, 443, 444, 445, 446, 67, 499, 500, 501, 502, 463, 464, 465, 466, 538, 539, 540, 541, 55, 836, 837, 838, 839, 840, 841, 842, 843, 844, 845, 846, 847, 893, 894, 895, 896, 897, 898, 899, 900, 901, 884, 885, 886, 887, 888, 889, 890, 891, 892] (by decide +kernel) (by decide +kernel)) (goodIn_sub (fun _ h => List.mem_append_left _ (List.mem_append_left _ (List.mem_append_right _ h))) (by decide +kernel))) (goodIn_sub (fun _ h => List.mem_append_right _ h) (by decide +kernel))
set_option maxRecDepth 20000 in
theorem gL_law_L_resume : GoodIn wsL_law (va_wsS RL 161 yL_resume wsL_resume) := goodIn_app (goodIn_of _ (by decide +kernel)) ggL_law_L_resume
set_option maxRecDepth 20000 in
theorem ggL_law_X5_resume : GoodIn wsL_law wsX5_resume := goodIn_r _ [545, 151, 90, 91, 92, 97, 476, 477, 478, 5, 479, 386, 158, 159, 160, 546, 547, 548, 549, 475, 550, 551, 552, 553, 94, 88, 95, 89, 848, 849, 850, 851, 852, 853, 854, 855, 856, 857, 858, 859, 860, 861, 862, 863, 864, 865, 866, 867, 868, 869, 870, 871, 872, 873, 874, 875, 876, 877] (by decide +kernel) (by decide +kernel)
set_option maxRecDepth 20000 in
theorem gL_law_X5_resume : GoodIn wsL_law (wsV RL 163 RX5 yX5_resume wsX5_resume) := goodIn_app (goodIn_of _ (by decide +kernel)) ggL_law_X5_resume
set_option maxRecDepth 20000 in
theorem ggL_law_L_cancel : GoodIn wsL_law wsL_cancel := goodIn_ca (goodIn_ca (goodIn_r _ [556, 284, 557, 558, 559, 2, 560, 112, 113, 25, 414, 415, 416, 417, 249, 250, 29, 418, 419, 420, 28, 421, 359, 514, 515, 516, 517, 518, 519, 520, 24, 521, 438, 422, 423, 424, 425, 426, 427, 428, 429, 71, 66, 522, 523, 524, 525, 526, 527, 528, 529, 53, 530, 531, 532, 533, 50, 455, 456, 457, 458, 534, 535, 536, 537, 51, 443, 444, 445, 446, 67, 561, 562, 563, 564, 55, 57, 565, 566, 567, 568, 56, 538, 539, 540, 541, 836, 837, 838, 839, 840, 841, 842, 843, 844, 845, 846, 847, 893, 894, 895, 896, 897, 898, 899, 900, 901, 884, 885, 886, 887, 888, 889, 890, 891, 892] (by decide +kernel) (by decide +kernel)) (goodIn_sub (fun _ h => List.mem_append_left _ (List.mem_append_left _ (List.mem_append_right _ h))) (by decide +kernel))) (goodIn_sub (fun _ h => List.mem_append_right _ h) (by decide +kernel))
set_option maxRecDepth 20000 in
theorem gL_law_L_cancel : GoodIn wsL_law (va_wsS RL 164 yL_cancel wsL_cancel) := goodIn_app (goodIn_of _ (by decide +kernel)) ggL_law_L_cancel
set_option maxRecDepth 20000 in
theorem ggL_law_X5_cancel : GoodIn wsL_law wsX5_cancel := goodIn_r _ [572, 151, 90, 92, 97, 476, 477, 478, 5, 479, 386, 158, 159, 160, 546, 547, 548, 549, 475, 550, 551, 552, 553, 94, 88, 95, 89, 848, 849, 850, 851, 852, 853, 854, 855, 856, 857, 858, 859, 860, 861, 862, 863, 864, 865, 866, 867, 868, 869, 870, 871, 872, 873, 874, 875, 876, 877] (by decide +kernel) (by decide +kernel)
set_option maxRecDepth 20000 in
theorem gL_law_X5_cancel : GoodIn wsL_law (wsV RL 166 RX5 yX5_cancel wsX5_cancel) := goodIn_app (goodIn_of _ (by decide +kernel)) ggL_law_X5_cancel
