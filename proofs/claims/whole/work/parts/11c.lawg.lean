set_option maxRecDepth 20000 in
theorem ggL_law_L_hangUp : GoodIn wsL_law wsL_hangUp := goodIn_ca (goodIn_ca (goodIn_r _ [575, 284, 576, 577, 578, 2, 579, 29, 25, 414, 415, 416, 417, 249, 250, 418, 419, 420, 28, 421, 359, 422, 423, 424, 425, 112, 113, 426, 427, 428, 429, 71, 66, 430, 431, 432, 433, 68, 580, 581, 582, 583, 69, 70, 372, 373, 374, 375, 72, 561, 562, 563, 24, 564, 53, 55, 57, 565, 566, 567, 568, 56, 538, 539, 540, 541, 836, 837, 838, 839, 840, 841, 842, 843, 844, 845, 846, 847, 893, 894, 895, 896, 897, 898, 899, 900, 901, 884, 885, 886, 887, 888, 889, 890, 891, 892] (by decide +kernel) (by decide +kernel)) (goodIn_sub (fun _ h => List.mem_append_right _ h) (by decide +kernel))) (goodIn_sub (fun _ h => List.mem_append_left _ (List.mem_append_left _ (List.mem_append_right _ h))) (by decide +kernel))
set_option maxRecDepth 20000 in
theorem gL_law_L_hangUp : GoodIn wsL_law (va_wsS RL 167 yL_hangUp wsL_hangUp) := goodIn_app (goodIn_of _ (by decide +kernel)) ggL_law_L_hangUp
set_option maxRecDepth 20000 in
theorem ggL_law_X5_hangUp : GoodIn wsL_law wsX5_hangUp := goodIn_r _ [587, 90, 151, 91, 92, 97, 476, 477, 478, 5, 479, 386, 158, 159, 160, 588, 589, 590, 591, 86, 848, 849, 850, 851, 852, 853, 854, 855, 856, 857, 858, 859, 860, 861, 862, 863, 864, 865, 866, 867, 868, 869, 870, 871, 872, 873, 874, 875, 876, 877] (by decide +kernel) (by decide +kernel)
set_option maxRecDepth 20000 in
theorem gL_law_X5_hangUp : GoodIn wsL_law (wsV RL 169 RX5 yX5_hangUp wsX5_hangUp) := goodIn_app (goodIn_of _ (by decide +kernel)) ggL_law_X5_hangUp
set_option maxRecDepth 20000 in
theorem ggL_law_L_callOf : GoodIn wsL_law wsL_callOf := goodIn_ca (goodIn_r _ [594, 107, 595, 596, 597, 2, 598, 29, 348, 349, 350, 118, 119, 351, 352, 353, 28, 354, 71, 836, 837, 838, 839, 840, 841, 842, 843, 844, 845, 846, 847, 893, 894, 895, 896, 897, 898, 899, 900, 901] (by decide +kernel) (by decide +kernel)) (goodIn_sub (fun _ h => List.mem_append_left _ (List.mem_append_right _ h)) (by decide +kernel))
set_option maxRecDepth 20000 in
theorem gL_law_L_callOf : GoodIn wsL_law (va_wsS RL 170 yL_callOf wsL_callOf) := goodIn_app (goodIn_of _ (by decide +kernel)) ggL_law_L_callOf
set_option maxRecDepth 20000 in
theorem ggL_law_X5_callOf : GoodIn wsL_law wsX5_callOf := goodIn_r _ [602, 151, 158, 159, 5, 160, 388, 389, 390, 391, 386, 90, 88, 848, 849, 850, 851, 852, 853, 854, 855, 856, 857, 858, 859, 860, 861, 862, 863, 864, 865, 866, 867, 868, 869, 870, 871, 872, 873, 874, 875, 876, 877] (by decide +kernel) (by decide +kernel)
set_option maxRecDepth 20000 in
theorem gL_law_X5_callOf : GoodIn wsL_law (wsV RL 172 RX5 yX5_callOf wsX5_callOf) := goodIn_app (goodIn_of _ (by decide +kernel)) ggL_law_X5_callOf
set_option maxRecDepth 20000 in
theorem ggL_law_L_way : GoodIn wsL_law wsL_way := goodIn_ca (goodIn_ca (goodIn_r _ [605, 284, 606, 607, 608, 2, 609, 29, 414, 415, 416, 417, 249, 250, 418, 419, 420, 28, 421, 359, 422, 423, 424, 425, 112, 113, 426, 427, 428, 429, 71, 66, 610, 611, 612, 613, 69, 70, 836, 837, 838, 839, 840, 841, 842, 843, 844, 845, 846, 847, 893, 894, 895, 896, 897, 898, 899, 900, 901] (by decide +kernel) (by decide +kernel)) (goodIn_sub (fun _ h => List.mem_append_right _ h) (by decide +kernel))) (goodIn_sub (fun _ h => List.mem_append_left _ (List.mem_append_left _ (List.mem_append_right _ h))) (by decide +kernel))
set_option maxRecDepth 20000 in
theorem gL_law_L_way : GoodIn wsL_law (va_wsS RL 173 yL_way wsL_way) := goodIn_app (goodIn_of _ (by decide +kernel)) ggL_law_L_way
set_option maxRecDepth 20000 in
theorem ggL_law_X5_way : GoodIn wsL_law wsX5_way := goodIn_r _ [617, 90, 151, 86, 476, 477, 478, 5, 479, 386, 158, 159, 160, 848, 849, 850, 851, 852, 853, 854, 855, 856, 857, 858, 859, 860, 861, 862, 863, 864, 865, 866, 867, 868, 869, 870, 871, 872, 873, 874, 875, 876, 877] (by decide +kernel) (by decide +kernel)
set_option maxRecDepth 20000 in
theorem gL_law_X5_way : GoodIn wsL_law (wsV RL 175 RX5 yX5_way wsX5_way) := goodIn_app (goodIn_of _ (by decide +kernel)) ggL_law_X5_way
set_option maxRecDepth 20000 in
theorem ggL_law_X4_busy : GoodIn wsL_law wsX4_busy := goodIn_r _ [621, 347, 836, 837, 838, 839, 840, 841, 842, 843, 844, 845, 846, 847] (by decide +kernel) (by decide +kernel)
set_option maxRecDepth 20000 in
theorem gL_law_X4_busy : GoodIn wsL_law (wsV RL 176 RX4 yX4_busy wsX4_busy) := goodIn_app (goodIn_of _ (by decide +kernel)) ggL_law_X4_busy
set_option maxRecDepth 20000 in
theorem ggL_law_X5_busy : GoodIn wsL_law wsX5_busy := goodIn_r _ [625, 151, 387, 848, 849, 850, 851, 852, 853, 854, 855, 856, 857, 858, 859, 860, 861, 862, 863, 864, 865, 866, 867, 868, 869, 870, 871, 872, 873, 874, 875, 876, 877] (by decide +kernel) (by decide +kernel)
set_option maxRecDepth 20000 in
theorem gL_law_X5_busy : GoodIn wsL_law (wsV RL 179 RX5 yX5_busy wsX5_busy) := goodIn_app (goodIn_of _ (by decide +kernel)) ggL_law_X5_busy
set_option maxRecDepth 20000 in
theorem ggL_law_L_cut : GoodIn wsL_law wsL_cut := goodIn_ca (goodIn_ca (goodIn_r _ [628, 107, 629, 630, 631, 2, 632, 112, 113, 29, 633, 634, 635, 118, 119, 636, 637, 638, 639, 380, 381, 640, 641, 642, 28, 643, 72, 644, 645, 646, 647, 25, 648, 430, 431, 432, 433, 68, 580, 581, 582, 583, 71, 66, 69, 70, 372, 373, 374, 375, 649, 650, 651, 24, 652, 53, 54, 653, 654, 655, 656, 836, 837, 838, 839, 840, 841, 842, 843, 844, 845, 846, 847, 893, 894, 895, 896, 897, 898, 899, 900, 901, 884, 885, 886, 887, 888, 889, 890, 891, 892] (by decide +kernel) (by decide +kernel)) (goodIn_sub (fun _ h => List.mem_append_left _ (List.mem_append_left _ (List.mem_append_right _ h))) (by decide +kernel))) (goodIn_sub (fun _ h => List.mem_append_left _ (List.mem_append_right _ h)) (by decide +kernel))
set_option maxRecDepth 20000 in
theorem gL_law_L_cut : GoodIn wsL_law (va_wsS RL 180 yL_cut wsL_cut) := goodIn_app (goodIn_of _ (by decide +kernel)) ggL_law_L_cut
set_option maxRecDepth 20000 in
theorem ggL_law_X5_cut : GoodIn wsL_law wsX5_cut := goodIn_r _ [660, 86, 151, 91, 92, 96, 661, 662, 663, 5, 664, 155, 156, 157, 158, 159, 160, 404, 405, 406, 588, 589, 590, 591, 90, 848, 849, 850, 851, 852, 853, 854, 855, 856, 857, 858, 859, 860, 861, 862, 863, 864, 865, 866, 867, 868, 869, 870, 871, 872, 873, 874, 875, 876, 877] (by decide +kernel) (by decide +kernel)
set_option maxRecDepth 20000 in
theorem gL_law_X5_cut : GoodIn wsL_law (wsV RL 182 RX5 yX5_cut wsX5_cut) := goodIn_app (goodIn_of _ (by decide +kernel)) ggL_law_X5_cut
set_option maxRecDepth 20000 in
theorem ggL_law_L_mend : GoodIn wsL_law wsL_mend := goodIn_ca (goodIn_ca (goodIn_r _ [667, 107, 668, 669, 670, 2, 671, 112, 113, 29, 633, 634, 635, 118, 119, 636, 637, 638, 639, 380, 381, 640, 641, 642, 28, 643, 72, 653, 654, 655, 656, 836, 837, 838, 839, 840, 841, 842, 843, 844, 845, 846, 847, 893, 894, 895, 896, 897, 898, 899, 900, 901] (by decide +kernel) (by decide +kernel)) (goodIn_sub (fun _ h => List.mem_append_left _ (List.mem_append_left _ (List.mem_append_right _ h))) (by decide +kernel))) (goodIn_sub (fun _ h => List.mem_append_left _ (List.mem_append_right _ h)) (by decide +kernel))
set_option maxRecDepth 20000 in
theorem gL_law_L_mend : GoodIn wsL_law (va_wsS RL 183 yL_mend wsL_mend) := goodIn_app (goodIn_of _ (by decide +kernel)) ggL_law_L_mend
set_option maxRecDepth 20000 in
theorem ggL_law_X5_mend : GoodIn wsL_law wsX5_mend := goodIn_r _ [675, 86, 151, 662, 663, 5, 664, 155, 156, 157, 158, 159, 160, 404, 405, 406, 848, 849, 850, 851, 852, 853, 854, 855, 856, 857, 858, 859, 860, 861, 862, 863, 864, 865, 866, 867, 868, 869, 870, 871, 872, 873, 874, 875, 876, 877] (by decide +kernel) (by decide +kernel)
set_option maxRecDepth 20000 in
theorem gL_law_X5_mend : GoodIn wsL_law (wsV RL 186 RX5 yX5_mend wsX5_mend) := goodIn_app (goodIn_of _ (by decide +kernel)) ggL_law_X5_mend
set_option maxRecDepth 20000 in
theorem ggL_law_L_trunk : GoodIn wsL_law wsL_trunk := goodIn_ca (goodIn_r _ [678, 107, 679, 680, 681, 2, 682, 29, 633, 634, 635, 118, 119, 636, 637, 638, 639, 380, 381, 640, 641, 642, 28, 643, 72, 836, 837, 838, 839, 840, 841, 842, 843, 844, 845, 846, 847, 893, 894, 895, 896, 897, 898, 899, 900, 901] (by decide +kernel) (by decide +kernel)) (goodIn_sub (fun _ h => List.mem_append_left _ (List.mem_append_right _ h)) (by decide +kernel))
set_option maxRecDepth 20000 in
theorem gL_law_L_trunk : GoodIn wsL_law (va_wsS RL 187 yL_trunk wsL_trunk) := goodIn_app (goodIn_of _ (by decide +kernel)) ggL_law_L_trunk
set_option maxRecDepth 20000 in
theorem ggL_law_X5_trunk : GoodIn wsL_law wsX5_trunk := goodIn_r _ [686, 151, 86, 662, 663, 5, 664, 155, 156, 157, 158, 159, 160, 404, 405, 406, 848, 849, 850, 851, 852, 853, 854, 855, 856, 857, 858, 859, 860, 861, 862, 863, 864, 865, 866, 867, 868, 869, 870, 871, 872, 873, 874, 875, 876, 877] (by decide +kernel) (by decide +kernel)
set_option maxRecDepth 20000 in
theorem gL_law_X5_trunk : GoodIn wsL_law (wsV RL 189 RX5 yX5_trunk wsX5_trunk) := goodIn_app (goodIn_of _ (by decide +kernel)) ggL_law_X5_trunk
set_option maxRecDepth 20000 in
theorem ggL_law_L_setLines : GoodIn wsL_law wsL_setLines := goodIn_ca (goodIn_ca (goodIn_r _ [689, 107, 690, 691, 692, 2, 693, 118, 119, 112, 113, 29, 200, 201, 202, 120, 121, 122, 694, 365, 366, 28, 367, 71, 67, 695, 696, 697, 698, 73, 836, 837, 838, 839, 840, 841, 842, 843, 844, 845, 846, 847, 893, 894, 895, 896, 897, 898, 899, 900, 901] (by decide +kernel) (by decide +kernel)) (goodIn_sub (fun _ h => List.mem_append_left _ (List.mem_append_right _ h)) (by decide +kernel))) (goodIn_sub (fun _ h => List.mem_append_left _ (List.mem_append_left _ (List.mem_append_right _ h))) (by decide +kernel))
set_option maxRecDepth 20000 in
theorem gL_law_L_setLines : GoodIn wsL_law (va_wsS RL 190 yL_setLines wsL_setLines) := goodIn_app (goodIn_of _ (by decide +kernel)) ggL_law_L_setLines
set_option maxRecDepth 20000 in
theorem ggL_law_X5_setLines : GoodIn wsL_law wsX5_setLines := goodIn_r _ [702, 151, 87, 155, 156, 5, 157, 158, 159, 160, 392, 393, 394, 395, 386, 90, 89, 848, 849, 850, 851, 852, 853, 854, 855, 856, 857, 858, 859, 860, 861, 862, 863, 864, 865, 866, 867, 868, 869, 870, 871, 872, 873, 874, 875, 876, 877] (by decide +kernel) (by decide +kernel)
set_option maxRecDepth 20000 in
theorem gL_law_X5_setLines : GoodIn wsL_law (wsV RL 192 RX5 yX5_setLines wsX5_setLines) := goodIn_app (goodIn_of _ (by decide +kernel)) ggL_law_X5_setLines
set_option maxRecDepth 20000 in
theorem ggL_law_L_pass : GoodIn wsL_law wsL_pass := goodIn_ca (goodIn_ca (goodIn_r _ [705, 107, 706, 707, 708, 2, 709, 118, 119, 112, 113, 648, 25, 710, 711, 712, 24, 713, 438, 53, 54, 714, 562, 563, 564, 55, 57, 565, 566, 567, 568, 56, 836, 837, 838, 839, 840, 841, 842, 843, 844, 845, 846, 847, 884, 885, 886, 887, 888, 889, 890, 891, 892] (by decide +kernel) (by decide +kernel)) (goodIn_sub (fun _ h => List.mem_append_left _ (List.mem_append_right _ h)) (by decide +kernel))) (goodIn_sub (fun _ h => List.mem_append_left _ (List.mem_append_left _ (List.mem_append_right _ h))) (by decide +kernel))
set_option maxRecDepth 20000 in
theorem gL_law_L_pass : GoodIn wsL_law (va_wsS RL 193 yL_pass wsL_pass) := goodIn_app (goodIn_of _ (by decide +kernel)) ggL_law_L_pass
set_option maxRecDepth 20000 in
theorem ggL_law_X5_pass : GoodIn wsL_law wsX5_pass := goodIn_r _ [718, 661, 151, 475, 92, 96, 158, 159, 5, 160, 848, 849, 850, 851, 852, 853, 854, 855, 856, 857, 858, 859, 860, 861, 862, 863, 864, 865, 866, 867, 868, 869, 870, 871, 872, 873, 874, 875, 876, 877] (by decide +kernel) (by decide +kernel)
set_option maxRecDepth 20000 in
theorem gL_law_X5_pass : GoodIn wsL_law (wsV RL 195 RX5 yX5_pass wsX5_pass) := goodIn_app (goodIn_of _ (by decide +kernel)) ggL_law_X5_pass
set_option maxRecDepth 20000 in
theorem ggL_law_X4_bookings : GoodIn wsL_law wsX4_bookings := goodIn_r _ [722, 25, 518, 519, 520, 24, 521, 438, 836, 837, 838, 839, 840, 841, 842, 843, 844, 845, 846, 847, 884, 885, 886, 887, 888, 889, 890, 891, 892] (by decide +kernel) (by decide +kernel)
set_option maxRecDepth 20000 in
theorem gL_law_X4_bookings : GoodIn wsL_law (wsV RL 196 RX4 yX4_bookings wsX4_bookings) := goodIn_app (goodIn_of _ (by decide +kernel)) ggL_law_X4_bookings
set_option maxRecDepth 20000 in
theorem ggL_law_X5_bookings : GoodIn wsL_law wsX5_bookings := goodIn_r _ [726, 151, 475, 848, 849, 850, 851, 852, 853, 854, 855, 856, 857, 858, 859, 860, 861, 862, 863, 864, 865, 866, 867, 868, 869, 870, 871, 872, 873, 874, 875, 876, 877] (by decide +kernel) (by decide +kernel)
set_option maxRecDepth 20000 in
theorem gL_law_X5_bookings : GoodIn wsL_law (wsV RL 199 RX5 yX5_bookings wsX5_bookings) := goodIn_app (goodIn_of _ (by decide +kernel)) ggL_law_X5_bookings
set_option maxRecDepth 20000 in
theorem ggL_law_L_state : GoodIn wsL_law wsL_state := goodIn_ca (goodIn_r _ [729, 284, 730, 731, 732, 2, 733, 25, 514, 515, 516, 517, 249, 250, 518, 519, 520, 24, 521, 438, 526, 527, 528, 529, 53, 836, 837, 838, 839, 840, 841, 842, 843, 844, 845, 846, 847, 884, 885, 886, 887, 888, 889, 890, 891, 892] (by decide +kernel) (by decide +kernel)) (goodIn_sub (fun _ h => List.mem_append_right _ h) (by decide +kernel))
set_option maxRecDepth 20000 in
theorem gL_law_L_state : GoodIn wsL_law (va_wsS RL 200 yL_state wsL_state) := goodIn_app (goodIn_of _ (by decide +kernel)) ggL_law_L_state
set_option maxRecDepth 20000 in
theorem ggL_law_X5_state : GoodIn wsL_law wsX5_state := goodIn_r _ [737, 92, 738, 739, 740, 5, 741, 151, 546, 547, 548, 549, 475, 158, 159, 160, 848, 849, 850, 851, 852, 853, 854, 855, 856, 857, 858, 859, 860, 861, 862, 863, 864, 865, 866, 867, 868, 869, 870, 871, 872, 873, 874, 875, 876, 877] (by decide +kernel) (by decide +kernel)
set_option maxRecDepth 20000 in
theorem gL_law_X5_state : GoodIn wsL_law (wsV RL 202 RX5 yX5_state wsX5_state) := goodIn_app (goodIn_of _ (by decide +kernel)) ggL_law_X5_state
set_option maxRecDepth 20000 in
theorem ggL_law_L_wagons : GoodIn wsL_law wsL_wagons := goodIn_ca (goodIn_r _ [744, 284, 745, 746, 747, 2, 748, 25, 514, 515, 516, 517, 249, 250, 518, 519, 520, 24, 521, 438, 538, 539, 540, 541, 55, 836, 837, 838, 839, 840, 841, 842, 843, 844, 845, 846, 847, 884, 885, 886, 887, 888, 889, 890, 891, 892] (by decide +kernel) (by decide +kernel)) (goodIn_sub (fun _ h => List.mem_append_right _ h) (by decide +kernel))
set_option maxRecDepth 20000 in
theorem gL_law_L_wagons : GoodIn wsL_law (va_wsS RL 203 yL_wagons wsL_wagons) := goodIn_app (goodIn_of _ (by decide +kernel)) ggL_law_L_wagons
set_option maxRecDepth 20000 in
theorem ggL_law_X5_wagons : GoodIn wsL_law wsX5_wagons := goodIn_r _ [752, 97, 738, 739, 740, 5, 741, 151, 546, 547, 548, 549, 475, 158, 159, 160, 848, 849, 850, 851, 852, 853, 854, 855, 856, 857, 858, 859, 860, 861, 862, 863, 864, 865, 866, 867, 868, 869, 870, 871, 872, 873, 874, 875, 876, 877] (by decide +kernel) (by decide +kernel)
set_option maxRecDepth 20000 in
theorem gL_law_X5_wagons : GoodIn wsL_law (wsV RL 205 RX5 yX5_wagons wsX5_wagons) := goodIn_app (goodIn_of _ (by decide +kernel)) ggL_law_X5_wagons
set_option maxRecDepth 20000 in
theorem ggL_law_L_wagonOf : GoodIn wsL_law wsL_wagonOf := goodIn_ca (goodIn_r _ [755, 284, 756, 757, 758, 2, 759, 249, 250, 25, 514, 515, 516, 517, 518, 519, 520, 24, 521, 438, 538, 539, 540, 541, 55, 760, 566, 567, 568, 56, 836, 837, 838, 839, 840, 841, 842, 843, 844, 845, 846, 847, 884, 885, 886, 887, 888, 889, 890, 891, 892] (by decide +kernel) (by decide +kernel)) (goodIn_sub (fun _ h => List.mem_append_right _ h) (by decide +kernel))
set_option maxRecDepth 20000 in
theorem gL_law_L_wagonOf : GoodIn wsL_law (va_wsS RL 206 yL_wagonOf wsL_wagonOf) := goodIn_app (goodIn_of _ (by decide +kernel)) ggL_law_L_wagonOf
set_option maxRecDepth 20000 in
theorem ggL_law_X5_wagonOf : GoodIn wsL_law wsX5_wagonOf := goodIn_r _ [764, 97, 151, 98, 546, 547, 548, 5, 549, 475, 158, 159, 160, 848, 849, 850, 851, 852, 853, 854, 855, 856, 857, 858, 859, 860, 861, 862, 863, 864, 865, 866, 867, 868, 869, 870, 871, 872, 873, 874, 875, 876, 877] (by decide +kernel) (by decide +kernel)
set_option maxRecDepth 20000 in
theorem gL_law_X5_wagonOf : GoodIn wsL_law (wsV RL 208 RX5 yX5_wagonOf wsX5_wagonOf) := goodIn_app (goodIn_of _ (by decide +kernel)) ggL_law_X5_wagonOf
set_option maxRecDepth 20000 in
theorem ggL_law_L_lapses : GoodIn wsL_law wsL_lapses := goodIn_ca (goodIn_ca (goodIn_r _ [767, 284, 768, 769, 770, 2, 771, 112, 113, 25, 648, 514, 515, 516, 517, 249, 250, 518, 519, 520, 24, 521, 438, 526, 527, 528, 529, 53, 772, 773, 774, 775, 54, 836, 837, 838, 839, 840, 841, 842, 843, 844, 845, 846, 847, 884, 885, 886, 887, 888, 889, 890, 891, 892] (by decide +kernel) (by decide +kernel)) (goodIn_sub (fun _ h => List.mem_append_left _ (List.mem_append_left _ (List.mem_append_right _ h))) (by decide +kernel))) (goodIn_sub (fun _ h => List.mem_append_right _ h) (by decide +kernel))
set_option maxRecDepth 20000 in
theorem gL_law_L_lapses : GoodIn wsL_law (va_wsS RL 209 yL_lapses wsL_lapses) := goodIn_app (goodIn_of _ (by decide +kernel)) ggL_law_L_lapses
set_option maxRecDepth 20000 in
theorem ggL_law_X5_lapses : GoodIn wsL_law wsX5_lapses := goodIn_r _ [779, 92, 151, 96, 661, 546, 547, 548, 5, 549, 475, 158, 159, 160, 848, 849, 850, 851, 852, 853, 854, 855, 856, 857, 858, 859, 860, 861, 862, 863, 864, 865, 866, 867, 868, 869, 870, 871, 872, 873, 874, 875, 876, 877] (by decide +kernel) (by decide +kernel)
set_option maxRecDepth 20000 in
theorem gL_law_X5_lapses : GoodIn wsL_law (wsV RL 211 RX5 yX5_lapses wsX5_lapses) := goodIn_app (goodIn_of _ (by decide +kernel)) ggL_law_X5_lapses
set_option maxRecDepth 20000 in
theorem ggL_law_L_depart : GoodIn wsL_law wsL_depart := goodIn_ca (goodIn_ca (goodIn_r _ [782, 107, 783, 784, 785, 2, 786, 118, 119, 112, 113, 787, 34, 16, 115, 116, 117, 120, 121, 122, 123, 124, 125, 200, 201, 202, 126, 127, 128, 788, 789, 790, 791, 25, 176, 177, 178, 15, 179, 38, 203, 204, 205, 206, 39, 328, 329, 330, 24, 331, 57, 526, 527, 528, 529, 53, 792, 793, 794, 795, 538, 539, 540, 541, 55, 796, 797, 798, 799, 31, 439, 440, 441, 442, 52, 499, 500, 501, 502, 180, 181, 182, 183, 21, 184, 185, 186, 187, 188, 142, 143, 20, 144, 145, 43, 44, 45, 836, 837, 838, 839, 840, 841, 842, 843, 844, 845, 846, 847, 878, 879, 884, 885, 886, 887, 888, 889, 890, 891, 892, 880, 881, 882, 883] (by decide +kernel) (by decide +kernel)) (goodIn_sub (fun _ h => List.mem_append_left _ (List.mem_append_right _ h)) (by decide +kernel))) (goodIn_sub (fun _ h => List.mem_append_left _ (List.mem_append_left _ (List.mem_append_right _ h))) (by decide +kernel))
set_option maxRecDepth 20000 in
theorem gL_law_L_depart : GoodIn wsL_law (va_wsS RL 212 yL_depart wsL_depart) := goodIn_app (goodIn_of _ (by decide +kernel)) ggL_law_L_depart
set_option maxRecDepth 20000 in
theorem ggL_law_X5_depart : GoodIn wsL_law wsX5_depart := goodIn_r _ [803, 151, 83, 84, 102, 804, 80, 81, 93, 82, 92, 101, 99, 152, 153, 5, 154, 155, 156, 157, 158, 159, 160, 805, 806, 807, 808, 809, 810, 811, 812, 97, 98, 848, 849, 850, 851, 852, 853, 854, 855, 856, 857, 858, 859, 860, 861, 862, 863, 864, 865, 866, 867, 868, 869, 870, 871, 872, 873, 874, 875, 876, 877] (by decide +kernel) (by decide +kernel)
set_option maxRecDepth 20000 in
theorem gL_law_X5_depart : GoodIn wsL_law (wsV RL 214 RX5 yX5_depart wsX5_depart) := goodIn_app (goodIn_of _ (by decide +kernel)) ggL_law_X5_depart
set_option maxRecDepth 20000 in
theorem ggL_law_L_arrive : GoodIn wsL_law wsL_arrive := goodIn_ca (goodIn_ca (goodIn_ca (goodIn_r _ [815, 284, 816, 817, 818, 2, 819, 249, 250, 118, 119, 112, 113, 787, 34, 16, 123, 124, 125, 126, 127, 128, 176, 177, 178, 15, 179, 38, 129, 130, 131, 132, 820, 821, 822, 823, 25, 203, 204, 205, 206, 39, 328, 329, 330, 24, 331, 57, 561, 562, 563, 564, 53, 55, 565, 566, 567, 568, 56, 180, 181, 182, 183, 21, 184, 185, 186, 187, 188, 142, 143, 20, 144, 145, 43, 44, 45, 836, 837, 838, 839, 840, 841, 842, 843, 844, 845, 846, 847, 878, 879, 884, 885, 886, 887, 888, 889, 890, 891, 892, 880, 881, 882, 883] (by decide +kernel) (by decide +kernel)) (goodIn_sub (fun _ h => List.mem_append_right _ h) (by decide +kernel))) (goodIn_sub (fun _ h => List.mem_append_left _ (List.mem_append_right _ h)) (by decide +kernel))) (goodIn_sub (fun _ h => List.mem_append_left _ (List.mem_append_left _ (List.mem_append_right _ h))) (by decide +kernel))
set_option maxRecDepth 20000 in
theorem gL_law_L_arrive : GoodIn wsL_law (va_wsS RL 215 yL_arrive wsL_arrive) := goodIn_app (goodIn_of _ (by decide +kernel)) ggL_law_L_arrive
set_option maxRecDepth 20000 in
theorem ggL_law_X5_arrive : GoodIn wsL_law wsX5_arrive := goodIn_r _ [827, 804, 151, 100, 83, 99, 101, 102, 92, 82, 158, 159, 5, 160, 161, 162, 163, 164, 84, 80, 848, 849, 850, 851, 852, 853, 854, 855, 856, 857, 858, 859, 860, 861, 862, 863, 864, 865, 866, 867, 868, 869, 870, 871, 872, 873, 874, 875, 876, 877] (by decide +kernel) (by decide +kernel)
set_option maxRecDepth 20000 in
theorem gL_law_X5_arrive : GoodIn wsL_law (wsV RL 217 RX5 yX5_arrive wsX5_arrive) := goodIn_app (goodIn_of _ (by decide +kernel)) ggL_law_X5_arrive
set_option maxRecDepth 20000 in
theorem ggL_law_X4_trains : GoodIn wsL_law wsX4_trains := goodIn_r _ [831, 787, 836, 837, 838, 839, 840, 841, 842, 843, 844, 845, 846, 847] (by decide +kernel) (by decide +kernel)
set_option maxRecDepth 20000 in
theorem gL_law_X4_trains : GoodIn wsL_law (wsV RL 218 RX4 yX4_trains wsX4_trains) := goodIn_app (goodIn_of _ (by decide +kernel)) ggL_law_X4_trains
set_option maxRecDepth 20000 in
theorem ggL_law_X5_trains : GoodIn wsL_law wsX5_trains := goodIn_r _ [835, 151, 804, 848, 849, 850, 851, 852, 853, 854, 855, 856, 857, 858, 859, 860, 861, 862, 863, 864, 865, 866, 867, 868, 869, 870, 871, 872, 873, 874, 875, 876, 877] (by decide +kernel) (by decide +kernel)
set_option maxRecDepth 20000 in
theorem gL_law_X5_trains : GoodIn wsL_law (wsV RL 221 RX5 yX5_trains wsX5_trains) := goodIn_app (goodIn_of _ (by decide +kernel)) ggL_law_X5_trains
