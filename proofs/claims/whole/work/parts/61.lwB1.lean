set_option maxRecDepth 20000 in
theorem ggL_law_X8_init : GoodIn wsL_law wsX8_init := goodIn_r _ [8, 9, 10, 11, 12, 13, 14, 15, 16, 17, 18, 19, 20, 21, 22, 23, 24, 25, 26, 27, 28, 29, 30, 31, 32, 33, 34, 35, 36, 37, 38, 39, 40, 41, 42, 43, 44, 45, 46, 47, 48, 49, 50, 51, 52, 53, 54, 55, 56, 57, 58, 59, 60, 61, 62, 63, 64, 65, 66, 67, 68, 69, 70, 71, 72, 73, 74, 75, 76, 77, 78, 79, 80, 81, 82, 83, 84, 85, 86, 87, 88, 89, 90, 91, 92, 93, 94, 803, 804, 805, 806, 807, 808, 809, 810, 811, 812, 813, 814, 815, 842, 843, 844, 845, 846, 847, 848, 849, 850, 851, 852, 853, 854, 855, 856, 857, 858] (by decide +kernel) (by decide +kernel)
set_option maxRecDepth 20000 in
theorem gL_law_X8_init : GoodIn wsL_law (wsX8_init) := ggL_law_X8_init
set_option maxRecDepth 20000 in
theorem ggL_law_X9_init : GoodIn wsL_law wsX9_init := goodIn_r _ [97, 98, 10, 11, 12, 99, 100, 101, 102, 103, 104, 105, 106, 107, 108, 109, 57, 110, 111, 112, 113, 114, 115, 116, 816, 817, 818, 819, 820, 821, 822, 823, 824, 825, 826, 827, 828, 829, 830, 831, 832, 833, 834, 835, 836, 837, 838, 839, 840, 841] (by decide +kernel) (by decide +kernel)
set_option maxRecDepth 20000 in
theorem gL_law_X9_init : GoodIn wsL_law (wsX9_init) := ggL_law_X9_init
set_option maxRecDepth 20000 in
theorem ggL_law_X8_cries : GoodIn wsL_law wsX8_cries := goodIn_r _ [120, 44, 42, 121, 122, 123, 2, 124, 17, 125, 126, 127, 128, 129, 130, 131, 132, 133, 46, 134, 93, 135, 136, 137, 138, 94, 139, 140, 141, 142, 143, 144, 145, 146, 147, 148, 149, 150, 151, 152, 153, 92, 154, 155, 156, 157, 158, 159, 160, 161, 162, 163, 164, 165, 166, 167, 168, 169, 170, 171, 172, 173, 15, 174, 175, 176, 19, 177, 51, 178, 179, 180, 181, 182, 183, 184, 185, 50, 186, 187, 188, 189, 803, 804, 805, 806, 807, 808, 809, 810, 811, 812, 813, 814, 815, 855, 856, 857, 842, 843] (by decide +kernel) (by decide +kernel)
set_option maxRecDepth 20000 in
theorem gL_law_X8_cries : GoodIn wsL_law (wsV RL 13 RX8 yX8_cries wsX8_cries) := goodIn_app (goodIn_of _ (by decide +kernel)) ggL_law_X8_cries
set_option maxRecDepth 20000 in
theorem ggL_law_X9_cries : GoodIn wsL_law wsX9_cries := goodIn_r _ [193, 194, 195, 196, 197, 103, 105, 104, 106, 198, 199, 5, 200, 201, 202, 203, 204, 205, 206, 207, 208, 209, 210, 99, 100, 211, 212, 213, 214, 215, 216, 217, 218, 101, 816, 817, 818, 819, 820, 821, 822, 823, 824, 825, 826, 827, 828, 829, 830, 831, 832, 833, 834, 835, 836, 837, 838, 839, 840, 841] (by decide +kernel) (by decide +kernel)
set_option maxRecDepth 20000 in
theorem gL_law_X9_cries : GoodIn wsL_law (wsV RL 17 RX9 yX9_cries wsX9_cries) := goodIn_app (goodIn_of _ (by decide +kernel)) ggL_law_X9_cries
set_option maxRecDepth 20000 in
theorem ggL_law_X8_kind : GoodIn wsL_law wsX8_kind := goodIn_r _ [222, 13, 223, 224, 2, 225, 226, 227, 228, 803, 804, 805, 806, 807, 808, 809, 810, 811, 812, 813, 814, 815] (by decide +kernel) (by decide +kernel)
set_option maxRecDepth 20000 in
theorem gL_law_X8_kind : GoodIn wsL_law (wsV RL 18 RX8 yX8_kind wsX8_kind) := goodIn_app (goodIn_of _ (by decide +kernel)) ggL_law_X8_kind
set_option maxRecDepth 20000 in
theorem ggL_law_X9_kind : GoodIn wsL_law wsX9_kind := goodIn_r _ [232, 102, 233, 234, 5, 235, 201, 202, 203, 816, 817, 818, 819, 820, 821, 822, 823, 824, 825, 826, 827, 828, 829, 830, 831, 832, 833, 834, 835, 836, 837, 838, 839, 840, 841] (by decide +kernel) (by decide +kernel)
set_option maxRecDepth 20000 in
theorem gL_law_X9_kind : GoodIn wsL_law (wsV RL 22 RX9 yX9_kind wsX9_kind) := goodIn_app (goodIn_of _ (by decide +kernel)) ggL_law_X9_kind
set_option maxRecDepth 20000 in
theorem ggL_law_X8_ofDay : GoodIn wsL_law wsX8_ofDay := goodIn_r _ [239, 170, 171, 172, 2, 173, 42, 15, 178, 179, 180, 19, 181, 51, 240, 241, 242, 243, 244, 245, 246, 247, 50, 248, 803, 804, 805, 806, 807, 808, 809, 810, 811, 812, 813, 814, 815, 842, 843] (by decide +kernel) (by decide +kernel)
set_option maxRecDepth 20000 in
theorem gL_law_X8_ofDay : GoodIn wsL_law (wsV RL 23 RX8 yX8_ofDay wsX8_ofDay) := goodIn_app (goodIn_of _ (by decide +kernel)) ggL_law_X8_ofDay
set_option maxRecDepth 20000 in
theorem ggL_law_X9_ofDay : GoodIn wsL_law wsX9_ofDay := goodIn_r _ [252, 103, 253, 254, 255, 5, 256, 197, 201, 202, 203, 257, 258, 259, 260, 104, 816, 817, 818, 819, 820, 821, 822, 823, 824, 825, 826, 827, 828, 829, 830, 831, 832, 833, 834, 835, 836, 837, 838, 839, 840, 841] (by decide +kernel) (by decide +kernel)
set_option maxRecDepth 20000 in
theorem gL_law_X9_ofDay : GoodIn wsL_law (wsV RL 26 RX9 yX9_ofDay wsX9_ofDay) := goodIn_app (goodIn_of _ (by decide +kernel)) ggL_law_X9_ofDay
set_option maxRecDepth 20000 in
theorem ggL_law_X8_add : GoodIn wsL_law wsX8_add := goodIn_r _ [264, 166, 167, 168, 2, 169, 42, 170, 171, 172, 173, 15, 223, 224, 225, 178, 179, 180, 19, 181, 51, 265, 187, 188, 189, 182, 183, 184, 185, 50, 186, 803, 804, 805, 806, 807, 808, 809, 810, 811, 812, 813, 814, 815, 842, 843] (by decide +kernel) (by decide +kernel)
set_option maxRecDepth 20000 in
theorem gL_law_X8_add : GoodIn wsL_law (wsV RL 27 RX8 yX8_add wsX8_add) := goodIn_app (goodIn_of _ (by decide +kernel)) ggL_law_X8_add
set_option maxRecDepth 20000 in
theorem ggL_law_X9_add : GoodIn wsL_law wsX9_add := goodIn_r _ [269, 197, 103, 104, 233, 234, 5, 235, 201, 202, 203, 257, 258, 259, 260, 816, 817, 818, 819, 820, 821, 822, 823, 824, 825, 826, 827, 828, 829, 830, 831, 832, 833, 834, 835, 836, 837, 838, 839, 840, 841] (by decide +kernel) (by decide +kernel)
set_option maxRecDepth 20000 in
theorem gL_law_X9_add : GoodIn wsL_law (wsV RL 30 RX9 yX9_add wsX9_add) := goodIn_app (goodIn_of _ (by decide +kernel)) ggL_law_X9_add
set_option maxRecDepth 20000 in
theorem ggL_law_X8_within : GoodIn wsL_law wsX8_within := goodIn_r _ [273, 24, 170, 171, 172, 2, 173, 42, 15, 274, 275, 276, 23, 277, 55, 56, 278, 179, 180, 19, 181, 51, 279, 241, 242, 243, 280, 245, 246, 247, 50, 248, 803, 804, 805, 806, 807, 808, 809, 810, 811, 812, 813, 814, 815, 844, 845, 846, 842, 843] (by decide +kernel) (by decide +kernel)
set_option maxRecDepth 20000 in
theorem gL_law_X8_within : GoodIn wsL_law (wsV RL 31 RX8 yX8_within wsX8_within) := goodIn_app (goodIn_of _ (by decide +kernel)) ggL_law_X8_within
set_option maxRecDepth 20000 in
theorem ggL_law_X9_within : GoodIn wsL_law wsX9_within := goodIn_r _ [284, 253, 254, 255, 5, 256, 197, 285, 286, 287, 288, 103, 107, 108, 257, 258, 259, 260, 104, 816, 817, 818, 819, 820, 821, 822, 823, 824, 825, 826, 827, 828, 829, 830, 831, 832, 833, 834, 835, 836, 837, 838, 839, 840, 841] (by decide +kernel) (by decide +kernel)
set_option maxRecDepth 20000 in
theorem gL_law_X9_within : GoodIn wsL_law (wsV RL 34 RX9 yX9_within wsX9_within) := goodIn_app (goodIn_of _ (by decide +kernel)) ggL_law_X9_within
set_option maxRecDepth 20000 in
theorem ggL_law_X8_leftOut : GoodIn wsL_law wsX8_leftOut := goodIn_r _ [292, 42, 24, 170, 171, 172, 2, 173, 15, 274, 275, 276, 23, 277, 55, 56, 278, 179, 180, 19, 181, 51, 279, 241, 242, 243, 280, 245, 246, 247, 50, 248, 803, 804, 805, 806, 807, 808, 809, 810, 811, 812, 813, 814, 815, 844, 845, 846, 842, 843] (by decide +kernel) (by decide +kernel)
set_option maxRecDepth 20000 in
theorem gL_law_X8_leftOut : GoodIn wsL_law (wsV RL 35 RX8 yX8_leftOut wsX8_leftOut) := goodIn_app (goodIn_of _ (by decide +kernel)) ggL_law_X8_leftOut
set_option maxRecDepth 20000 in
theorem ggL_law_X9_leftOut : GoodIn wsL_law wsX9_leftOut := goodIn_r _ [296, 197, 285, 286, 287, 5, 288, 103, 107, 108, 257, 258, 259, 260, 104, 816, 817, 818, 819, 820, 821, 822, 823, 824, 825, 826, 827, 828, 829, 830, 831, 832, 833, 834, 835, 836, 837, 838, 839, 840, 841] (by decide +kernel) (by decide +kernel)
set_option maxRecDepth 20000 in
theorem gL_law_X9_leftOut : GoodIn wsL_law (wsV RL 39 RX9 yX9_leftOut wsX9_leftOut) := goodIn_app (goodIn_of _ (by decide +kernel)) ggL_law_X9_leftOut
set_option maxRecDepth 20000 in
theorem ggL_law_X8_said : GoodIn wsL_law wsX8_said := goodIn_r _ [300, 13, 170, 171, 172, 2, 173, 42, 15, 301, 302, 27, 303, 304, 179, 180, 19, 181, 51, 305, 245, 246, 247, 50, 248, 241, 242, 243, 306, 307, 308, 803, 804, 805, 806, 807, 808, 809, 810, 811, 812, 813, 814, 815, 842, 843] (by decide +kernel) (by decide +kernel)
set_option maxRecDepth 20000 in
theorem gL_law_X8_said : GoodIn wsL_law (wsV RL 40 RX8 yX8_said wsX8_said) := goodIn_app (goodIn_of _ (by decide +kernel)) ggL_law_X8_said
set_option maxRecDepth 20000 in
theorem ggL_law_X9_said : GoodIn wsL_law wsX9_said := goodIn_r _ [312, 253, 254, 255, 5, 256, 197, 313, 314, 315, 316, 103, 109, 257, 258, 259, 260, 104, 317, 318, 319, 320, 102, 816, 817, 818, 819, 820, 821, 822, 823, 824, 825, 826, 827, 828, 829, 830, 831, 832, 833, 834, 835, 836, 837, 838, 839, 840, 841] (by decide +kernel) (by decide +kernel)
set_option maxRecDepth 20000 in
theorem gL_law_X9_said : GoodIn wsL_law (wsV RL 44 RX9 yX9_said wsX9_said) := goodIn_app (goodIn_of _ (by decide +kernel)) ggL_law_X9_said
set_option maxRecDepth 20000 in
theorem ggL_law_X8_putIn : GoodIn wsL_law wsX8_putIn := goodIn_r _ [324, 13, 28, 170, 171, 172, 2, 173, 42, 15, 223, 224, 225, 325, 326, 327, 27, 328, 329, 330, 331, 332, 333, 334, 335, 336, 63, 304, 179, 180, 19, 181, 51, 305, 245, 246, 247, 50, 248, 241, 242, 243, 306, 307, 308, 337, 338, 339, 340, 341, 342, 343, 344, 345, 346, 347, 348, 64, 349, 350, 351, 352, 353, 354, 355, 356, 803, 804, 805, 806, 807, 808, 809, 810, 811, 812, 813, 814, 815, 847, 848, 842, 843] (by decide +kernel) (by decide +kernel)
set_option maxRecDepth 20000 in
theorem gL_law_X8_putIn : GoodIn wsL_law (wsV RL 45 RX8 yX8_putIn wsX8_putIn) := goodIn_app (goodIn_of _ (by decide +kernel)) ggL_law_X8_putIn
set_option maxRecDepth 20000 in
theorem ggL_law_X9_putIn : GoodIn wsL_law wsX9_putIn := goodIn_r _ [360, 102, 361, 362, 363, 253, 254, 255, 5, 256, 197, 233, 234, 235, 201, 202, 203, 364, 365, 366, 367, 103, 368, 369, 370, 371, 313, 314, 315, 316, 109, 257, 258, 259, 260, 104, 317, 318, 319, 320, 816, 817, 818, 819, 820, 821, 822, 823, 824, 825, 826, 827, 828, 829, 830, 831, 832, 833, 834, 835, 836, 837, 838, 839, 840, 841] (by decide +kernel) (by decide +kernel)
set_option maxRecDepth 20000 in
theorem gL_law_X9_putIn : GoodIn wsL_law (wsV RL 49 RX9 yX9_putIn wsX9_putIn) := goodIn_app (goodIn_of _ (by decide +kernel)) ggL_law_X9_putIn
set_option maxRecDepth 20000 in
theorem ggL_law_X8_ways : GoodIn wsL_law wsX8_ways := goodIn_r _ [375, 376, 24, 170, 171, 172, 2, 173, 42, 15, 377, 378, 379, 23, 380, 381, 334, 335, 336, 58, 278, 179, 180, 19, 181, 51, 382, 383, 384, 385, 280, 245, 246, 247, 50, 248, 241, 242, 243, 803, 804, 805, 806, 807, 808, 809, 810, 811, 812, 813, 814, 815, 844, 845, 846, 842, 843] (by decide +kernel) (by decide +kernel)
set_option maxRecDepth 20000 in
theorem gL_law_X8_ways : GoodIn wsL_law (wsV RL 50 RX8 yX8_ways wsX8_ways) := goodIn_app (goodIn_of _ (by decide +kernel)) ggL_law_X8_ways
set_option maxRecDepth 20000 in
theorem ggL_law_X9_ways : GoodIn wsL_law wsX9_ways := goodIn_r _ [389, 390, 103, 110, 253, 254, 255, 5, 256, 197, 391, 392, 393, 257, 258, 259, 260, 104, 816, 817, 818, 819, 820, 821, 822, 823, 824, 825, 826, 827, 828, 829, 830, 831, 832, 833, 834, 835, 836, 837, 838, 839, 840, 841] (by decide +kernel) (by decide +kernel)
set_option maxRecDepth 20000 in
theorem gL_law_X9_ways : GoodIn wsL_law (wsV RL 54 RX9 yX9_ways wsX9_ways) := goodIn_app (goodIn_of _ (by decide +kernel)) ggL_law_X9_ways
set_option maxRecDepth 20000 in
theorem ggL_law_X8_place : GoodIn wsL_law wsX8_place := goodIn_r _ [397, 24, 170, 171, 172, 2, 173, 42, 15, 240, 241, 242, 19, 243, 51, 398, 399, 400, 274, 275, 276, 23, 277, 55, 56, 278, 179, 180, 181, 279, 280, 245, 246, 247, 50, 248, 401, 402, 403, 404, 405, 406, 407, 408, 803, 804, 805, 806, 807, 808, 809, 810, 811, 812, 813, 814, 815, 842, 843, 844, 845, 846] (by decide +kernel) (by decide +kernel)
set_option maxRecDepth 20000 in
theorem gL_law_X8_place : GoodIn wsL_law (wsV RL 55 RX8 yX8_place wsX8_place) := goodIn_app (goodIn_of _ (by decide +kernel)) ggL_law_X8_place
set_option maxRecDepth 20000 in
theorem ggL_law_X9_place : GoodIn wsL_law wsX9_place := goodIn_r _ [412, 103, 107, 108, 253, 254, 255, 5, 256, 197, 201, 202, 203, 285, 286, 287, 288, 257, 258, 259, 260, 104, 816, 817, 818, 819, 820, 821, 822, 823, 824, 825, 826, 827, 828, 829, 830, 831, 832, 833, 834, 835, 836, 837, 838, 839, 840, 841] (by decide +kernel) (by decide +kernel)
set_option maxRecDepth 20000 in
theorem gL_law_X9_place : GoodIn wsL_law (wsV RL 58 RX9 yX9_place wsX9_place) := goodIn_app (goodIn_of _ (by decide +kernel)) ggL_law_X9_place
set_option maxRecDepth 20000 in
theorem ggL_law_X8_mayBe : GoodIn wsL_law wsX8_mayBe := goodIn_r _ [416, 42, 24, 166, 167, 168, 2, 169, 170, 171, 172, 173, 15, 240, 241, 242, 19, 243, 51, 417, 418, 419, 23, 420, 421, 275, 276, 277, 55, 56, 278, 179, 180, 181, 279, 280, 245, 246, 247, 50, 248, 422, 402, 403, 404, 423, 406, 407, 408, 803, 804, 805, 806, 807, 808, 809, 810, 811, 812, 813, 814, 815, 842, 843, 844, 845, 846] (by decide +kernel) (by decide +kernel)
set_option maxRecDepth 20000 in
theorem gL_law_X8_mayBe : GoodIn wsL_law (wsV RL 59 RX8 yX8_mayBe wsX8_mayBe) := goodIn_app (goodIn_of _ (by decide +kernel)) ggL_law_X8_mayBe
set_option maxRecDepth 20000 in
theorem ggL_law_X9_mayBe : GoodIn wsL_law wsX9_mayBe := goodIn_r _ [427, 197, 103, 201, 202, 5, 203, 428, 429, 430, 431, 107, 108, 285, 286, 287, 288, 257, 258, 259, 260, 104, 816, 817, 818, 819, 820, 821, 822, 823, 824, 825, 826, 827, 828, 829, 830, 831, 832, 833, 834, 835, 836, 837, 838, 839, 840, 841] (by decide +kernel) (by decide +kernel)
set_option maxRecDepth 20000 in
theorem gL_law_X9_mayBe : GoodIn wsL_law (wsV RL 62 RX9 yX9_mayBe wsX9_mayBe) := goodIn_app (goodIn_of _ (by decide +kernel)) ggL_law_X9_mayBe
set_option maxRecDepth 20000 in
theorem ggL_law_X8_both : GoodIn wsL_law wsX8_both := goodIn_r _ [435, 32, 170, 171, 172, 2, 173, 42, 15, 398, 399, 400, 436, 437, 438, 31, 439, 440, 179, 180, 19, 181, 51, 441, 442, 443, 444, 71, 72, 445, 446, 335, 447, 448, 241, 242, 243, 449, 450, 451, 452, 453, 454, 455, 70, 456, 76, 457, 458, 459, 460, 245, 246, 247, 50, 248, 461, 462, 463, 464, 178, 465, 466, 467, 468, 803, 804, 805, 806, 807, 808, 809, 810, 811, 812, 813, 814, 815, 842, 843, 849, 850, 858] (by decide +kernel) (by decide +kernel)
set_option maxRecDepth 20000 in
theorem gL_law_X8_both : GoodIn wsL_law (wsV RL 63 RX8 yX8_both wsX8_both) := goodIn_app (goodIn_of _ (by decide +kernel)) ggL_law_X8_both
set_option maxRecDepth 20000 in
theorem ggL_law_X9_both : GoodIn wsL_law wsX9_both := goodIn_r _ [472, 111, 103, 253, 254, 255, 5, 256, 197, 201, 202, 203, 473, 474, 475, 476, 477, 478, 479, 480, 112, 391, 392, 393, 257, 258, 259, 260, 104, 816, 817, 818, 819, 820, 821, 822, 823, 824, 825, 826, 827, 828, 829, 830, 831, 832, 833, 834, 835, 836, 837, 838, 839, 840, 841] (by decide +kernel) (by decide +kernel)
set_option maxRecDepth 20000 in
theorem gL_law_X9_both : GoodIn wsL_law (wsV RL 67 RX9 yX9_both wsX9_both) := goodIn_app (goodIn_of _ (by decide +kernel)) ggL_law_X9_both
set_option maxRecDepth 20000 in
theorem ggL_law_X8_shortest : GoodIn wsL_law wsX8_shortest := goodIn_r _ [484, 376, 32, 170, 171, 172, 2, 173, 42, 15, 436, 437, 438, 31, 439, 440, 179, 180, 19, 181, 51, 441, 442, 443, 444, 71, 72, 445, 446, 335, 447, 448, 241, 242, 243, 449, 450, 451, 452, 453, 454, 455, 70, 456, 76, 457, 458, 459, 460, 245, 246, 247, 50, 248, 461, 462, 463, 464, 465, 466, 467, 468, 485, 486, 487, 488, 489, 490, 491, 492, 493, 494, 495, 496, 497, 334, 336, 803, 804, 805, 806, 807, 808, 809, 810, 811, 812, 813, 814, 815, 842, 843, 849, 850, 858] (by decide +kernel) (by decide +kernel)
set_option maxRecDepth 20000 in
theorem gL_law_X8_shortest : GoodIn wsL_law (wsV RL 68 RX8 yX8_shortest wsX8_shortest) := goodIn_app (goodIn_of _ (by decide +kernel)) ggL_law_X8_shortest
set_option maxRecDepth 20000 in
theorem ggL_law_X9_shortest : GoodIn wsL_law wsX9_shortest := goodIn_r _ [501, 390, 111, 112, 253, 254, 255, 5, 256, 197, 473, 474, 475, 476, 103, 477, 478, 479, 480, 391, 392, 393, 257, 258, 259, 260, 104, 502, 503, 504, 505, 816, 817, 818, 819, 820, 821, 822, 823, 824, 825, 826, 827, 828, 829, 830, 831, 832, 833, 834, 835, 836, 837, 838, 839, 840, 841] (by decide +kernel) (by decide +kernel)
set_option maxRecDepth 20000 in
theorem gL_law_X9_shortest : GoodIn wsL_law (wsV RL 72 RX9 yX9_shortest wsX9_shortest) := goodIn_app (goodIn_of _ (by decide +kernel)) ggL_law_X9_shortest
set_option maxRecDepth 20000 in
theorem ggL_law_X8_three : GoodIn wsL_law wsX8_three := goodIn_r _ [509, 36, 170, 171, 172, 2, 173, 42, 15, 510, 511, 512, 35, 513, 82, 81, 514, 179, 180, 19, 181, 51, 515, 245, 246, 247, 50, 248, 241, 242, 243, 516, 517, 518, 519, 520, 521, 522, 523, 524, 525, 462, 463, 70, 464, 76, 457, 458, 459, 526, 527, 528, 529, 530, 335, 531, 532, 446, 447, 533, 454, 455, 456, 803, 804, 805, 806, 807, 808, 809, 810, 811, 812, 813, 814, 815, 851, 852, 842, 843, 858] (by decide +kernel) (by decide +kernel)
set_option maxRecDepth 20000 in
theorem gL_law_X8_three : GoodIn wsL_law (wsV RL 73 RX8 yX8_three wsX8_three) := goodIn_app (goodIn_of _ (by decide +kernel)) ggL_law_X8_three
set_option maxRecDepth 20000 in
theorem ggL_law_X9_three : GoodIn wsL_law wsX9_three := goodIn_r _ [537, 103, 113, 253, 254, 255, 5, 256, 197, 538, 539, 540, 541, 257, 258, 259, 260, 104, 816, 817, 818, 819, 820, 821, 822, 823, 824, 825, 826, 827, 828, 829, 830, 831, 832, 833, 834, 835, 836, 837, 838, 839, 840, 841] (by decide +kernel) (by decide +kernel)
set_option maxRecDepth 20000 in
theorem gL_law_X9_three : GoodIn wsL_law (wsV RL 76 RX9 yX9_three wsX9_three) := goodIn_app (goodIn_of _ (by decide +kernel)) ggL_law_X9_three
set_option maxRecDepth 20000 in
theorem ggL_law_X8_lostDay : GoodIn wsL_law wsX8_lostDay := goodIn_r _ [545, 376, 40, 170, 171, 172, 2, 173, 42, 15, 546, 547, 548, 39, 549, 87, 550, 551, 552, 70, 553, 76, 554, 383, 384, 385, 555, 454, 455, 456, 457, 458, 459, 556, 557, 558, 559, 88, 560, 179, 180, 19, 181, 51, 561, 462, 463, 464, 562, 563, 564, 565, 566, 245, 246, 247, 50, 248, 241, 242, 243, 567, 568, 569, 570, 571, 572, 803, 804, 805, 806, 807, 808, 809, 810, 811, 812, 813, 814, 815, 853, 854, 858, 842, 843] (by decide +kernel) (by decide +kernel)
set_option maxRecDepth 20000 in
theorem gL_law_X8_lostDay : GoodIn wsL_law (wsV RL 77 RX8 yX8_lostDay wsX8_lostDay) := goodIn_app (goodIn_of _ (by decide +kernel)) ggL_law_X8_lostDay
set_option maxRecDepth 20000 in
theorem ggL_law_X9_lostDay : GoodIn wsL_law wsX9_lostDay := goodIn_r _ [576, 390, 103, 253, 254, 255, 5, 256, 197, 201, 202, 203, 577, 578, 579, 580, 114, 581, 582, 583, 584, 115, 585, 586, 587, 588, 257, 258, 259, 260, 104, 391, 392, 393, 816, 817, 818, 819, 820, 821, 822, 823, 824, 825, 826, 827, 828, 829, 830, 831, 832, 833, 834, 835, 836, 837, 838, 839, 840, 841] (by decide +kernel) (by decide +kernel)
set_option maxRecDepth 20000 in
theorem gL_law_X9_lostDay : GoodIn wsL_law (wsV RL 80 RX9 yX9_lostDay wsX9_lostDay) := goodIn_app (goodIn_of _ (by decide +kernel)) ggL_law_X9_lostDay
set_option maxRecDepth 20000 in
theorem ggL_law_X8_roots : GoodIn wsL_law wsX8_roots := goodIn_r _ [592, 376, 40, 20, 170, 171, 172, 2, 173, 42, 15, 546, 547, 548, 39, 549, 87, 550, 551, 552, 70, 553, 76, 554, 383, 384, 385, 555, 454, 455, 456, 457, 458, 459, 556, 557, 558, 559, 88, 560, 179, 180, 19, 181, 51, 561, 462, 463, 464, 562, 563, 564, 565, 566, 245, 246, 247, 50, 248, 241, 242, 243, 567, 568, 569, 570, 571, 572, 803, 804, 805, 806, 807, 808, 809, 810, 811, 812, 813, 814, 815, 853, 854, 858, 842, 843] (by decide +kernel) (by decide +kernel)
set_option maxRecDepth 20000 in
theorem gL_law_X8_roots : GoodIn wsL_law (wsV RL 81 RX8 yX8_roots wsX8_roots) := goodIn_app (goodIn_of _ (by decide +kernel)) ggL_law_X8_roots
set_option maxRecDepth 20000 in
theorem ggL_law_X9_roots : GoodIn wsL_law wsX9_roots := goodIn_r _ [596, 390, 253, 254, 255, 5, 256, 197, 201, 202, 203, 577, 578, 579, 580, 114, 581, 582, 583, 584, 103, 115, 585, 586, 587, 588, 257, 258, 259, 260, 104, 391, 392, 393, 816, 817, 818, 819, 820, 821, 822, 823, 824, 825, 826, 827, 828, 829, 830, 831, 832, 833, 834, 835, 836, 837, 838, 839, 840, 841] (by decide +kernel) (by decide +kernel)
set_option maxRecDepth 20000 in
theorem gL_law_X9_roots : GoodIn wsL_law (wsV RL 84 RX9 yX9_roots wsX9_roots) := goodIn_app (goodIn_of _ (by decide +kernel)) ggL_law_X9_roots
set_option maxRecDepth 20000 in
theorem ggL_law_X8_breaths : GoodIn wsL_law wsX8_breaths := goodIn_r _ [600, 170, 171, 172, 2, 173, 42, 15, 601, 602, 603, 604, 41, 605, 334, 335, 336, 606, 607, 608, 178, 179, 180, 19, 181, 51, 244, 245, 246, 247, 50, 248, 241, 242, 243, 609, 610, 611, 612, 13, 223, 224, 225, 803, 804, 805, 806, 807, 808, 809, 810, 811, 812, 813, 814, 815, 842, 843] (by decide +kernel) (by decide +kernel)
set_option maxRecDepth 20000 in
theorem gL_law_X8_breaths : GoodIn wsL_law (wsV RL 85 RX8 yX8_breaths wsX8_breaths) := goodIn_app (goodIn_of _ (by decide +kernel)) ggL_law_X8_breaths
set_option maxRecDepth 20000 in
theorem ggL_law_X9_breaths : GoodIn wsL_law wsX9_breaths := goodIn_r _ [616, 103, 116, 102, 253, 254, 255, 5, 256, 197, 201, 202, 203, 257, 258, 259, 260, 104, 816, 817, 818, 819, 820, 821, 822, 823, 824, 825, 826, 827, 828, 829, 830, 831, 832, 833, 834, 835, 836, 837, 838, 839, 840, 841] (by decide +kernel) (by decide +kernel)
set_option maxRecDepth 20000 in
theorem gL_law_X9_breaths : GoodIn wsL_law (wsV RL 88 RX9 yX9_breaths wsX9_breaths) := goodIn_app (goodIn_of _ (by decide +kernel)) ggL_law_X9_breaths
set_option maxRecDepth 20000 in
theorem ggL_law_X8_once : GoodIn wsL_law wsX8_once := goodIn_r _ [620, 170, 171, 172, 2, 173, 42, 15, 398, 399, 400, 178, 179, 180, 19, 181, 51, 621, 622, 623, 606, 607, 335, 608, 624, 625, 626, 240, 241, 242, 243, 244, 245, 246, 247, 50, 248, 803, 804, 805, 806, 807, 808, 809, 810, 811, 812, 813, 814, 815, 842, 843] (by decide +kernel) (by decide +kernel)
set_option maxRecDepth 20000 in
theorem gL_law_X8_once : GoodIn wsL_law (wsV RL 89 RX8 yX8_once wsX8_once) := goodIn_app (goodIn_of _ (by decide +kernel)) ggL_law_X8_once
set_option maxRecDepth 20000 in
theorem ggL_law_X9_once : GoodIn wsL_law wsX9_once := goodIn_r _ [630, 103, 253, 254, 255, 5, 256, 197, 201, 202, 203, 631, 632, 633, 634, 257, 258, 259, 260, 104, 816, 817, 818, 819, 820, 821, 822, 823, 824, 825, 826, 827, 828, 829, 830, 831, 832, 833, 834, 835, 836, 837, 838, 839, 840, 841] (by decide +kernel) (by decide +kernel)
set_option maxRecDepth 20000 in
theorem gL_law_X9_once : GoodIn wsL_law (wsV RL 92 RX9 yX9_once wsX9_once) := goodIn_app (goodIn_of _ (by decide +kernel)) ggL_law_X9_once
set_option maxRecDepth 20000 in
theorem ggL_law_X8_twice : GoodIn wsL_law wsX8_twice := goodIn_r _ [638, 170, 171, 172, 2, 173, 42, 15, 178, 179, 180, 19, 181, 51, 244, 245, 246, 247, 50, 248, 241, 242, 243, 803, 804, 805, 806, 807, 808, 809, 810, 811, 812, 813, 814, 815, 842, 843] (by decide +kernel) (by decide +kernel)
set_option maxRecDepth 20000 in
theorem gL_law_X8_twice : GoodIn wsL_law (wsV RL 93 RX8 yX8_twice wsX8_twice) := goodIn_app (goodIn_of _ (by decide +kernel)) ggL_law_X8_twice
set_option maxRecDepth 20000 in
theorem ggL_law_X9_twice : GoodIn wsL_law wsX9_twice := goodIn_r _ [642, 103, 253, 254, 255, 5, 256, 197, 257, 258, 259, 260, 104, 643, 644, 645, 646, 816, 817, 818, 819, 820, 821, 822, 823, 824, 825, 826, 827, 828, 829, 830, 831, 832, 833, 834, 835, 836, 837, 838, 839, 840, 841] (by decide +kernel) (by decide +kernel)
set_option maxRecDepth 20000 in
theorem gL_law_X9_twice : GoodIn wsL_law (wsV RL 96 RX9 yX9_twice wsX9_twice) := goodIn_app (goodIn_of _ (by decide +kernel)) ggL_law_X9_twice
set_option maxRecDepth 20000 in
theorem ggL_law_X8_sheet : GoodIn wsL_law wsX8_sheet := goodIn_r _ [650, 44, 121, 122, 123, 2, 124, 17, 125, 126, 127, 139, 140, 141, 142, 651, 652, 653, 46, 654, 92, 93, 94, 655, 656, 384, 657, 803, 804, 805, 806, 807, 808, 809, 810, 811, 812, 813, 814, 815, 855, 856, 857] (by decide +kernel) (by decide +kernel)
set_option maxRecDepth 20000 in
theorem gL_law_X8_sheet : GoodIn wsL_law (wsV RL 97 RX8 yX8_sheet wsX8_sheet) := goodIn_app (goodIn_of _ (by decide +kernel)) ggL_law_X8_sheet
set_option maxRecDepth 20000 in
theorem ggL_law_X9_sheet : GoodIn wsL_law wsX9_sheet := goodIn_r _ [661, 194, 99, 100, 101, 198, 199, 5, 200, 201, 202, 203, 204, 205, 206, 211, 212, 213, 214, 816, 817, 818, 819, 820, 821, 822, 823, 824, 825, 826, 827, 828, 829, 830, 831, 832, 833, 834, 835, 836, 837, 838, 839, 840, 841] (by decide +kernel) (by decide +kernel)
set_option maxRecDepth 20000 in
theorem gL_law_X9_sheet : GoodIn wsL_law (wsV RL 100 RX9 yX9_sheet wsX9_sheet) := goodIn_app (goodIn_of _ (by decide +kernel)) ggL_law_X9_sheet
set_option maxRecDepth 20000 in
theorem ggL_law_X8_lose : GoodIn wsL_law wsX8_lose := goodIn_r _ [665, 121, 122, 123, 2, 124, 17, 131, 132, 133, 46, 134, 93, 666, 667, 668, 669, 803, 804, 805, 806, 807, 808, 809, 810, 811, 812, 813, 814, 815, 855, 856, 857] (by decide +kernel) (by decide +kernel)
set_option maxRecDepth 20000 in
theorem gL_law_X8_lose : GoodIn wsL_law (wsV RL 101 RX8 yX8_lose wsX8_lose) := goodIn_app (goodIn_of _ (by decide +kernel)) ggL_law_X8_lose
set_option maxRecDepth 20000 in
theorem ggL_law_X9_lose : GoodIn wsL_law wsX9_lose := goodIn_r _ [673, 99, 198, 199, 5, 200, 201, 202, 203, 816, 817, 818, 819, 820, 821, 822, 823, 824, 825, 826, 827, 828, 829, 830, 831, 832, 833, 834, 835, 836, 837, 838, 839, 840, 841] (by decide +kernel) (by decide +kernel)
set_option maxRecDepth 20000 in
theorem gL_law_X9_lose : GoodIn wsL_law (wsV RL 104 RX9 yX9_lose wsX9_lose) := goodIn_app (goodIn_of _ (by decide +kernel)) ggL_law_X9_lose
set_option maxRecDepth 20000 in
theorem ggL_law_X8_put : GoodIn wsL_law wsX8_put := goodIn_r _ [677, 44, 121, 122, 123, 2, 124, 17, 131, 132, 133, 46, 134, 93, 139, 140, 141, 142, 143, 144, 145, 146, 678, 679, 680, 681, 92, 154, 682, 683, 684, 685, 94, 803, 804, 805, 806, 807, 808, 809, 810, 811, 812, 813, 814, 815, 855, 856, 857] (by decide +kernel) (by decide +kernel)
set_option maxRecDepth 20000 in
theorem gL_law_X8_put : GoodIn wsL_law (wsV RL 105 RX8 yX8_put wsX8_put) := goodIn_app (goodIn_of _ (by decide +kernel)) ggL_law_X8_put
set_option maxRecDepth 20000 in
theorem ggL_law_X9_put : GoodIn wsL_law wsX9_put := goodIn_r _ [689, 194, 99, 100, 101, 198, 199, 5, 200, 201, 202, 203, 211, 212, 213, 214, 816, 817, 818, 819, 820, 821, 822, 823, 824, 825, 826, 827, 828, 829, 830, 831, 832, 833, 834, 835, 836, 837, 838, 839, 840, 841] (by decide +kernel) (by decide +kernel)
set_option maxRecDepth 20000 in
theorem gL_law_X9_put : GoodIn wsL_law (wsV RL 108 RX9 yX9_put wsX9_put) := goodIn_app (goodIn_of _ (by decide +kernel)) ggL_law_X9_put
set_option maxRecDepth 20000 in
theorem ggL_law_X8_cell : GoodIn wsL_law wsX8_cell := goodIn_r _ [693, 44, 376, 121, 122, 123, 2, 124, 17, 125, 126, 127, 128, 129, 130, 131, 132, 133, 46, 134, 93, 135, 136, 137, 138, 94, 143, 144, 145, 146, 150, 151, 152, 153, 92, 154, 803, 804, 805, 806, 807, 808, 809, 810, 811, 812, 813, 814, 815, 855, 856, 857] (by decide +kernel) (by decide +kernel)
set_option maxRecDepth 20000 in
theorem gL_law_X8_cell : GoodIn wsL_law (wsV RL 109 RX8 yX8_cell wsX8_cell) := goodIn_app (goodIn_of _ (by decide +kernel)) ggL_law_X8_cell
set_option maxRecDepth 20000 in
theorem ggL_law_X9_cell : GoodIn wsL_law wsX9_cell := goodIn_r _ [697, 194, 390, 99, 100, 101, 198, 199, 5, 200, 201, 202, 203, 204, 205, 206, 698, 699, 700, 701, 816, 817, 818, 819, 820, 821, 822, 823, 824, 825, 826, 827, 828, 829, 830, 831, 832, 833, 834, 835, 836, 837, 838, 839, 840, 841] (by decide +kernel) (by decide +kernel)
set_option maxRecDepth 20000 in
theorem gL_law_X9_cell : GoodIn wsL_law (wsV RL 112 RX9 yX9_cell wsX9_cell) := goodIn_app (goodIn_of _ (by decide +kernel)) ggL_law_X9_cell
set_option maxRecDepth 20000 in
theorem ggL_law_X8_copy : GoodIn wsL_law wsX8_copy := goodIn_r _ [705, 44, 121, 122, 123, 2, 124, 17, 131, 132, 133, 46, 134, 93, 139, 140, 141, 142, 135, 136, 137, 138, 94, 143, 144, 145, 146, 706, 707, 708, 709, 92, 710, 711, 712, 713, 154, 803, 804, 805, 806, 807, 808, 809, 810, 811, 812, 813, 814, 815, 855, 856, 857] (by decide +kernel) (by decide +kernel)
set_option maxRecDepth 20000 in
theorem gL_law_X8_copy : GoodIn wsL_law (wsV RL 113 RX8 yX8_copy wsX8_copy) := goodIn_app (goodIn_of _ (by decide +kernel)) ggL_law_X8_copy
set_option maxRecDepth 20000 in
theorem ggL_law_X9_copy : GoodIn wsL_law wsX9_copy := goodIn_r _ [717, 194, 99, 100, 101, 198, 199, 5, 200, 201, 202, 203, 211, 212, 213, 214, 816, 817, 818, 819, 820, 821, 822, 823, 824, 825, 826, 827, 828, 829, 830, 831, 832, 833, 834, 835, 836, 837, 838, 839, 840, 841] (by decide +kernel) (by decide +kernel)
set_option maxRecDepth 20000 in
theorem gL_law_X9_copy : GoodIn wsL_law (wsV RL 117 RX9 yX9_copy wsX9_copy) := goodIn_app (goodIn_of _ (by decide +kernel)) ggL_law_X9_copy
set_option maxRecDepth 20000 in
theorem ggL_law_X8_tell : GoodIn wsL_law wsX8_tell := goodIn_r _ [721, 13, 223, 224, 2, 225, 722, 723, 724, 725, 726, 727, 728, 729, 43, 730, 731, 732, 733, 734, 735, 736, 737, 42, 170, 171, 172, 173, 15, 738, 739, 740, 19, 741, 51, 50, 803, 804, 805, 806, 807, 808, 809, 810, 811, 812, 813, 814, 815, 842, 843] (by decide +kernel) (by decide +kernel)
set_option maxRecDepth 20000 in
theorem gL_law_X8_tell : GoodIn wsL_law (wsV RL 118 RX8 yX8_tell wsX8_tell) := goodIn_app (goodIn_of _ (by decide +kernel)) ggL_law_X8_tell
set_option maxRecDepth 20000 in
theorem ggL_law_X9_tell : GoodIn wsL_law wsX9_tell := goodIn_r _ [745, 102, 233, 234, 5, 235, 201, 202, 203, 746, 747, 748, 749, 197, 103, 643, 644, 645, 646, 257, 258, 259, 260, 104, 750, 751, 752, 753, 754, 816, 817, 818, 819, 820, 821, 822, 823, 824, 825, 826, 827, 828, 829, 830, 831, 832, 833, 834, 835, 836, 837, 838, 839, 840, 841] (by decide +kernel) (by decide +kernel)
set_option maxRecDepth 20000 in
theorem gL_law_X9_tell : GoodIn wsL_law (wsV RL 121 RX9 yX9_tell wsX9_tell) := goodIn_app (goodIn_of _ (by decide +kernel)) ggL_law_X9_tell
set_option maxRecDepth 20000 in
theorem ggL_law_X8_sing : GoodIn wsL_law wsX8_sing := goodIn_r _ [758, 13, 223, 224, 2, 225, 759, 760, 761, 762, 726, 727, 728, 729, 43, 763, 764, 765, 766, 803, 804, 805, 806, 807, 808, 809, 810, 811, 812, 813, 814, 815] (by decide +kernel) (by decide +kernel)
set_option maxRecDepth 20000 in
theorem gL_law_X8_sing : GoodIn wsL_law (wsV RL 122 RX8 yX8_sing wsX8_sing) := goodIn_app (goodIn_of _ (by decide +kernel)) ggL_law_X8_sing
set_option maxRecDepth 20000 in
theorem ggL_law_X9_sing : GoodIn wsL_law wsX9_sing := goodIn_r _ [770, 102, 233, 234, 5, 235, 201, 202, 203, 750, 751, 752, 753, 754, 816, 817, 818, 819, 820, 821, 822, 823, 824, 825, 826, 827, 828, 829, 830, 831, 832, 833, 834, 835, 836, 837, 838, 839, 840, 841] (by decide +kernel) (by decide +kernel)
set_option maxRecDepth 20000 in
theorem gL_law_X9_sing : GoodIn wsL_law (wsV RL 125 RX9 yX9_sing wsX9_sing) := goodIn_app (goodIn_of _ (by decide +kernel)) ggL_law_X9_sing
set_option maxRecDepth 20000 in
theorem ggL_law_X8_as : GoodIn wsL_law wsX8_as := goodIn_r _ [774, 44, 13, 223, 224, 2, 225, 226, 227, 228, 139, 140, 141, 142, 803, 804, 805, 806, 807, 808, 809, 810, 811, 812, 813, 814, 815] (by decide +kernel) (by decide +kernel)
set_option maxRecDepth 20000 in
theorem gL_law_X8_as : GoodIn wsL_law (wsV RL 126 RX8 yX8_as wsX8_as) := goodIn_app (goodIn_of _ (by decide +kernel)) ggL_law_X8_as
set_option maxRecDepth 20000 in
theorem ggL_law_X9_as : GoodIn wsL_law wsX9_as := goodIn_r _ [778, 194, 102, 233, 234, 5, 235, 201, 202, 203, 211, 212, 213, 214, 816, 817, 818, 819, 820, 821, 822, 823, 824, 825, 826, 827, 828, 829, 830, 831, 832, 833, 834, 835, 836, 837, 838, 839, 840, 841] (by decide +kernel) (by decide +kernel)
set_option maxRecDepth 20000 in
theorem gL_law_X9_as : GoodIn wsL_law (wsV RL 129 RX9 yX9_as wsX9_as) := goodIn_app (goodIn_of _ (by decide +kernel)) ggL_law_X9_as
set_option maxRecDepth 20000 in
theorem ggL_law_X8_trace : GoodIn wsL_law wsX8_trace := goodIn_r _ [782, 43, 803, 804, 805, 806, 807, 808, 809, 810, 811, 812, 813, 814, 815] (by decide +kernel) (by decide +kernel)
set_option maxRecDepth 20000 in
theorem gL_law_X8_trace : GoodIn wsL_law (wsV RL 130 RX8 yX8_trace wsX8_trace) := goodIn_app (goodIn_of _ (by decide +kernel)) ggL_law_X8_trace
set_option maxRecDepth 20000 in
theorem ggL_law_X9_trace : GoodIn wsL_law wsX9_trace := goodIn_r _ [786, 754, 816, 817, 818, 819, 820, 821, 822, 823, 824, 825, 826, 827, 828, 829, 830, 831, 832, 833, 834, 835, 836, 837, 838, 839, 840, 841] (by decide +kernel) (by decide +kernel)
set_option maxRecDepth 20000 in
theorem gL_law_X9_trace : GoodIn wsL_law (wsV RL 133 RX9 yX9_trace wsX9_trace) := goodIn_app (goodIn_of _ (by decide +kernel)) ggL_law_X9_trace
set_option maxRecDepth 20000 in
theorem ggL_law_X8_fault : GoodIn wsL_law wsX8_fault := goodIn_r _ [790, 44, 803, 804, 805, 806, 807, 808, 809, 810, 811, 812, 813, 814, 815] (by decide +kernel) (by decide +kernel)
set_option maxRecDepth 20000 in
theorem gL_law_X8_fault : GoodIn wsL_law (wsV RL 134 RX8 yX8_fault wsX8_fault) := goodIn_app (goodIn_of _ (by decide +kernel)) ggL_law_X8_fault
set_option maxRecDepth 20000 in
theorem ggL_law_X9_fault : GoodIn wsL_law wsX9_fault := goodIn_r _ [794, 194, 816, 817, 818, 819, 820, 821, 822, 823, 824, 825, 826, 827, 828, 829, 830, 831, 832, 833, 834, 835, 836, 837, 838, 839, 840, 841] (by decide +kernel) (by decide +kernel)
set_option maxRecDepth 20000 in
theorem gL_law_X9_fault : GoodIn wsL_law (wsV RL 137 RX9 yX9_fault wsX9_fault) := goodIn_app (goodIn_of _ (by decide +kernel)) ggL_law_X9_fault
set_option maxRecDepth 20000 in
theorem ggL_law_X8_many : GoodIn wsL_law wsX8_many := goodIn_r _ [798, 42, 803, 804, 805, 806, 807, 808, 809, 810, 811, 812, 813, 814, 815] (by decide +kernel) (by decide +kernel)
set_option maxRecDepth 20000 in
theorem gL_law_X8_many : GoodIn wsL_law (wsV RL 138 RX8 yX8_many wsX8_many) := goodIn_app (goodIn_of _ (by decide +kernel)) ggL_law_X8_many
set_option maxRecDepth 20000 in
theorem ggL_law_X9_many : GoodIn wsL_law wsX9_many := goodIn_r _ [802, 197, 816, 817, 818, 819, 820, 821, 822, 823, 824, 825, 826, 827, 828, 829, 830, 831, 832, 833, 834, 835, 836, 837, 838, 839, 840, 841] (by decide +kernel) (by decide +kernel)
set_option maxRecDepth 20000 in
theorem gL_law_X9_many : GoodIn wsL_law (wsV RL 141 RX9 yX9_many wsX9_many) := goodIn_app (goodIn_of _ (by decide +kernel)) ggL_law_X9_many
