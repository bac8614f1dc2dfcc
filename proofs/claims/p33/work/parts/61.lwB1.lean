set_option maxRecDepth 20000 in
theorem ggL_law_X8_init : GoodIn wsL_law wsX8_init := goodIn_r _ [8, 9, 10, 11, 4, 12, 13, 14, 15, 16, 17, 18, 19, 20, 21, 22, 23, 24, 25, 26, 27, 28, 29, 30, 31, 32, 33, 34, 35, 36, 37, 38, 39, 40, 41, 42, 43, 44, 45, 46, 47, 48, 49, 50, 51, 52, 53, 54, 55, 3, 56, 57, 58, 59, 60, 61, 62, 63, 64, 65, 66, 67, 68, 69, 70, 71, 72, 73, 74, 75, 76, 77, 78, 79, 80, 81, 82, 83, 84, 85, 86, 87, 88, 89, 90, 91, 92, 320, 321, 322, 323, 324, 325, 326, 327, 328, 329, 330, 331, 332, 333, 334, 335, 336, 337, 338, 339, 340, 341, 342, 343, 344, 345, 346, 347, 348, 349] (by decide +kernel) (by decide +kernel)
set_option maxRecDepth 20000 in
theorem gL_law_X8_init : GoodIn wsL_law (wsX8_init) := ggL_law_X8_init
set_option maxRecDepth 20000 in
theorem ggL_law_L_put : GoodIn wsL_law wsL_put := goodIn_r _ [96, 97, 98, 95, 99, 100, 101, 102, 103, 104, 105, 106, 107, 2, 108, 43, 109, 110, 111, 112, 16, 113, 114, 115, 116, 117, 118, 119, 120, 121, 122, 45, 123, 90, 91, 92, 124, 125, 126, 127, 128, 129, 130, 131, 132, 133, 134, 135, 136, 137, 138, 139, 140, 141, 142, 143, 144, 145, 146, 147, 148, 149, 150, 151, 152, 153, 154, 155, 320, 321, 322, 323, 324, 325, 326, 327, 328, 329, 330, 331, 332, 346, 347, 348] (by decide +kernel) (by decide +kernel)
set_option maxRecDepth 20000 in
theorem gL_law_L_put : GoodIn wsL_law (va_wsS RL 42 yL_put wsL_put) := goodIn_app (goodIn_of _ (by decide +kernel)) ggL_law_L_put
set_option maxRecDepth 20000 in
theorem ggL_law_X8_cries : GoodIn wsL_law wsX8_cries := goodIn_r _ [159, 43, 41, 109, 110, 111, 2, 112, 16, 113, 114, 115, 160, 161, 162, 135, 136, 137, 45, 138, 91, 163, 164, 165, 166, 92, 116, 117, 118, 119, 139, 140, 141, 142, 167, 168, 169, 170, 171, 172, 173, 90, 147, 174, 175, 176, 177, 178, 179, 180, 181, 182, 183, 184, 185, 186, 187, 188, 189, 190, 191, 192, 14, 193, 194, 195, 18, 196, 50, 197, 198, 199, 200, 201, 202, 203, 204, 49, 205, 206, 207, 208, 320, 321, 322, 323, 324, 325, 326, 327, 328, 329, 330, 331, 332, 346, 347, 348, 333, 334] (by decide +kernel) (by decide +kernel)
set_option maxRecDepth 20000 in
theorem gL_law_X8_cries : GoodIn wsL_law (wsV RL 45 RX8 yX8_cries wsX8_cries) := goodIn_app (goodIn_of _ (by decide +kernel)) ggL_law_X8_cries
set_option maxRecDepth 20000 in
theorem ggL_law_X8_many : GoodIn wsL_law wsX8_many := goodIn_r _ [212, 41, 320, 321, 322, 323, 324, 325, 326, 327, 328, 329, 330, 331, 332] (by decide +kernel) (by decide +kernel)
set_option maxRecDepth 20000 in
theorem gL_law_X8_many : GoodIn wsL_law (wsV RL 49 RX8 yX8_many wsX8_many) := goodIn_app (goodIn_of _ (by decide +kernel)) ggL_law_X8_many
set_option maxRecDepth 20000 in
theorem ggL_law_L_within : GoodIn wsL_law wsL_within := goodIn_r _ [215, 152, 153, 95, 154, 155] (by decide +kernel) (by decide +kernel)
set_option maxRecDepth 20000 in
theorem gL_law_L_within : GoodIn wsL_law (va_wsS RL 53 yL_within wsL_within) := goodIn_app (goodIn_of _ (by decide +kernel)) ggL_law_L_within
set_option maxRecDepth 20000 in
theorem ggL_law_X8_leftOut : GoodIn wsL_law wsX8_leftOut := goodIn_r _ [219, 41, 23, 189, 190, 191, 2, 192, 14, 220, 221, 222, 22, 223, 54, 55, 224, 198, 199, 18, 200, 50, 225, 226, 227, 228, 229, 230, 231, 232, 49, 233, 320, 321, 322, 323, 324, 325, 326, 327, 328, 329, 330, 331, 332, 335, 336, 337, 333, 334] (by decide +kernel) (by decide +kernel)
set_option maxRecDepth 20000 in
theorem gL_law_X8_leftOut : GoodIn wsL_law (wsV RL 57 RX8 yX8_leftOut wsX8_leftOut) := goodIn_app (goodIn_of _ (by decide +kernel)) ggL_law_X8_leftOut
set_option maxRecDepth 20000 in
theorem ggL_law_X8_ofDay : GoodIn wsL_law wsX8_ofDay := goodIn_r _ [237, 189, 190, 191, 2, 192, 41, 14, 197, 198, 199, 18, 200, 50, 238, 226, 227, 228, 239, 230, 231, 232, 49, 233, 320, 321, 322, 323, 324, 325, 326, 327, 328, 329, 330, 331, 332, 333, 334] (by decide +kernel) (by decide +kernel)
set_option maxRecDepth 20000 in
theorem gL_law_X8_ofDay : GoodIn wsL_law (wsV RL 60 RX8 yX8_ofDay wsX8_ofDay) := goodIn_app (goodIn_of _ (by decide +kernel)) ggL_law_X8_ofDay
set_option maxRecDepth 20000 in
theorem ggL_law_L_word : GoodIn wsL_law wsL_word := goodIn_r _ [154, 155] (by decide +kernel) (by decide +kernel)
set_option maxRecDepth 20000 in
theorem gL_law_L_word : GoodIn wsL_law (va_wsS RL 32 yL_word wsL_word) := goodIn_app (goodIn_of _ (by decide +kernel)) ggL_law_L_word
set_option maxRecDepth 20000 in
theorem ggL_law_X8_within : GoodIn wsL_law wsX8_within := goodIn_r _ [243, 23, 189, 190, 191, 2, 192, 41, 14, 220, 221, 222, 22, 223, 54, 55, 224, 198, 199, 18, 200, 50, 225, 226, 227, 228, 229, 230, 231, 232, 49, 233, 320, 321, 322, 323, 324, 325, 326, 327, 328, 329, 330, 331, 332, 335, 336, 337, 333, 334] (by decide +kernel) (by decide +kernel)
set_option maxRecDepth 20000 in
theorem gL_law_X8_within : GoodIn wsL_law (wsV RL 63 RX8 yX8_within wsX8_within) := goodIn_app (goodIn_of _ (by decide +kernel)) ggL_law_X8_within
set_option maxRecDepth 20000 in
theorem ggL_law_L_size : GoodIn wsL_law wsL_size := goodIn_r _ [246] (by decide +kernel) (by decide +kernel)
set_option maxRecDepth 20000 in
theorem gL_law_L_size : GoodIn wsL_law (va_wsS RL 65 yL_size wsL_size) := goodIn_app (goodIn_of _ (by decide +kernel)) ggL_law_L_size
set_option maxRecDepth 20000 in
theorem ggL_law_L_part : GoodIn wsL_law wsL_part := goodIn_r _ [249, 152, 153, 95, 154, 155] (by decide +kernel) (by decide +kernel)
set_option maxRecDepth 20000 in
theorem gL_law_L_part : GoodIn wsL_law (va_wsS RL 69 yL_part wsL_part) := goodIn_app (goodIn_of _ (by decide +kernel)) ggL_law_L_part
set_option maxRecDepth 20000 in
theorem ggL_law_X8_ways : GoodIn wsL_law wsX8_ways := goodIn_r _ [253, 254, 23, 189, 190, 191, 2, 192, 41, 14, 255, 256, 257, 22, 258, 259, 260, 261, 262, 56, 224, 198, 199, 18, 200, 50, 263, 264, 126, 265, 229, 230, 231, 232, 49, 233, 226, 227, 228, 320, 321, 322, 323, 324, 325, 326, 327, 328, 329, 330, 331, 332, 335, 336, 337, 333, 334] (by decide +kernel) (by decide +kernel)
set_option maxRecDepth 20000 in
theorem gL_law_X8_ways : GoodIn wsL_law (wsV RL 72 RX8 yX8_ways wsX8_ways) := goodIn_app (goodIn_of _ (by decide +kernel)) ggL_law_X8_ways
set_option maxRecDepth 20000 in
theorem ggL_law_X8_place : GoodIn wsL_law wsX8_place := goodIn_r _ [269, 23, 189, 190, 191, 2, 192, 41, 14, 238, 226, 227, 18, 228, 50, 270, 271, 272, 220, 221, 222, 22, 223, 54, 55, 224, 198, 199, 200, 225, 229, 230, 231, 232, 49, 233, 273, 274, 275, 276, 277, 278, 279, 280, 320, 321, 322, 323, 324, 325, 326, 327, 328, 329, 330, 331, 332, 333, 334, 335, 336, 337] (by decide +kernel) (by decide +kernel)
set_option maxRecDepth 20000 in
theorem gL_law_X8_place : GoodIn wsL_law (wsV RL 76 RX8 yX8_place wsX8_place) := goodIn_app (goodIn_of _ (by decide +kernel)) ggL_law_X8_place
set_option maxRecDepth 20000 in
theorem ggL_law_X8_mayBe : GoodIn wsL_law wsX8_mayBe := goodIn_r _ [284, 41, 23, 185, 186, 187, 2, 188, 189, 190, 191, 192, 14, 238, 226, 227, 18, 228, 50, 285, 286, 287, 22, 288, 289, 221, 222, 223, 54, 55, 224, 198, 199, 200, 225, 229, 230, 231, 232, 49, 233, 290, 274, 275, 276, 291, 278, 279, 280, 320, 321, 322, 323, 324, 325, 326, 327, 328, 329, 330, 331, 332, 333, 334, 335, 336, 337] (by decide +kernel) (by decide +kernel)
set_option maxRecDepth 20000 in
theorem gL_law_X8_mayBe : GoodIn wsL_law (wsV RL 79 RX8 yX8_mayBe wsX8_mayBe) := goodIn_app (goodIn_of _ (by decide +kernel)) ggL_law_X8_mayBe
set_option maxRecDepth 20000 in
theorem ggL_law_L_cell : GoodIn wsL_law wsL_cell := goodIn_r _ [99, 100] (by decide +kernel) (by decide +kernel)
set_option maxRecDepth 20000 in
theorem gL_law_L_cell : GoodIn wsL_law (va_wsS RL 9 yL_cell wsL_cell) := goodIn_app (goodIn_of _ (by decide +kernel)) ggL_law_L_cell
set_option maxRecDepth 20000 in
theorem ggL_law_L_kinds : GoodIn wsL_law wsL_kinds := goodIn_r _ [294, 101, 102, 95, 103, 104, 295, 296, 297, 2, 298, 12, 299, 300, 301, 302, 303, 304, 320, 321, 322, 323, 324, 325, 326, 327, 328, 329, 330, 331, 332] (by decide +kernel) (by decide +kernel)
set_option maxRecDepth 20000 in
theorem gL_law_L_kinds : GoodIn wsL_law (va_wsS RL 82 yL_kinds wsL_kinds) := goodIn_app (goodIn_of _ (by decide +kernel)) ggL_law_L_kinds
set_option maxRecDepth 20000 in
theorem ggL_law_X8_said : GoodIn wsL_law wsX8_said := goodIn_r _ [308, 12, 189, 190, 191, 2, 192, 41, 14, 309, 310, 26, 311, 312, 198, 199, 18, 200, 50, 313, 230, 231, 232, 49, 233, 226, 227, 228, 314, 315, 316, 320, 321, 322, 323, 324, 325, 326, 327, 328, 329, 330, 331, 332, 333, 334] (by decide +kernel) (by decide +kernel)
set_option maxRecDepth 20000 in
theorem gL_law_X8_said : GoodIn wsL_law (wsV RL 86 RX8 yX8_said wsX8_said) := goodIn_app (goodIn_of _ (by decide +kernel)) ggL_law_X8_said
set_option maxRecDepth 20000 in
theorem ggL_law_L_said : GoodIn wsL_law wsL_said := goodIn_r _ [319, 152, 153, 95, 154, 155] (by decide +kernel) (by decide +kernel)
set_option maxRecDepth 20000 in
theorem gL_law_L_said : GoodIn wsL_law (va_wsS RL 89 yL_said wsL_said) := goodIn_app (goodIn_of _ (by decide +kernel)) ggL_law_L_said
set_option maxRecDepth 20000 in
theorem ggL_law_X8_kind : GoodIn wsL_law wsX8_kind := goodIn_r _ [298, 12, 299, 300, 2, 301, 302, 303, 304, 320, 321, 322, 323, 324, 325, 326, 327, 328, 329, 330, 331, 332] (by decide +kernel) (by decide +kernel)
set_option maxRecDepth 20000 in
theorem gL_law_X8_kind : GoodIn wsL_law (wsV RL 38 RX8 yX8_kind wsX8_kind) := goodIn_app (goodIn_of _ (by decide +kernel)) ggL_law_X8_kind
