set_option maxRecDepth 20000 in
theorem ggL_law_X5_init : GoodIn wsL_law wsX5_init := goodIn_r _ [6, 7, 8, 9, 10, 11, 12, 13, 14, 15, 16, 17, 18, 19, 20, 21, 22, 23, 24, 25, 26, 27, 28, 29, 30, 31, 3, 32, 33, 34, 35, 36, 37, 38, 39, 40, 41, 42, 43, 44, 45, 46, 47, 48, 49, 50, 51, 52, 53, 54, 55, 56, 57, 58, 59, 60, 412, 413, 414, 415, 416, 406, 407, 408, 409, 410, 411, 417, 418, 419, 420, 421, 422, 423, 424, 425, 426, 427] (by decide +kernel) (by decide +kernel)
set_option maxRecDepth 20000 in
theorem gL_law_X5_init : GoodIn wsL_law (wsX5_init) := ggL_law_X5_init
set_option maxRecDepth 20000 in
theorem ggL_law_L_cell : GoodIn wsL_law wsL_cell := goodIn_r _ [64, 65, 66] (by decide +kernel) (by decide +kernel)
set_option maxRecDepth 20000 in
theorem gL_law_L_cell : GoodIn wsL_law (va_wsS RL 10 yL_cell wsL_cell) := goodIn_app (goodIn_of _ (by decide +kernel)) ggL_law_L_cell
set_option maxRecDepth 20000 in
theorem ggL_law_L_low : GoodIn wsL_law wsL_low := goodIn_r _ [69, 70] (by decide +kernel) (by decide +kernel)
set_option maxRecDepth 20000 in
theorem gL_law_L_low : GoodIn wsL_law (va_wsS RL 16 yL_low wsL_low) := goodIn_app (goodIn_of _ (by decide +kernel)) ggL_law_L_low
set_option maxRecDepth 20000 in
theorem ggL_law_L_deal : GoodIn wsL_law wsL_deal := goodIn_r _ [73, 3, 61, 62, 63, 64, 65, 66, 67, 68, 69, 70] (by decide +kernel) (by decide +kernel)
set_option maxRecDepth 20000 in
theorem gL_law_L_deal : GoodIn wsL_law (va_wsS RL 72 yL_deal wsL_deal) := goodIn_app (goodIn_of _ (by decide +kernel)) ggL_law_L_deal
set_option maxRecDepth 20000 in
theorem ggL_law_X5_begin : GoodIn wsL_law wsX5_begin := goodIn_r _ [77, 13, 22, 17, 78, 79, 80, 21, 81, 82, 55, 83, 84, 85, 86, 87, 88, 89, 12, 90, 31, 91, 32, 92, 93, 94, 95, 33, 34, 96, 97, 98, 99, 100, 101, 102, 16, 103, 41, 42, 104, 105, 106, 40, 107, 46, 49, 108, 109, 110, 111, 112, 113, 114, 115, 116, 117, 118, 119, 120, 121, 122, 123, 124, 125, 126, 127, 128, 47, 48, 129, 2, 130, 131, 132, 133, 134, 135, 136, 137, 138, 139, 140, 141, 142, 143, 144, 145, 146, 147, 148, 149, 150, 151, 152, 153, 154, 155, 156, 157, 158, 159, 160, 161, 162, 163, 164, 165, 166, 167, 168, 169, 170, 171, 172, 173, 174, 175, 176, 177, 178, 179, 180, 181, 182, 183, 184, 185, 186, 187, 188, 189, 190, 191, 192, 193, 194, 406, 407, 408, 409, 410, 411, 412, 413, 414, 415, 416, 420, 421, 417, 418, 419, 424, 425, 426, 427] (by decide +kernel) (by decide +kernel)
set_option maxRecDepth 20000 in
theorem gL_law_X5_begin : GoodIn wsL_law (wsV RL 76 RX5 yX5_begin wsX5_begin) := goodIn_app (goodIn_of _ (by decide +kernel)) ggL_law_X5_begin
set_option maxRecDepth 20000 in
theorem ggL_law_X5_count : GoodIn wsL_law wsX5_count := goodIn_r _ [198, 13, 17, 27, 22, 199, 200, 201, 40, 202, 46, 203, 177, 178, 179, 180, 181, 182, 204, 205, 206, 2, 207, 208, 140, 141, 12, 142, 31, 209, 210, 211, 16, 212, 147, 41, 42, 135, 136, 137, 138, 213, 214, 215, 216, 217, 218, 219, 220, 221, 139, 222, 223, 224, 225, 152, 153, 154, 155, 156, 157, 158, 159, 160, 161, 162, 163, 164, 165, 166, 167, 168, 169, 170, 171, 172, 173, 174, 175, 176, 226, 227, 228, 229, 187, 188, 189, 190, 230, 231, 232, 233, 234, 235, 406, 407, 408, 409, 410, 411, 412, 413, 414, 415, 416, 417, 418, 419, 422, 423, 420, 421, 424, 425, 426, 427] (by decide +kernel) (by decide +kernel)
set_option maxRecDepth 20000 in
theorem gL_law_X5_count : GoodIn wsL_law (wsV RL 40 RX5 yX5_count wsX5_count) := goodIn_app (goodIn_of _ (by decide +kernel)) ggL_law_X5_count
set_option maxRecDepth 20000 in
theorem ggL_law_L_isTrue : GoodIn wsL_law wsL_isTrue := goodIn_r _ [238, 239, 240, 241, 63, 242, 243, 244, 245, 246, 247, 248, 2, 249, 13, 17, 208, 140, 141, 12, 142, 31, 250, 170, 171, 172, 173, 174, 161, 175, 234, 136, 137, 40, 138, 46, 209, 210, 211, 16, 212, 147, 41, 42, 135, 251, 252, 253, 254, 255, 256, 257, 235, 167, 168, 258, 259, 260, 213, 177, 178, 179, 180, 181, 182, 195, 196, 197, 198, 27, 22, 199, 200, 201, 202, 203, 204, 205, 206, 207, 214, 215, 216, 217, 218, 219, 220, 221, 139, 222, 223, 224, 225, 152, 153, 154, 155, 156, 157, 158, 159, 160, 162, 163, 164, 165, 166, 169, 176, 226, 227, 228, 229, 187, 188, 189, 190, 230, 231, 232, 233, 406, 407, 408, 409, 410, 411, 417, 418, 419, 412, 413, 414, 415, 416, 424, 425, 426, 427, 422, 423, 420, 421] (by decide +kernel) (by decide +kernel)
set_option maxRecDepth 20000 in
theorem gL_law_L_isTrue : GoodIn wsL_law (va_wsS RL 79 yL_isTrue wsL_isTrue) := goodIn_app (goodIn_of _ (by decide +kernel)) ggL_law_L_isTrue
set_option maxRecDepth 20000 in
theorem ggL_law_X5_deeper : GoodIn wsL_law wsX5_deeper := goodIn_r _ [264, 13, 17, 208, 140, 141, 12, 142, 31, 209, 210, 211, 16, 212, 147, 41, 42, 135, 136, 137, 40, 138, 46, 265, 129, 2, 130, 266, 267, 268, 269, 18, 270, 271, 272, 273, 274, 275, 276, 277, 278, 93, 94, 95, 49, 279, 280, 281, 282, 283, 113, 114, 115, 116, 117, 118, 119, 120, 121, 122, 123, 124, 125, 126, 127, 128, 47, 48, 131, 132, 133, 134, 139, 143, 144, 145, 146, 148, 149, 150, 151, 152, 153, 154, 155, 156, 157, 158, 159, 160, 161, 162, 163, 164, 165, 166, 167, 168, 169, 170, 171, 172, 173, 174, 175, 176, 177, 178, 179, 180, 181, 182, 183, 184, 185, 186, 187, 188, 189, 190, 191, 192, 193, 194, 214, 215, 216, 217, 218, 219, 220, 221, 222, 223, 224, 225, 226, 227, 228, 229, 284, 285, 286, 287, 406, 407, 408, 409, 410, 411, 412, 413, 414, 415, 416, 417, 418, 419, 424, 425, 426, 427] (by decide +kernel) (by decide +kernel)
set_option maxRecDepth 20000 in
theorem gL_law_X5_deeper : GoodIn wsL_law (wsV RL 83 RX5 yX5_deeper wsX5_deeper) := goodIn_app (goodIn_of _ (by decide +kernel)) ggL_law_X5_deeper
