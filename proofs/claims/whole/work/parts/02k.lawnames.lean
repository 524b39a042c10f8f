set_option maxRecDepth 20000 in
theorem ggL_law_X6_init : GoodIn wsL_law wsX6_init := goodIn_r _ [8, 9, 10, 11, 12, 13, 14, 15, 16, 17, 18, 19, 20, 21, 22, 23, 24, 25, 26, 27, 28, 29, 30, 31, 32, 33, 34, 35, 36, 37, 38, 39, 40, 41, 42, 43, 44, 45, 46, 47, 48, 49, 50, 51, 52, 53, 54, 55, 56, 57, 58, 59, 60, 61, 62, 63, 64, 65, 66, 67, 68, 69, 70, 71, 72, 73, 74, 75, 76, 77, 78, 79, 80, 81, 82, 83, 84, 85, 86, 87, 88, 89, 90, 91, 92, 93, 94, 95, 96, 97, 98, 99, 100, 101, 102, 103, 104, 105, 106, 107, 108, 109, 110, 111, 112, 113, 114, 115, 116, 117, 118, 119, 120, 121, 122, 123, 124, 125, 126, 127, 128, 129, 130, 131, 132, 133, 134, 2, 135, 136, 137, 138, 139, 140, 141, 142, 143, 144, 145, 146, 147, 148, 149, 150, 151, 152, 153, 154, 155, 156, 157, 158, 159, 160, 161, 162, 163, 164, 165, 166, 167, 168, 169, 170, 171, 172, 173, 174, 175, 176, 177, 178, 179, 180, 181, 182, 183, 184, 185, 186, 187, 188, 189, 190, 191, 192, 193, 194, 195, 196, 197, 198, 199, 200, 201, 202, 203, 204, 205, 206, 207, 208, 209, 210, 211, 212, 213, 214, 215, 216, 217, 218, 219, 220, 221, 222, 223, 224, 225, 226, 227, 228, 229, 230, 231, 232, 233, 234, 235, 236, 237, 238, 239, 240, 241, 242, 243, 244, 245, 246, 247, 248, 249, 250, 251, 252, 253, 254, 255, 256, 257, 258, 259, 260, 261, 262, 263, 264, 265, 266, 267, 268, 269, 270, 271, 272, 273, 274, 275, 276, 277, 278, 279, 280, 281, 282, 283, 284, 285, 286, 287, 288, 289, 290, 291, 292, 293, 294, 295, 296, 297, 818, 819, 792, 793, 794, 795, 796, 797, 798, 820, 821, 822, 823, 824, 825, 826, 827, 828, 829, 830, 831, 832, 833, 834, 835, 836, 837, 838, 839, 840, 841, 842, 843] (by decide +kernel) (by decide +kernel)
set_option maxRecDepth 20000 in
theorem gL_law_X6_init : GoodIn wsL_law (wsX6_init) := ggL_law_X6_init
set_option maxRecDepth 20000 in
theorem ggL_law_X7_init : GoodIn wsL_law wsX7_init := goodIn_r _ [300, 301, 10, 11, 45, 302, 303, 304, 305, 306, 307, 308, 309, 310, 311, 312, 313, 314, 315, 5, 316, 317, 318, 319, 320, 321, 322, 323, 324, 325, 326, 327, 328, 329, 330, 331, 332, 333, 334, 335, 336, 337, 338, 339, 340, 799, 800, 801, 802, 803, 804, 805, 806, 807, 808, 809, 810, 811, 812, 813, 814, 815, 816, 817] (by decide +kernel) (by decide +kernel)
set_option maxRecDepth 20000 in
theorem gL_law_X7_init : GoodIn wsL_law (wsX7_init) := ggL_law_X7_init
set_option maxRecDepth 20000 in
theorem ggL_law_X6_append : GoodIn wsL_law wsX6_append := goodIn_r _ [344, 15, 345, 129, 130, 14, 131, 127, 123, 124, 125, 126, 41, 128, 210, 151, 152, 153, 792, 793, 794, 795, 796, 797, 798, 818, 819] (by decide +kernel) (by decide +kernel)
set_option maxRecDepth 20000 in
theorem gL_law_X6_append : GoodIn wsL_law (wsV RL 13 RX6 yX6_append wsX6_append) := goodIn_app (goodIn_of _ (by decide +kernel)) ggL_law_X6_append
set_option maxRecDepth 20000 in
theorem ggL_law_X7_append : GoodIn wsL_law wsX7_append := goodIn_r _ [349, 350, 302, 351, 352, 5, 353, 799, 800, 801, 802, 803, 804, 805, 806, 807, 808, 809, 810, 811, 812, 813, 814, 815, 816, 817] (by decide +kernel) (by decide +kernel)
set_option maxRecDepth 20000 in
theorem gL_law_X7_append : GoodIn wsL_law (wsV RL 17 RX7 yX7_append wsX7_append) := goodIn_app (goodIn_of _ (by decide +kernel)) ggL_law_X7_append
set_option maxRecDepth 20000 in
theorem ggL_law_X6_clearText : GoodIn wsL_law wsX6_clearText := goodIn_r _ [357, 15, 210, 151, 152, 14, 153, 127, 294, 295, 296, 297, 792, 793, 794, 795, 796, 797, 798, 818, 819] (by decide +kernel) (by decide +kernel)
set_option maxRecDepth 20000 in
theorem gL_law_X6_clearText : GoodIn wsL_law (wsV RL 18 RX6 yX6_clearText wsX6_clearText) := goodIn_app (goodIn_of _ (by decide +kernel)) ggL_law_X6_clearText
set_option maxRecDepth 20000 in
theorem ggL_law_X7_clearText : GoodIn wsL_law wsX7_clearText := goodIn_r _ [361, 350, 799, 800, 801, 802, 803, 804, 805, 806, 807, 808, 809, 810, 811, 812, 813, 814, 815, 816, 817] (by decide +kernel) (by decide +kernel)
set_option maxRecDepth 20000 in
theorem gL_law_X7_clearText : GoodIn wsL_law (wsV RL 22 RX7 yX7_clearText wsX7_clearText) := goodIn_app (goodIn_of _ (by decide +kernel)) ggL_law_X7_clearText
set_option maxRecDepth 20000 in
theorem ggL_law_X6_firstError : GoodIn wsL_law wsX6_firstError := goodIn_r _ [365, 19, 15, 36, 136, 137, 138, 18, 139, 140, 141, 142, 143, 144, 145, 146, 34, 147, 148, 149, 73, 150, 151, 152, 14, 153, 127, 154, 155, 156, 157, 158, 159, 160, 161, 41, 162, 163, 164, 165, 46, 166, 167, 168, 169, 170, 171, 172, 173, 174, 175, 176, 177, 178, 179, 180, 181, 182, 183, 184, 185, 186, 187, 188, 189, 190, 191, 192, 193, 68, 69, 70, 72, 194, 195, 196, 197, 198, 199, 200, 201, 202, 203, 204, 2, 205, 206, 207, 208, 209, 366, 367, 368, 369, 792, 793, 794, 795, 796, 797, 798, 820, 821, 822, 823, 824, 837, 838, 839, 840, 841, 842, 843, 818, 819] (by decide +kernel) (by decide +kernel)
set_option maxRecDepth 20000 in
theorem gL_law_X6_firstError : GoodIn wsL_law (wsV RL 23 RX6 yX6_firstError wsX6_firstError) := goodIn_app (goodIn_of _ (by decide +kernel)) ggL_law_X6_firstError
set_option maxRecDepth 20000 in
theorem ggL_law_X7_firstError : GoodIn wsL_law wsX7_firstError := goodIn_r _ [373, 374, 375, 376, 5, 377, 312, 317, 378, 379, 380, 350, 381, 382, 383, 384, 302, 310, 385, 386, 387, 388, 389, 390, 391, 392, 351, 352, 353, 393, 394, 395, 396, 334, 335, 336, 313, 314, 315, 316, 307, 308, 309, 799, 800, 801, 802, 803, 804, 805, 806, 807, 808, 809, 810, 811, 812, 813, 814, 815, 816, 817] (by decide +kernel) (by decide +kernel)
set_option maxRecDepth 20000 in
theorem gL_law_X7_firstError : GoodIn wsL_law (wsV RL 26 RX7 yX7_firstError wsX7_firstError) := goodIn_app (goodIn_of _ (by decide +kernel)) ggL_law_X7_firstError
set_option maxRecDepth 20000 in
theorem ggL_law_X6_errorReason : GoodIn wsL_law wsX6_errorReason := goodIn_r _ [400, 19, 15, 36, 136, 137, 138, 18, 139, 140, 141, 142, 143, 144, 145, 146, 34, 147, 148, 149, 73, 150, 151, 152, 14, 153, 127, 154, 155, 156, 157, 158, 159, 160, 161, 41, 162, 163, 164, 165, 46, 166, 167, 168, 169, 170, 171, 172, 173, 174, 175, 176, 177, 178, 179, 180, 181, 182, 183, 184, 185, 186, 187, 188, 189, 190, 191, 192, 193, 68, 69, 70, 72, 194, 195, 196, 197, 198, 199, 200, 201, 202, 203, 204, 2, 205, 206, 207, 208, 209, 792, 793, 794, 795, 796, 797, 798, 820, 821, 822, 823, 824, 837, 838, 839, 840, 841, 842, 843, 818, 819] (by decide +kernel) (by decide +kernel)
set_option maxRecDepth 20000 in
theorem gL_law_X6_errorReason : GoodIn wsL_law (wsV RL 27 RX6 yX6_errorReason wsX6_errorReason) := goodIn_app (goodIn_of _ (by decide +kernel)) ggL_law_X6_errorReason
set_option maxRecDepth 20000 in
theorem ggL_law_X7_errorReason : GoodIn wsL_law wsX7_errorReason := goodIn_r _ [404, 379, 374, 375, 376, 5, 377, 312, 317, 378, 380, 350, 381, 382, 383, 384, 302, 310, 385, 386, 387, 388, 389, 390, 391, 392, 351, 352, 353, 393, 394, 395, 396, 334, 335, 336, 313, 314, 315, 316, 307, 308, 309, 799, 800, 801, 802, 803, 804, 805, 806, 807, 808, 809, 810, 811, 812, 813, 814, 815, 816, 817] (by decide +kernel) (by decide +kernel)
set_option maxRecDepth 20000 in
theorem gL_law_X7_errorReason : GoodIn wsL_law (wsV RL 30 RX7 yX7_errorReason wsX7_errorReason) := goodIn_app (goodIn_of _ (by decide +kernel)) ggL_law_X7_errorReason
set_option maxRecDepth 20000 in
theorem ggL_law_X6_configure : GoodIn wsL_law wsX6_configure := goodIn_r _ [135, 19, 15, 36, 23, 35, 27, 31, 136, 137, 138, 18, 139, 140, 141, 142, 143, 144, 145, 146, 34, 147, 148, 149, 73, 150, 151, 152, 14, 153, 127, 154, 155, 156, 157, 158, 159, 160, 161, 41, 162, 163, 164, 165, 46, 166, 167, 168, 169, 170, 171, 172, 173, 174, 175, 176, 177, 178, 179, 180, 181, 182, 183, 184, 185, 186, 187, 188, 189, 190, 191, 192, 193, 68, 69, 70, 72, 194, 195, 196, 197, 198, 199, 200, 201, 202, 203, 204, 2, 205, 206, 207, 208, 209, 210, 211, 212, 213, 214, 215, 216, 217, 218, 219, 220, 221, 222, 223, 224, 225, 226, 227, 228, 229, 230, 231, 232, 233, 234, 235, 236, 237, 238, 239, 240, 241, 242, 22, 243, 50, 244, 245, 246, 247, 248, 249, 250, 251, 252, 253, 254, 255, 256, 257, 258, 259, 260, 261, 262, 263, 264, 265, 266, 267, 268, 269, 270, 271, 51, 272, 273, 274, 275, 276, 277, 278, 26, 279, 280, 281, 282, 283, 284, 285, 55, 56, 286, 287, 288, 289, 290, 30, 291, 292, 293, 792, 793, 794, 795, 796, 797, 798, 820, 821, 822, 823, 824, 837, 838, 839, 840, 841, 842, 843, 818, 819, 825, 826, 827, 828, 829, 830, 831, 832, 833, 834, 835, 836] (by decide +kernel) (by decide +kernel)
set_option maxRecDepth 20000 in
theorem gL_law_X6_configure : GoodIn wsL_law (wsV RL 31 RX6 yX6_configure wsX6_configure) := goodIn_app (goodIn_of _ (by decide +kernel)) ggL_law_X6_configure
set_option maxRecDepth 20000 in
theorem ggL_law_X7_configure : GoodIn wsL_law wsX7_configure := goodIn_r _ [409, 350, 323, 374, 375, 376, 5, 377, 312, 317, 378, 379, 380, 381, 382, 383, 384, 302, 310, 385, 386, 387, 388, 389, 390, 391, 392, 351, 352, 353, 393, 394, 395, 396, 334, 335, 336, 313, 314, 315, 316, 307, 308, 309, 410, 411, 412, 413, 318, 319, 320, 321, 322, 303, 304, 305, 324, 325, 326, 327, 328, 329, 330, 331, 332, 333, 337, 338, 339, 340, 799, 800, 801, 802, 803, 804, 805, 806, 807, 808, 809, 810, 811, 812, 813, 814, 815, 816, 817] (by decide +kernel) (by decide +kernel)
set_option maxRecDepth 20000 in
theorem gL_law_X7_configure : GoodIn wsL_law (wsV RL 34 RX7 yX7_configure wsX7_configure) := goodIn_app (goodIn_of _ (by decide +kernel)) ggL_law_X7_configure
set_option maxRecDepth 20000 in
theorem ggL_law_X6_setWeight : GoodIn wsL_law wsX6_setWeight := goodIn_r _ [417, 35, 31, 23, 27, 418, 229, 230, 34, 231, 149, 419, 420, 421, 30, 422, 423, 62, 64, 292, 424, 425, 426, 427, 428, 429, 430, 22, 431, 50, 51, 252, 432, 433, 434, 26, 435, 55, 56, 281, 286, 287, 436, 262, 263, 264, 437, 438, 439, 440, 441, 249, 250, 251, 253, 254, 255, 256, 257, 258, 259, 260, 204, 2, 205, 261, 265, 225, 226, 227, 68, 228, 266, 217, 218, 219, 148, 215, 183, 184, 185, 220, 221, 222, 223, 224, 232, 233, 234, 235, 69, 267, 268, 269, 270, 271, 272, 273, 274, 275, 442, 283, 284, 285, 792, 793, 794, 795, 796, 797, 798, 837, 838, 839, 840, 841, 842, 843, 833, 834, 835, 836, 825, 826, 827, 828, 829, 830, 831, 832] (by decide +kernel) (by decide +kernel)
set_option maxRecDepth 20000 in
theorem gL_law_X6_setWeight : GoodIn wsL_law (wsV RL 35 RX6 yX6_setWeight wsX6_setWeight) := goodIn_app (goodIn_of _ (by decide +kernel)) ggL_law_X6_setWeight
set_option maxRecDepth 20000 in
theorem ggL_law_X7_setWeight : GoodIn wsL_law wsX7_setWeight := goodIn_r _ [446, 305, 447, 448, 449, 5, 450, 323, 351, 352, 353, 451, 452, 453, 454, 325, 306, 326, 327, 328, 329, 303, 304, 330, 331, 332, 333, 322, 334, 335, 336, 337, 338, 339, 340, 799, 800, 801, 802, 803, 804, 805, 806, 807, 808, 809, 810, 811, 812, 813, 814, 815, 816, 817] (by decide +kernel) (by decide +kernel)
set_option maxRecDepth 20000 in
theorem gL_law_X7_setWeight : GoodIn wsL_law (wsV RL 39 RX7 yX7_setWeight wsX7_setWeight) := goodIn_app (goodIn_of _ (by decide +kernel)) ggL_law_X7_setWeight
set_option maxRecDepth 20000 in
theorem ggL_law_X6_setCounterLimit : GoodIn wsL_law wsX6_setCounterLimit := goodIn_r _ [458, 459, 31, 23, 27, 419, 420, 421, 30, 422, 423, 62, 64, 292, 424, 425, 426, 427, 428, 429, 430, 22, 431, 50, 51, 252, 432, 433, 434, 26, 435, 55, 56, 281, 286, 287, 460, 461, 462, 463, 464, 465, 466, 467, 442, 283, 284, 285, 792, 793, 794, 795, 796, 797, 798, 833, 834, 835, 836, 825, 826, 827, 828, 829, 830, 831, 832] (by decide +kernel) (by decide +kernel)
set_option maxRecDepth 20000 in
theorem gL_law_X6_setCounterLimit : GoodIn wsL_law (wsV RL 40 RX6 yX6_setCounterLimit wsX6_setCounterLimit) := goodIn_app (goodIn_of _ (by decide +kernel)) ggL_law_X6_setCounterLimit
set_option maxRecDepth 20000 in
theorem ggL_law_X7_setCounterLimit : GoodIn wsL_law wsX7_setCounterLimit := goodIn_r _ [471, 324, 305, 351, 352, 5, 353, 451, 452, 453, 454, 325, 306, 337, 338, 339, 340, 799, 800, 801, 802, 803, 804, 805, 806, 807, 808, 809, 810, 811, 812, 813, 814, 815, 816, 817] (by decide +kernel) (by decide +kernel)
set_option maxRecDepth 20000 in
theorem gL_law_X7_setCounterLimit : GoodIn wsL_law (wsV RL 43 RX7 yX7_setCounterLimit wsX7_setCounterLimit) := goodIn_app (goodIn_of _ (by decide +kernel)) ggL_law_X7_setCounterLimit
set_option maxRecDepth 20000 in
theorem ggL_law_X6_follow : GoodIn wsL_law wsX6_follow := goodIn_r _ [475, 35, 27, 31, 23, 418, 229, 230, 34, 231, 149, 476, 225, 226, 227, 68, 228, 477, 478, 479, 26, 480, 286, 419, 420, 421, 30, 422, 423, 62, 64, 292, 424, 425, 426, 427, 428, 429, 430, 22, 431, 50, 51, 252, 432, 433, 434, 435, 55, 56, 281, 287, 481, 482, 483, 484, 485, 486, 273, 274, 275, 204, 2, 205, 487, 488, 489, 490, 491, 492, 493, 494, 495, 233, 234, 235, 69, 496, 183, 184, 185, 148, 792, 793, 794, 795, 796, 797, 798, 837, 838, 839, 840, 841, 842, 843, 828, 829, 830, 831, 832, 833, 834, 835, 836, 825, 826, 827] (by decide +kernel) (by decide +kernel)
set_option maxRecDepth 20000 in
theorem gL_law_X6_follow : GoodIn wsL_law (wsV RL 44 RX6 yX6_follow wsX6_follow) := goodIn_app (goodIn_of _ (by decide +kernel)) ggL_law_X6_follow
set_option maxRecDepth 20000 in
theorem ggL_law_X7_follow : GoodIn wsL_law wsX7_follow := goodIn_r _ [500, 303, 305, 447, 448, 449, 5, 450, 323, 351, 352, 353, 451, 452, 453, 454, 325, 306, 501, 502, 503, 504, 304, 322, 505, 506, 507, 508, 799, 800, 801, 802, 803, 804, 805, 806, 807, 808, 809, 810, 811, 812, 813, 814, 815, 816, 817] (by decide +kernel) (by decide +kernel)
set_option maxRecDepth 20000 in
theorem gL_law_X7_follow : GoodIn wsL_law (wsV RL 47 RX7 yX7_follow wsX7_follow) := goodIn_app (goodIn_of _ (by decide +kernel)) ggL_law_X7_follow
set_option maxRecDepth 20000 in
theorem ggL_law_X6_drive : GoodIn wsL_law wsX6_drive := goodIn_r _ [512, 31, 23, 27, 35, 419, 420, 421, 30, 422, 423, 62, 64, 292, 424, 425, 426, 427, 428, 429, 430, 22, 431, 50, 51, 252, 432, 433, 434, 26, 435, 55, 56, 281, 286, 287, 513, 514, 515, 516, 517, 518, 519, 2, 520, 521, 522, 523, 477, 478, 479, 480, 524, 195, 196, 34, 197, 73, 198, 179, 180, 181, 148, 525, 526, 527, 528, 72, 194, 481, 482, 483, 484, 485, 229, 230, 231, 149, 486, 273, 274, 275, 204, 205, 487, 488, 489, 490, 491, 492, 493, 494, 495, 233, 234, 235, 69, 228, 496, 183, 184, 185, 792, 793, 794, 795, 796, 797, 798, 833, 834, 835, 836, 825, 826, 827, 828, 829, 830, 831, 832, 837, 838, 839, 840, 841, 842, 843] (by decide +kernel) (by decide +kernel)
set_option maxRecDepth 20000 in
theorem gL_law_X6_drive : GoodIn wsL_law (wsV RL 48 RX6 yX6_drive wsX6_drive) := goodIn_app (goodIn_of _ (by decide +kernel)) ggL_law_X6_drive
set_option maxRecDepth 20000 in
theorem ggL_law_X7_drive : GoodIn wsL_law wsX7_drive := goodIn_r _ [532, 305, 533, 534, 535, 351, 352, 5, 353, 451, 452, 453, 454, 325, 306, 536, 537, 538, 539, 323, 303, 540, 541, 542, 543, 501, 502, 503, 504, 304, 322, 505, 506, 507, 508, 799, 800, 801, 802, 803, 804, 805, 806, 807, 808, 809, 810, 811, 812, 813, 814, 815, 816, 817] (by decide +kernel) (by decide +kernel)
set_option maxRecDepth 20000 in
theorem gL_law_X7_drive : GoodIn wsL_law (wsV RL 51 RX7 yX7_drive wsX7_drive) := goodIn_app (goodIn_of _ (by decide +kernel)) ggL_law_X7_drive
set_option maxRecDepth 20000 in
theorem ggL_law_X6_adoptCounts : GoodIn wsL_law wsX6_adoptCounts := goodIn_r _ [547, 31, 23, 27, 35, 548, 425, 426, 427, 549, 550, 551, 2, 552, 293, 254, 255, 34, 256, 149, 553, 554, 555, 556, 557, 273, 274, 22, 275, 252, 204, 205, 558, 559, 560, 561, 562, 488, 489, 26, 490, 281, 491, 492, 493, 494, 55, 563, 564, 565, 566, 476, 225, 226, 227, 68, 228, 229, 230, 231, 567, 233, 234, 235, 69, 568, 569, 570, 571, 51, 419, 420, 421, 30, 422, 423, 62, 64, 292, 424, 428, 429, 430, 431, 50, 432, 433, 434, 435, 56, 286, 287, 572, 573, 574, 575, 576, 577, 578, 579, 580, 477, 478, 479, 480, 581, 183, 184, 185, 148, 436, 262, 263, 264, 437, 438, 439, 440, 441, 249, 250, 251, 253, 257, 258, 259, 260, 261, 265, 266, 217, 218, 219, 215, 220, 221, 222, 223, 224, 232, 267, 268, 269, 270, 271, 272, 442, 283, 284, 285, 792, 793, 794, 795, 796, 797, 798, 837, 838, 839, 840, 841, 842, 843, 825, 826, 827, 828, 829, 830, 831, 832, 833, 834, 835, 836] (by decide +kernel) (by decide +kernel)
set_option maxRecDepth 20000 in
theorem gL_law_X6_adoptCounts : GoodIn wsL_law (wsV RL 52 RX6 yX6_adoptCounts wsX6_adoptCounts) := goodIn_app (goodIn_of _ (by decide +kernel)) ggL_law_X6_adoptCounts
set_option maxRecDepth 20000 in
theorem ggL_law_X7_adoptCounts : GoodIn wsL_law wsX7_adoptCounts := goodIn_r _ [585, 323, 311, 305, 586, 587, 588, 5, 589, 505, 506, 507, 508, 590, 591, 592, 593, 594, 595, 596, 597, 304, 303, 330, 331, 332, 333, 322, 598, 599, 600, 451, 452, 453, 454, 325, 306, 601, 602, 603, 604, 326, 327, 328, 329, 334, 335, 336, 337, 338, 339, 340, 799, 800, 801, 802, 803, 804, 805, 806, 807, 808, 809, 810, 811, 812, 813, 814, 815, 816, 817] (by decide +kernel) (by decide +kernel)
set_option maxRecDepth 20000 in
theorem gL_law_X7_adoptCounts : GoodIn wsL_law (wsV RL 55 RX7 yX7_adoptCounts wsX7_adoptCounts) := goodIn_app (goodIn_of _ (by decide +kernel)) ggL_law_X7_adoptCounts
set_option maxRecDepth 20000 in
theorem ggL_law_X6_undo : GoodIn wsL_law wsX6_undo := goodIn_r _ [608, 31, 23, 27, 609, 610, 611, 30, 612, 292, 613, 614, 615, 616, 62, 423, 64, 617, 428, 429, 430, 22, 431, 50, 51, 252, 432, 433, 434, 26, 435, 55, 56, 281, 286, 287, 618, 619, 620, 621, 792, 793, 794, 795, 796, 797, 798, 833, 834, 835, 836, 825, 826, 827, 828, 829, 830, 831, 832] (by decide +kernel) (by decide +kernel)
set_option maxRecDepth 20000 in
theorem gL_law_X6_undo : GoodIn wsL_law (wsV RL 56 RX6 yX6_undo wsX6_undo) := goodIn_app (goodIn_of _ (by decide +kernel)) ggL_law_X6_undo
set_option maxRecDepth 20000 in
theorem ggL_law_X7_undo : GoodIn wsL_law wsX7_undo := goodIn_r _ [625, 325, 305, 306, 799, 800, 801, 802, 803, 804, 805, 806, 807, 808, 809, 810, 811, 812, 813, 814, 815, 816, 817] (by decide +kernel) (by decide +kernel)
set_option maxRecDepth 20000 in
theorem gL_law_X7_undo : GoodIn wsL_law (wsV RL 59 RX7 yX7_undo wsX7_undo) := goodIn_app (goodIn_of _ (by decide +kernel)) ggL_law_X7_undo
set_option maxRecDepth 20000 in
theorem ggL_law_X6_blockCount : GoodIn wsL_law wsX6_blockCount := goodIn_r _ [629, 35, 630, 631, 632, 34, 633, 148, 792, 793, 794, 795, 796, 797, 798, 837, 838, 839, 840, 841, 842, 843] (by decide +kernel) (by decide +kernel)
set_option maxRecDepth 20000 in
theorem gL_law_X6_blockCount : GoodIn wsL_law (wsV RL 60 RX6 yX6_blockCount wsX6_blockCount) := goodIn_app (goodIn_of _ (by decide +kernel)) ggL_law_X6_blockCount
set_option maxRecDepth 20000 in
theorem ggL_law_X7_blockCount : GoodIn wsL_law wsX7_blockCount := goodIn_r _ [637, 322, 799, 800, 801, 802, 803, 804, 805, 806, 807, 808, 809, 810, 811, 812, 813, 814, 815, 816, 817] (by decide +kernel) (by decide +kernel)
set_option maxRecDepth 20000 in
theorem gL_law_X7_blockCount : GoodIn wsL_law (wsV RL 63 RX7 yX7_blockCount wsX7_blockCount) := goodIn_app (goodIn_of _ (by decide +kernel)) ggL_law_X7_blockCount
set_option maxRecDepth 20000 in
theorem ggL_law_X6_sourceOf : GoodIn wsL_law wsX6_sourceOf := goodIn_r _ [641, 35, 418, 229, 230, 34, 231, 149, 476, 225, 226, 227, 68, 228, 792, 793, 794, 795, 796, 797, 798, 837, 838, 839, 840, 841, 842, 843] (by decide +kernel) (by decide +kernel)
set_option maxRecDepth 20000 in
theorem gL_law_X6_sourceOf : GoodIn wsL_law (wsV RL 64 RX6 yX6_sourceOf wsX6_sourceOf) := goodIn_app (goodIn_of _ (by decide +kernel)) ggL_law_X6_sourceOf
set_option maxRecDepth 20000 in
theorem ggL_law_X7_sourceOf : GoodIn wsL_law wsX7_sourceOf := goodIn_r _ [645, 303, 447, 448, 449, 5, 450, 323, 351, 352, 353, 799, 800, 801, 802, 803, 804, 805, 806, 807, 808, 809, 810, 811, 812, 813, 814, 815, 816, 817] (by decide +kernel) (by decide +kernel)
set_option maxRecDepth 20000 in
theorem gL_law_X7_sourceOf : GoodIn wsL_law (wsV RL 67 RX7 yX7_sourceOf wsX7_sourceOf) := goodIn_app (goodIn_of _ (by decide +kernel)) ggL_law_X7_sourceOf
set_option maxRecDepth 20000 in
theorem ggL_law_X6_targetOf : GoodIn wsL_law wsX6_targetOf := goodIn_r _ [649, 35, 418, 229, 230, 34, 231, 149, 567, 233, 234, 235, 69, 228, 792, 793, 794, 795, 796, 797, 798, 837, 838, 839, 840, 841, 842, 843] (by decide +kernel) (by decide +kernel)
set_option maxRecDepth 20000 in
theorem gL_law_X6_targetOf : GoodIn wsL_law (wsV RL 68 RX6 yX6_targetOf wsX6_targetOf) := goodIn_app (goodIn_of _ (by decide +kernel)) ggL_law_X6_targetOf
set_option maxRecDepth 20000 in
theorem ggL_law_X7_targetOf : GoodIn wsL_law wsX7_targetOf := goodIn_r _ [653, 304, 447, 448, 449, 5, 450, 323, 351, 352, 353, 799, 800, 801, 802, 803, 804, 805, 806, 807, 808, 809, 810, 811, 812, 813, 814, 815, 816, 817] (by decide +kernel) (by decide +kernel)
set_option maxRecDepth 20000 in
theorem gL_law_X7_targetOf : GoodIn wsL_law (wsV RL 71 RX7 yX7_targetOf wsX7_targetOf) := goodIn_app (goodIn_of _ (by decide +kernel)) ggL_law_X7_targetOf
set_option maxRecDepth 20000 in
theorem ggL_law_X6_weightOf : GoodIn wsL_law wsX6_weightOf := goodIn_r _ [657, 35, 23, 418, 229, 230, 34, 231, 149, 436, 262, 263, 22, 264, 50, 792, 793, 794, 795, 796, 797, 798, 837, 838, 839, 840, 841, 842, 843, 825, 826, 827] (by decide +kernel) (by decide +kernel)
set_option maxRecDepth 20000 in
theorem gL_law_X6_weightOf : GoodIn wsL_law (wsV RL 72 RX6 yX6_weightOf wsX6_weightOf) := goodIn_app (goodIn_of _ (by decide +kernel)) ggL_law_X6_weightOf
set_option maxRecDepth 20000 in
theorem ggL_law_X7_weightOf : GoodIn wsL_law wsX7_weightOf := goodIn_r _ [661, 305, 447, 448, 449, 5, 450, 323, 351, 352, 353, 799, 800, 801, 802, 803, 804, 805, 806, 807, 808, 809, 810, 811, 812, 813, 814, 815, 816, 817] (by decide +kernel) (by decide +kernel)
set_option maxRecDepth 20000 in
theorem gL_law_X7_weightOf : GoodIn wsL_law (wsV RL 75 RX7 yX7_weightOf wsX7_weightOf) := goodIn_app (goodIn_of _ (by decide +kernel)) ggL_law_X7_weightOf
set_option maxRecDepth 20000 in
theorem ggL_law_X6_hasCounter : GoodIn wsL_law wsX6_hasCounter := goodIn_r _ [665, 35, 23, 418, 229, 230, 34, 231, 149, 557, 273, 274, 22, 275, 252, 204, 2, 205, 792, 793, 794, 795, 796, 797, 798, 837, 838, 839, 840, 841, 842, 843, 825, 826, 827] (by decide +kernel) (by decide +kernel)
set_option maxRecDepth 20000 in
theorem gL_law_X6_hasCounter : GoodIn wsL_law (wsV RL 76 RX6 yX6_hasCounter wsX6_hasCounter) := goodIn_app (goodIn_of _ (by decide +kernel)) ggL_law_X6_hasCounter
set_option maxRecDepth 20000 in
theorem ggL_law_X7_hasCounter : GoodIn wsL_law wsX7_hasCounter := goodIn_r _ [669, 447, 448, 449, 5, 450, 323, 351, 352, 353, 505, 506, 507, 508, 305, 799, 800, 801, 802, 803, 804, 805, 806, 807, 808, 809, 810, 811, 812, 813, 814, 815, 816, 817] (by decide +kernel) (by decide +kernel)
set_option maxRecDepth 20000 in
theorem gL_law_X7_hasCounter : GoodIn wsL_law (wsV RL 79 RX7 yX7_hasCounter wsX7_hasCounter) := goodIn_app (goodIn_of _ (by decide +kernel)) ggL_law_X7_hasCounter
set_option maxRecDepth 20000 in
theorem ggL_law_X6_counterCount : GoodIn wsL_law wsX6_counterCount := goodIn_r _ [673, 35, 23, 293, 254, 255, 34, 256, 149, 557, 273, 274, 22, 275, 252, 204, 2, 205, 792, 793, 794, 795, 796, 797, 798, 837, 838, 839, 840, 841, 842, 843, 825, 826, 827] (by decide +kernel) (by decide +kernel)
set_option maxRecDepth 20000 in
theorem gL_law_X6_counterCount : GoodIn wsL_law (wsV RL 80 RX6 yX6_counterCount wsX6_counterCount) := goodIn_app (goodIn_of _ (by decide +kernel)) ggL_law_X6_counterCount
set_option maxRecDepth 20000 in
theorem ggL_law_X7_counterCount : GoodIn wsL_law wsX7_counterCount := goodIn_r _ [677, 323, 505, 506, 507, 5, 508, 305, 799, 800, 801, 802, 803, 804, 805, 806, 807, 808, 809, 810, 811, 812, 813, 814, 815, 816, 817] (by decide +kernel) (by decide +kernel)
set_option maxRecDepth 20000 in
theorem gL_law_X7_counterCount : GoodIn wsL_law (wsV RL 83 RX7 yX7_counterCount wsX7_counterCount) := goodIn_app (goodIn_of _ (by decide +kernel)) ggL_law_X7_counterCount
set_option maxRecDepth 20000 in
theorem ggL_law_X6_placementCost : GoodIn wsL_law wsX6_placementCost := goodIn_r _ [681, 35, 23, 293, 254, 255, 34, 256, 149, 557, 273, 274, 22, 275, 252, 204, 2, 205, 436, 262, 263, 264, 50, 792, 793, 794, 795, 796, 797, 798, 837, 838, 839, 840, 841, 842, 843, 825, 826, 827] (by decide +kernel) (by decide +kernel)
set_option maxRecDepth 20000 in
theorem gL_law_X6_placementCost : GoodIn wsL_law (wsV RL 84 RX6 yX6_placementCost wsX6_placementCost) := goodIn_app (goodIn_of _ (by decide +kernel)) ggL_law_X6_placementCost
set_option maxRecDepth 20000 in
theorem ggL_law_X7_placementCost : GoodIn wsL_law wsX7_placementCost := goodIn_r _ [685, 686, 687, 688, 5, 689, 323, 305, 505, 506, 507, 508, 799, 800, 801, 802, 803, 804, 805, 806, 807, 808, 809, 810, 811, 812, 813, 814, 815, 816, 817] (by decide +kernel) (by decide +kernel)
set_option maxRecDepth 20000 in
theorem gL_law_X7_placementCost : GoodIn wsL_law (wsV RL 87 RX7 yX7_placementCost wsX7_placementCost) := goodIn_app (goodIn_of _ (by decide +kernel)) ggL_law_X7_placementCost
set_option maxRecDepth 20000 in
theorem ggL_law_X6_costShareBits : GoodIn wsL_law wsX6_costShareBits := goodIn_r _ [693, 35, 23, 293, 254, 255, 34, 256, 149, 436, 262, 263, 22, 264, 50, 694, 679, 680, 2, 681, 557, 273, 274, 275, 252, 204, 205, 695, 696, 697, 698, 792, 793, 794, 795, 796, 797, 798, 837, 838, 839, 840, 841, 842, 843, 825, 826, 827] (by decide +kernel) (by decide +kernel)
set_option maxRecDepth 20000 in
theorem gL_law_X6_costShareBits : GoodIn wsL_law (wsV RL 88 RX6 yX6_costShareBits wsX6_costShareBits) := goodIn_app (goodIn_of _ (by decide +kernel)) ggL_law_X6_costShareBits
set_option maxRecDepth 20000 in
theorem ggL_law_X7_costShareBits : GoodIn wsL_law wsX7_costShareBits := goodIn_r _ [702, 686, 687, 688, 5, 689, 323, 305, 505, 506, 507, 508, 703, 704, 705, 706, 707, 708, 709, 710, 711, 712, 713, 714, 799, 800, 801, 802, 803, 804, 805, 806, 807, 808, 809, 810, 811, 812, 813, 814, 815, 816, 817] (by decide +kernel) (by decide +kernel)
set_option maxRecDepth 20000 in
theorem gL_law_X7_costShareBits : GoodIn wsL_law (wsV RL 91 RX7 yX7_costShareBits wsX7_costShareBits) := goodIn_app (goodIn_of _ (by decide +kernel)) ggL_law_X7_costShareBits
set_option maxRecDepth 20000 in
theorem ggL_law_X6_counter : GoodIn wsL_law wsX6_counter := goodIn_r _ [718, 35, 23, 27, 418, 229, 230, 34, 231, 149, 557, 273, 274, 22, 275, 252, 204, 2, 205, 576, 492, 493, 26, 494, 55, 792, 793, 794, 795, 796, 797, 798, 837, 838, 839, 840, 841, 842, 843, 825, 826, 827, 828, 829, 830, 831, 832] (by decide +kernel) (by decide +kernel)
set_option maxRecDepth 20000 in
theorem gL_law_X6_counter : GoodIn wsL_law (wsV RL 92 RX6 yX6_counter wsX6_counter) := goodIn_app (goodIn_of _ (by decide +kernel)) ggL_law_X6_counter
set_option maxRecDepth 20000 in
theorem ggL_law_X7_counter : GoodIn wsL_law wsX7_counter := goodIn_r _ [722, 305, 447, 448, 449, 5, 450, 323, 351, 352, 353, 505, 506, 507, 508, 799, 800, 801, 802, 803, 804, 805, 806, 807, 808, 809, 810, 811, 812, 813, 814, 815, 816, 817] (by decide +kernel) (by decide +kernel)
set_option maxRecDepth 20000 in
theorem gL_law_X7_counter : GoodIn wsL_law (wsV RL 95 RX7 yX7_counter wsX7_counter) := goodIn_app (goodIn_of _ (by decide +kernel)) ggL_law_X7_counter
set_option maxRecDepth 20000 in
theorem ggL_law_X6_trueCount : GoodIn wsL_law wsX6_trueCount := goodIn_r _ [726, 35, 27, 418, 229, 230, 34, 231, 149, 727, 728, 729, 26, 730, 56, 792, 793, 794, 795, 796, 797, 798, 837, 838, 839, 840, 841, 842, 843, 828, 829, 830, 831, 832] (by decide +kernel) (by decide +kernel)
set_option maxRecDepth 20000 in
theorem gL_law_X6_trueCount : GoodIn wsL_law (wsV RL 96 RX6 yX6_trueCount wsX6_trueCount) := goodIn_app (goodIn_of _ (by decide +kernel)) ggL_law_X6_trueCount
set_option maxRecDepth 20000 in
theorem ggL_law_X7_trueCount : GoodIn wsL_law wsX7_trueCount := goodIn_r _ [734, 305, 447, 448, 449, 5, 450, 323, 351, 352, 353, 799, 800, 801, 802, 803, 804, 805, 806, 807, 808, 809, 810, 811, 812, 813, 814, 815, 816, 817] (by decide +kernel) (by decide +kernel)
set_option maxRecDepth 20000 in
theorem gL_law_X7_trueCount : GoodIn wsL_law (wsV RL 99 RX7 yX7_trueCount wsX7_trueCount) := goodIn_app (goodIn_of _ (by decide +kernel)) ggL_law_X7_trueCount
set_option maxRecDepth 20000 in
theorem ggL_law_X6_reconstruct : GoodIn wsL_law wsX6_reconstruct := goodIn_r _ [738, 35, 418, 229, 230, 34, 231, 149, 553, 554, 555, 2, 556, 23, 557, 273, 274, 22, 275, 252, 204, 205, 558, 559, 560, 561, 27, 562, 488, 489, 26, 490, 281, 491, 492, 493, 494, 55, 293, 254, 255, 256, 563, 564, 565, 566, 476, 225, 226, 227, 68, 228, 567, 233, 234, 235, 69, 568, 569, 570, 571, 51, 572, 573, 574, 575, 576, 577, 578, 579, 580, 477, 478, 479, 480, 286, 581, 183, 184, 185, 148, 792, 793, 794, 795, 796, 797, 798, 837, 838, 839, 840, 841, 842, 843, 825, 826, 827, 828, 829, 830, 831, 832] (by decide +kernel) (by decide +kernel)
set_option maxRecDepth 20000 in
theorem gL_law_X6_reconstruct : GoodIn wsL_law (wsV RL 100 RX6 yX6_reconstruct wsX6_reconstruct) := goodIn_app (goodIn_of _ (by decide +kernel)) ggL_law_X6_reconstruct
set_option maxRecDepth 20000 in
theorem ggL_law_X7_reconstruct : GoodIn wsL_law wsX7_reconstruct := goodIn_r _ [742, 447, 448, 449, 5, 450, 323, 351, 352, 353, 586, 587, 588, 589, 505, 506, 507, 508, 305, 590, 591, 592, 593, 594, 595, 596, 597, 304, 303, 330, 331, 332, 333, 322, 598, 599, 600, 601, 602, 603, 604, 799, 800, 801, 802, 803, 804, 805, 806, 807, 808, 809, 810, 811, 812, 813, 814, 815, 816, 817] (by decide +kernel) (by decide +kernel)
set_option maxRecDepth 20000 in
theorem gL_law_X7_reconstruct : GoodIn wsL_law (wsV RL 103 RX7 yX7_reconstruct wsX7_reconstruct) := goodIn_app (goodIn_of _ (by decide +kernel)) ggL_law_X7_reconstruct
set_option maxRecDepth 20000 in
theorem ggL_law_X6_coefficient : GoodIn wsL_law wsX6_coefficient := goodIn_r _ [746, 35, 23, 418, 229, 230, 34, 231, 149, 557, 273, 274, 22, 275, 252, 204, 2, 205, 563, 564, 565, 566, 476, 225, 226, 227, 68, 228, 567, 233, 234, 235, 69, 568, 569, 570, 571, 51, 792, 793, 794, 795, 796, 797, 798, 837, 838, 839, 840, 841, 842, 843, 825, 826, 827] (by decide +kernel) (by decide +kernel)
set_option maxRecDepth 20000 in
theorem gL_law_X6_coefficient : GoodIn wsL_law (wsV RL 104 RX6 yX6_coefficient wsX6_coefficient) := goodIn_app (goodIn_of _ (by decide +kernel)) ggL_law_X6_coefficient
set_option maxRecDepth 20000 in
theorem ggL_law_X7_coefficient : GoodIn wsL_law wsX7_coefficient := goodIn_r _ [750, 447, 448, 449, 5, 450, 323, 351, 352, 353, 505, 506, 507, 508, 305, 594, 595, 596, 597, 304, 303, 330, 331, 332, 333, 322, 598, 599, 600, 799, 800, 801, 802, 803, 804, 805, 806, 807, 808, 809, 810, 811, 812, 813, 814, 815, 816, 817] (by decide +kernel) (by decide +kernel)
set_option maxRecDepth 20000 in
theorem gL_law_X7_coefficient : GoodIn wsL_law (wsV RL 107 RX7 yX7_coefficient wsX7_coefficient) := goodIn_app (goodIn_of _ (by decide +kernel)) ggL_law_X7_coefficient
set_option maxRecDepth 20000 in
theorem ggL_law_X6_executions : GoodIn wsL_law wsX6_executions := goodIn_r _ [754, 35, 27, 755, 179, 180, 34, 181, 148, 513, 514, 515, 26, 516, 287, 477, 478, 479, 480, 286, 293, 254, 255, 256, 149, 567, 233, 234, 235, 69, 228, 229, 230, 231, 553, 554, 555, 2, 556, 23, 557, 273, 274, 22, 275, 252, 204, 205, 558, 559, 560, 561, 562, 488, 489, 490, 281, 491, 492, 493, 494, 55, 563, 564, 565, 566, 476, 225, 226, 227, 68, 568, 569, 570, 571, 51, 572, 573, 574, 575, 576, 577, 578, 579, 580, 581, 183, 184, 185, 792, 793, 794, 795, 796, 797, 798, 837, 838, 839, 840, 841, 842, 843, 828, 829, 830, 831, 832, 825, 826, 827] (by decide +kernel) (by decide +kernel)
set_option maxRecDepth 20000 in
theorem gL_law_X6_executions : GoodIn wsL_law (wsV RL 108 RX6 yX6_executions wsX6_executions) := goodIn_app (goodIn_of _ (by decide +kernel)) ggL_law_X6_executions
set_option maxRecDepth 20000 in
theorem ggL_law_X7_executions : GoodIn wsL_law wsX7_executions := goodIn_r _ [759, 322, 305, 323, 304, 351, 352, 5, 353, 586, 587, 588, 589, 505, 506, 507, 508, 590, 591, 592, 593, 594, 595, 596, 597, 303, 330, 331, 332, 333, 598, 599, 600, 601, 602, 603, 604, 799, 800, 801, 802, 803, 804, 805, 806, 807, 808, 809, 810, 811, 812, 813, 814, 815, 816, 817] (by decide +kernel) (by decide +kernel)
set_option maxRecDepth 20000 in
theorem gL_law_X7_executions : GoodIn wsL_law (wsV RL 111 RX7 yX7_executions wsX7_executions) := goodIn_app (goodIn_of _ (by decide +kernel)) ggL_law_X7_executions
set_option maxRecDepth 20000 in
theorem ggL_law_X6_dependents : GoodIn wsL_law wsX6_dependents := goodIn_r _ [763, 35, 23, 418, 229, 230, 34, 231, 149, 557, 273, 274, 22, 275, 252, 204, 2, 205, 293, 254, 255, 256, 563, 564, 565, 566, 476, 225, 226, 227, 68, 228, 567, 233, 234, 235, 69, 568, 569, 570, 571, 51, 792, 793, 794, 795, 796, 797, 798, 837, 838, 839, 840, 841, 842, 843, 825, 826, 827] (by decide +kernel) (by decide +kernel)
set_option maxRecDepth 20000 in
theorem gL_law_X6_dependents : GoodIn wsL_law (wsV RL 112 RX6 yX6_dependents wsX6_dependents) := goodIn_app (goodIn_of _ (by decide +kernel)) ggL_law_X6_dependents
set_option maxRecDepth 20000 in
theorem ggL_law_X7_dependents : GoodIn wsL_law wsX7_dependents := goodIn_r _ [767, 323, 447, 448, 449, 5, 450, 351, 352, 353, 505, 506, 507, 508, 305, 594, 595, 596, 597, 304, 303, 330, 331, 332, 333, 322, 598, 599, 600, 799, 800, 801, 802, 803, 804, 805, 806, 807, 808, 809, 810, 811, 812, 813, 814, 815, 816, 817] (by decide +kernel) (by decide +kernel)
set_option maxRecDepth 20000 in
theorem gL_law_X7_dependents : GoodIn wsL_law (wsV RL 115 RX7 yX7_dependents wsX7_dependents) := goodIn_app (goodIn_of _ (by decide +kernel)) ggL_law_X7_dependents
set_option maxRecDepth 20000 in
theorem ggL_law_X6_saturatedCount : GoodIn wsL_law wsX6_saturatedCount := goodIn_r _ [771, 35, 293, 254, 255, 34, 256, 149, 558, 559, 560, 2, 561, 23, 27, 557, 273, 274, 22, 275, 252, 204, 205, 562, 488, 489, 26, 490, 281, 491, 492, 493, 494, 55, 792, 793, 794, 795, 796, 797, 798, 837, 838, 839, 840, 841, 842, 843, 825, 826, 827, 828, 829, 830, 831, 832] (by decide +kernel) (by decide +kernel)
set_option maxRecDepth 20000 in
theorem gL_law_X6_saturatedCount : GoodIn wsL_law (wsV RL 116 RX6 yX6_saturatedCount wsX6_saturatedCount) := goodIn_app (goodIn_of _ (by decide +kernel)) ggL_law_X6_saturatedCount
set_option maxRecDepth 20000 in
theorem ggL_law_X7_saturatedCount : GoodIn wsL_law wsX7_saturatedCount := goodIn_r _ [775, 323, 590, 591, 592, 5, 593, 305, 505, 506, 507, 508, 799, 800, 801, 802, 803, 804, 805, 806, 807, 808, 809, 810, 811, 812, 813, 814, 815, 816, 817] (by decide +kernel) (by decide +kernel)
set_option maxRecDepth 20000 in
theorem gL_law_X7_saturatedCount : GoodIn wsL_law (wsV RL 119 RX7 yX7_saturatedCount wsX7_saturatedCount) := goodIn_app (goodIn_of _ (by decide +kernel)) ggL_law_X7_saturatedCount
set_option maxRecDepth 20000 in
theorem ggL_law_X6_presentBlock : GoodIn wsL_law wsX6_presentBlock := goodIn_r _ [779, 27, 477, 478, 479, 26, 480, 286, 792, 793, 794, 795, 796, 797, 798, 828, 829, 830, 831, 832] (by decide +kernel) (by decide +kernel)
set_option maxRecDepth 20000 in
theorem gL_law_X6_presentBlock : GoodIn wsL_law (wsV RL 120 RX6 yX6_presentBlock wsX6_presentBlock) := goodIn_app (goodIn_of _ (by decide +kernel)) ggL_law_X6_presentBlock
set_option maxRecDepth 20000 in
theorem ggL_law_X7_presentBlock : GoodIn wsL_law wsX7_presentBlock := goodIn_r _ [783, 305, 799, 800, 801, 802, 803, 804, 805, 806, 807, 808, 809, 810, 811, 812, 813, 814, 815, 816, 817] (by decide +kernel) (by decide +kernel)
set_option maxRecDepth 20000 in
theorem gL_law_X7_presentBlock : GoodIn wsL_law (wsV RL 123 RX7 yX7_presentBlock wsX7_presentBlock) := goodIn_app (goodIn_of _ (by decide +kernel)) ggL_law_X7_presentBlock
set_option maxRecDepth 20000 in
theorem ggL_law_X6_finishedRuns : GoodIn wsL_law wsX6_finishedRuns := goodIn_r _ [787, 27, 513, 514, 515, 26, 516, 287, 792, 793, 794, 795, 796, 797, 798, 828, 829, 830, 831, 832] (by decide +kernel) (by decide +kernel)
set_option maxRecDepth 20000 in
theorem gL_law_X6_finishedRuns : GoodIn wsL_law (wsV RL 124 RX6 yX6_finishedRuns wsX6_finishedRuns) := goodIn_app (goodIn_of _ (by decide +kernel)) ggL_law_X6_finishedRuns
set_option maxRecDepth 20000 in
theorem ggL_law_X7_finishedRuns : GoodIn wsL_law wsX7_finishedRuns := goodIn_r _ [791, 305, 799, 800, 801, 802, 803, 804, 805, 806, 807, 808, 809, 810, 811, 812, 813, 814, 815, 816, 817] (by decide +kernel) (by decide +kernel)
set_option maxRecDepth 20000 in
theorem gL_law_X7_finishedRuns : GoodIn wsL_law (wsV RL 127 RX7 yX7_finishedRuns wsX7_finishedRuns) := goodIn_app (goodIn_of _ (by decide +kernel)) ggL_law_X7_finishedRuns
theorem dL_law_0 : decode cL_law 0 = .ok (.new 7, 3) := by decide +kernel
theorem dL_law_3 : decode cL_law 3 = .ok (.dup, 1) := by decide +kernel
theorem dL_law_4 : decode cL_law 4 = .ok (.invokespecial 9, 3) := by decide +kernel
theorem dL_law_7 : decode cL_law 7 = .ok (.astore_n 1, 1) := by decide +kernel
theorem dL_law_8 : decode cL_law 8 = .ok (.new 10, 3) := by decide +kernel
theorem dL_law_11 : decode cL_law 11 = .ok (.dup, 1) := by decide +kernel
theorem dL_law_12 : decode cL_law 12 = .ok (.invokespecial 12, 3) := by decide +kernel
theorem dL_law_15 : decode cL_law 15 = .ok (.astore_n 2, 1) := by decide +kernel
theorem dL_law_16 : decode cL_law 16 = .ok (.iconst 0, 1) := by decide +kernel
theorem dL_law_17 : decode cL_law 17 = .ok (.istore_n 3, 1) := by decide +kernel
theorem dL_law_18 : decode cL_law 18 = .ok (.iload_n 3, 1) := by decide +kernel
theorem dL_law_19 : decode cL_law 19 = .ok (.aload_n 0, 1) := by decide +kernel
theorem dL_law_20 : decode cL_law 20 = .ok (.arraylength, 1) := by decide +kernel
theorem dL_law_21 : decode cL_law 21 = .ok (.iconst 3, 1) := by decide +kernel
theorem dL_law_22 : decode cL_law 22 = .ok (.isub, 1) := by decide +kernel
theorem dL_law_23 : decode cL_law 23 = .ok (.if_icmp .gt 687, 3) := by decide +kernel
theorem dL_law_26 : decode cL_law 26 = .ok (.aload_n 0, 1) := by decide +kernel
theorem dL_law_27 : decode cL_law 27 = .ok (.iload_n 3, 1) := by decide +kernel
theorem dL_law_28 : decode cL_law 28 = .ok (.iaload, 1) := by decide +kernel
theorem dL_law_29 : decode cL_law 29 = .ok (.bipush 31, 2) := by decide +kernel
theorem dL_law_31 : decode cL_law 31 = .ok (.iand, 1) := by decide +kernel
theorem dL_law_32 : decode cL_law 32 = .ok (.tableswitch 672 0 27 #[128, 151, 164, 177, 190, 203, 236, 259, 282, 315, 328, 341, 354, 377, 400, 423, 446, 459, 472, 485, 508, 531, 554, 587, 610, 633, 646, 659], 128) := by decide +kernel
theorem dL_law_160 : decode cL_law 160 = .ok (.aload_n 1, 1) := by decide +kernel
theorem dL_law_161 : decode cL_law 161 = .ok (.aload_n 0, 1) := by decide +kernel
theorem dL_law_162 : decode cL_law 162 = .ok (.iload_n 3, 1) := by decide +kernel
theorem dL_law_163 : decode cL_law 163 = .ok (.iconst 1, 1) := by decide +kernel
theorem dL_law_164 : decode cL_law 164 = .ok (.iadd, 1) := by decide +kernel
theorem dL_law_165 : decode cL_law 165 = .ok (.iaload, 1) := by decide +kernel
theorem dL_law_166 : decode cL_law 166 = .ok (.invokevirtual 13, 3) := by decide +kernel
theorem dL_law_169 : decode cL_law 169 = .ok (.aload_n 2, 1) := by decide +kernel
theorem dL_law_170 : decode cL_law 170 = .ok (.aload_n 0, 1) := by decide +kernel
theorem dL_law_171 : decode cL_law 171 = .ok (.iload_n 3, 1) := by decide +kernel
theorem dL_law_172 : decode cL_law 172 = .ok (.iconst 1, 1) := by decide +kernel
theorem dL_law_173 : decode cL_law 173 = .ok (.iadd, 1) := by decide +kernel
theorem dL_law_174 : decode cL_law 174 = .ok (.iaload, 1) := by decide +kernel
theorem dL_law_175 : decode cL_law 175 = .ok (.invokevirtual 17, 3) := by decide +kernel
theorem dL_law_178 : decode cL_law 178 = .ok (.if_icmp .eq 526, 3) := by decide +kernel
theorem dL_law_181 : decode cL_law 181 = .ok (.iconst 0, 1) := by decide +kernel
theorem dL_law_182 : decode cL_law 182 = .ok (.ireturn, 1) := by decide +kernel
theorem dL_law_183 : decode cL_law 183 = .ok (.aload_n 1, 1) := by decide +kernel
theorem dL_law_184 : decode cL_law 184 = .ok (.invokevirtual 18, 3) := by decide +kernel
theorem dL_law_187 : decode cL_law 187 = .ok (.aload_n 2, 1) := by decide +kernel
theorem dL_law_188 : decode cL_law 188 = .ok (.invokevirtual 22, 3) := by decide +kernel
theorem dL_law_191 : decode cL_law 191 = .ok (.if_icmp .eq 513, 3) := by decide +kernel
theorem dL_law_194 : decode cL_law 194 = .ok (.iconst 0, 1) := by decide +kernel
theorem dL_law_195 : decode cL_law 195 = .ok (.ireturn, 1) := by decide +kernel
theorem dL_law_196 : decode cL_law 196 = .ok (.aload_n 1, 1) := by decide +kernel
theorem dL_law_197 : decode cL_law 197 = .ok (.invokevirtual 23, 3) := by decide +kernel
theorem dL_law_200 : decode cL_law 200 = .ok (.aload_n 2, 1) := by decide +kernel
theorem dL_law_201 : decode cL_law 201 = .ok (.invokevirtual 26, 3) := by decide +kernel
theorem dL_law_204 : decode cL_law 204 = .ok (.if_icmp .eq 500, 3) := by decide +kernel
theorem dL_law_207 : decode cL_law 207 = .ok (.iconst 0, 1) := by decide +kernel
theorem dL_law_208 : decode cL_law 208 = .ok (.ireturn, 1) := by decide +kernel
theorem dL_law_209 : decode cL_law 209 = .ok (.aload_n 1, 1) := by decide +kernel
theorem dL_law_210 : decode cL_law 210 = .ok (.invokevirtual 27, 3) := by decide +kernel
theorem dL_law_213 : decode cL_law 213 = .ok (.aload_n 2, 1) := by decide +kernel
theorem dL_law_214 : decode cL_law 214 = .ok (.invokevirtual 30, 3) := by decide +kernel
theorem dL_law_217 : decode cL_law 217 = .ok (.if_icmp .eq 487, 3) := by decide +kernel
theorem dL_law_220 : decode cL_law 220 = .ok (.iconst 0, 1) := by decide +kernel
theorem dL_law_221 : decode cL_law 221 = .ok (.ireturn, 1) := by decide +kernel
theorem dL_law_222 : decode cL_law 222 = .ok (.aload_n 1, 1) := by decide +kernel
theorem dL_law_223 : decode cL_law 223 = .ok (.invokevirtual 31, 3) := by decide +kernel
theorem dL_law_226 : decode cL_law 226 = .ok (.aload_n 2, 1) := by decide +kernel
theorem dL_law_227 : decode cL_law 227 = .ok (.invokevirtual 34, 3) := by decide +kernel
theorem dL_law_230 : decode cL_law 230 = .ok (.if_icmp .eq 474, 3) := by decide +kernel
theorem dL_law_233 : decode cL_law 233 = .ok (.iconst 0, 1) := by decide +kernel
theorem dL_law_234 : decode cL_law 234 = .ok (.ireturn, 1) := by decide +kernel
theorem dL_law_235 : decode cL_law 235 = .ok (.aload_n 1, 1) := by decide +kernel
theorem dL_law_236 : decode cL_law 236 = .ok (.aload_n 0, 1) := by decide +kernel
theorem dL_law_237 : decode cL_law 237 = .ok (.iload_n 3, 1) := by decide +kernel
theorem dL_law_238 : decode cL_law 238 = .ok (.iconst 1, 1) := by decide +kernel
theorem dL_law_239 : decode cL_law 239 = .ok (.iadd, 1) := by decide +kernel
theorem dL_law_240 : decode cL_law 240 = .ok (.iaload, 1) := by decide +kernel
theorem dL_law_241 : decode cL_law 241 = .ok (.aload_n 0, 1) := by decide +kernel
theorem dL_law_242 : decode cL_law 242 = .ok (.iload_n 3, 1) := by decide +kernel
theorem dL_law_243 : decode cL_law 243 = .ok (.iconst 2, 1) := by decide +kernel
theorem dL_law_244 : decode cL_law 244 = .ok (.iadd, 1) := by decide +kernel
theorem dL_law_245 : decode cL_law 245 = .ok (.iaload, 1) := by decide +kernel
theorem dL_law_246 : decode cL_law 246 = .ok (.invokevirtual 35, 3) := by decide +kernel
theorem dL_law_249 : decode cL_law 249 = .ok (.aload_n 2, 1) := by decide +kernel
theorem dL_law_250 : decode cL_law 250 = .ok (.aload_n 0, 1) := by decide +kernel
theorem dL_law_251 : decode cL_law 251 = .ok (.iload_n 3, 1) := by decide +kernel
theorem dL_law_252 : decode cL_law 252 = .ok (.iconst 1, 1) := by decide +kernel
theorem dL_law_253 : decode cL_law 253 = .ok (.iadd, 1) := by decide +kernel
theorem dL_law_254 : decode cL_law 254 = .ok (.iaload, 1) := by decide +kernel
theorem dL_law_255 : decode cL_law 255 = .ok (.aload_n 0, 1) := by decide +kernel
theorem dL_law_256 : decode cL_law 256 = .ok (.iload_n 3, 1) := by decide +kernel
theorem dL_law_257 : decode cL_law 257 = .ok (.iconst 2, 1) := by decide +kernel
theorem dL_law_258 : decode cL_law 258 = .ok (.iadd, 1) := by decide +kernel
theorem dL_law_259 : decode cL_law 259 = .ok (.iaload, 1) := by decide +kernel
theorem dL_law_260 : decode cL_law 260 = .ok (.invokevirtual 39, 3) := by decide +kernel
theorem dL_law_263 : decode cL_law 263 = .ok (.if_icmp .eq 441, 3) := by decide +kernel
theorem dL_law_266 : decode cL_law 266 = .ok (.iconst 0, 1) := by decide +kernel
theorem dL_law_267 : decode cL_law 267 = .ok (.ireturn, 1) := by decide +kernel
theorem dL_law_268 : decode cL_law 268 = .ok (.aload_n 1, 1) := by decide +kernel
theorem dL_law_269 : decode cL_law 269 = .ok (.aload_n 0, 1) := by decide +kernel
theorem dL_law_270 : decode cL_law 270 = .ok (.iload_n 3, 1) := by decide +kernel
theorem dL_law_271 : decode cL_law 271 = .ok (.iconst 1, 1) := by decide +kernel
theorem dL_law_272 : decode cL_law 272 = .ok (.iadd, 1) := by decide +kernel
theorem dL_law_273 : decode cL_law 273 = .ok (.iaload, 1) := by decide +kernel
theorem dL_law_274 : decode cL_law 274 = .ok (.invokevirtual 40, 3) := by decide +kernel
theorem dL_law_277 : decode cL_law 277 = .ok (.aload_n 2, 1) := by decide +kernel
theorem dL_law_278 : decode cL_law 278 = .ok (.aload_n 0, 1) := by decide +kernel
theorem dL_law_279 : decode cL_law 279 = .ok (.iload_n 3, 1) := by decide +kernel
theorem dL_law_280 : decode cL_law 280 = .ok (.iconst 1, 1) := by decide +kernel
theorem dL_law_281 : decode cL_law 281 = .ok (.iadd, 1) := by decide +kernel
theorem dL_law_282 : decode cL_law 282 = .ok (.iaload, 1) := by decide +kernel
theorem dL_law_283 : decode cL_law 283 = .ok (.invokevirtual 43, 3) := by decide +kernel
theorem dL_law_286 : decode cL_law 286 = .ok (.if_icmp .eq 418, 3) := by decide +kernel
theorem dL_law_289 : decode cL_law 289 = .ok (.iconst 0, 1) := by decide +kernel
theorem dL_law_290 : decode cL_law 290 = .ok (.ireturn, 1) := by decide +kernel
theorem dL_law_291 : decode cL_law 291 = .ok (.aload_n 1, 1) := by decide +kernel
theorem dL_law_292 : decode cL_law 292 = .ok (.aload_n 0, 1) := by decide +kernel
theorem dL_law_293 : decode cL_law 293 = .ok (.iload_n 3, 1) := by decide +kernel
theorem dL_law_294 : decode cL_law 294 = .ok (.iconst 1, 1) := by decide +kernel
theorem dL_law_295 : decode cL_law 295 = .ok (.iadd, 1) := by decide +kernel
theorem dL_law_296 : decode cL_law 296 = .ok (.iaload, 1) := by decide +kernel
theorem dL_law_297 : decode cL_law 297 = .ok (.invokevirtual 44, 3) := by decide +kernel
theorem dL_law_300 : decode cL_law 300 = .ok (.aload_n 2, 1) := by decide +kernel
theorem dL_law_301 : decode cL_law 301 = .ok (.aload_n 0, 1) := by decide +kernel
theorem dL_law_302 : decode cL_law 302 = .ok (.iload_n 3, 1) := by decide +kernel
theorem dL_law_303 : decode cL_law 303 = .ok (.iconst 1, 1) := by decide +kernel
theorem dL_law_304 : decode cL_law 304 = .ok (.iadd, 1) := by decide +kernel
theorem dL_law_305 : decode cL_law 305 = .ok (.iaload, 1) := by decide +kernel
theorem dL_law_306 : decode cL_law 306 = .ok (.invokevirtual 47, 3) := by decide +kernel
theorem dL_law_309 : decode cL_law 309 = .ok (.if_icmp .eq 395, 3) := by decide +kernel
theorem dL_law_312 : decode cL_law 312 = .ok (.iconst 0, 1) := by decide +kernel
theorem dL_law_313 : decode cL_law 313 = .ok (.ireturn, 1) := by decide +kernel
theorem dL_law_314 : decode cL_law 314 = .ok (.aload_n 1, 1) := by decide +kernel
theorem dL_law_315 : decode cL_law 315 = .ok (.aload_n 0, 1) := by decide +kernel
theorem dL_law_316 : decode cL_law 316 = .ok (.iload_n 3, 1) := by decide +kernel
theorem dL_law_317 : decode cL_law 317 = .ok (.iconst 1, 1) := by decide +kernel
theorem dL_law_318 : decode cL_law 318 = .ok (.iadd, 1) := by decide +kernel
theorem dL_law_319 : decode cL_law 319 = .ok (.iaload, 1) := by decide +kernel
theorem dL_law_320 : decode cL_law 320 = .ok (.aload_n 0, 1) := by decide +kernel
theorem dL_law_321 : decode cL_law 321 = .ok (.iload_n 3, 1) := by decide +kernel
theorem dL_law_322 : decode cL_law 322 = .ok (.iconst 2, 1) := by decide +kernel
theorem dL_law_323 : decode cL_law 323 = .ok (.iadd, 1) := by decide +kernel
theorem dL_law_324 : decode cL_law 324 = .ok (.iaload, 1) := by decide +kernel
theorem dL_law_325 : decode cL_law 325 = .ok (.invokevirtual 48, 3) := by decide +kernel
theorem dL_law_328 : decode cL_law 328 = .ok (.aload_n 2, 1) := by decide +kernel
theorem dL_law_329 : decode cL_law 329 = .ok (.aload_n 0, 1) := by decide +kernel
theorem dL_law_330 : decode cL_law 330 = .ok (.iload_n 3, 1) := by decide +kernel
theorem dL_law_331 : decode cL_law 331 = .ok (.iconst 1, 1) := by decide +kernel
theorem dL_law_332 : decode cL_law 332 = .ok (.iadd, 1) := by decide +kernel
theorem dL_law_333 : decode cL_law 333 = .ok (.iaload, 1) := by decide +kernel
theorem dL_law_334 : decode cL_law 334 = .ok (.aload_n 0, 1) := by decide +kernel
theorem dL_law_335 : decode cL_law 335 = .ok (.iload_n 3, 1) := by decide +kernel
theorem dL_law_336 : decode cL_law 336 = .ok (.iconst 2, 1) := by decide +kernel
theorem dL_law_337 : decode cL_law 337 = .ok (.iadd, 1) := by decide +kernel
theorem dL_law_338 : decode cL_law 338 = .ok (.iaload, 1) := by decide +kernel
theorem dL_law_339 : decode cL_law 339 = .ok (.invokevirtual 51, 3) := by decide +kernel
theorem dL_law_342 : decode cL_law 342 = .ok (.if_icmp .eq 362, 3) := by decide +kernel
theorem dL_law_345 : decode cL_law 345 = .ok (.iconst 0, 1) := by decide +kernel
theorem dL_law_346 : decode cL_law 346 = .ok (.ireturn, 1) := by decide +kernel
theorem dL_law_347 : decode cL_law 347 = .ok (.aload_n 1, 1) := by decide +kernel
theorem dL_law_348 : decode cL_law 348 = .ok (.invokevirtual 52, 3) := by decide +kernel
theorem dL_law_351 : decode cL_law 351 = .ok (.aload_n 2, 1) := by decide +kernel
theorem dL_law_352 : decode cL_law 352 = .ok (.invokevirtual 55, 3) := by decide +kernel
theorem dL_law_355 : decode cL_law 355 = .ok (.if_icmp .eq 349, 3) := by decide +kernel
theorem dL_law_358 : decode cL_law 358 = .ok (.iconst 0, 1) := by decide +kernel
theorem dL_law_359 : decode cL_law 359 = .ok (.ireturn, 1) := by decide +kernel
theorem dL_law_360 : decode cL_law 360 = .ok (.aload_n 1, 1) := by decide +kernel
theorem dL_law_361 : decode cL_law 361 = .ok (.invokevirtual 56, 3) := by decide +kernel
theorem dL_law_364 : decode cL_law 364 = .ok (.aload_n 2, 1) := by decide +kernel
theorem dL_law_365 : decode cL_law 365 = .ok (.invokevirtual 59, 3) := by decide +kernel
theorem dL_law_368 : decode cL_law 368 = .ok (.if_icmp .eq 336, 3) := by decide +kernel
theorem dL_law_371 : decode cL_law 371 = .ok (.iconst 0, 1) := by decide +kernel
theorem dL_law_372 : decode cL_law 372 = .ok (.ireturn, 1) := by decide +kernel
theorem dL_law_373 : decode cL_law 373 = .ok (.aload_n 1, 1) := by decide +kernel
theorem dL_law_374 : decode cL_law 374 = .ok (.invokevirtual 60, 3) := by decide +kernel
theorem dL_law_377 : decode cL_law 377 = .ok (.aload_n 2, 1) := by decide +kernel
theorem dL_law_378 : decode cL_law 378 = .ok (.invokevirtual 63, 3) := by decide +kernel
theorem dL_law_381 : decode cL_law 381 = .ok (.if_icmp .eq 323, 3) := by decide +kernel
theorem dL_law_384 : decode cL_law 384 = .ok (.iconst 0, 1) := by decide +kernel
theorem dL_law_385 : decode cL_law 385 = .ok (.ireturn, 1) := by decide +kernel
theorem dL_law_386 : decode cL_law 386 = .ok (.aload_n 1, 1) := by decide +kernel
theorem dL_law_387 : decode cL_law 387 = .ok (.aload_n 0, 1) := by decide +kernel
theorem dL_law_388 : decode cL_law 388 = .ok (.iload_n 3, 1) := by decide +kernel
theorem dL_law_389 : decode cL_law 389 = .ok (.iconst 1, 1) := by decide +kernel
theorem dL_law_390 : decode cL_law 390 = .ok (.iadd, 1) := by decide +kernel
theorem dL_law_391 : decode cL_law 391 = .ok (.iaload, 1) := by decide +kernel
theorem dL_law_392 : decode cL_law 392 = .ok (.invokevirtual 64, 3) := by decide +kernel
theorem dL_law_395 : decode cL_law 395 = .ok (.aload_n 2, 1) := by decide +kernel
theorem dL_law_396 : decode cL_law 396 = .ok (.aload_n 0, 1) := by decide +kernel
theorem dL_law_397 : decode cL_law 397 = .ok (.iload_n 3, 1) := by decide +kernel
theorem dL_law_398 : decode cL_law 398 = .ok (.iconst 1, 1) := by decide +kernel
theorem dL_law_399 : decode cL_law 399 = .ok (.iadd, 1) := by decide +kernel
theorem dL_law_400 : decode cL_law 400 = .ok (.iaload, 1) := by decide +kernel
theorem dL_law_401 : decode cL_law 401 = .ok (.invokevirtual 67, 3) := by decide +kernel
theorem dL_law_404 : decode cL_law 404 = .ok (.if_icmp .eq 300, 3) := by decide +kernel
theorem dL_law_407 : decode cL_law 407 = .ok (.iconst 0, 1) := by decide +kernel
theorem dL_law_408 : decode cL_law 408 = .ok (.ireturn, 1) := by decide +kernel
theorem dL_law_409 : decode cL_law 409 = .ok (.aload_n 1, 1) := by decide +kernel
theorem dL_law_410 : decode cL_law 410 = .ok (.aload_n 0, 1) := by decide +kernel
theorem dL_law_411 : decode cL_law 411 = .ok (.iload_n 3, 1) := by decide +kernel
theorem dL_law_412 : decode cL_law 412 = .ok (.iconst 1, 1) := by decide +kernel
theorem dL_law_413 : decode cL_law 413 = .ok (.iadd, 1) := by decide +kernel
theorem dL_law_414 : decode cL_law 414 = .ok (.iaload, 1) := by decide +kernel
theorem dL_law_415 : decode cL_law 415 = .ok (.invokevirtual 68, 3) := by decide +kernel
theorem dL_law_418 : decode cL_law 418 = .ok (.aload_n 2, 1) := by decide +kernel
theorem dL_law_419 : decode cL_law 419 = .ok (.aload_n 0, 1) := by decide +kernel
theorem dL_law_420 : decode cL_law 420 = .ok (.iload_n 3, 1) := by decide +kernel
theorem dL_law_421 : decode cL_law 421 = .ok (.iconst 1, 1) := by decide +kernel
theorem dL_law_422 : decode cL_law 422 = .ok (.iadd, 1) := by decide +kernel
theorem dL_law_423 : decode cL_law 423 = .ok (.iaload, 1) := by decide +kernel
theorem dL_law_424 : decode cL_law 424 = .ok (.invokevirtual 71, 3) := by decide +kernel
theorem dL_law_427 : decode cL_law 427 = .ok (.if_icmp .eq 277, 3) := by decide +kernel
theorem dL_law_430 : decode cL_law 430 = .ok (.iconst 0, 1) := by decide +kernel
theorem dL_law_431 : decode cL_law 431 = .ok (.ireturn, 1) := by decide +kernel
theorem dL_law_432 : decode cL_law 432 = .ok (.aload_n 1, 1) := by decide +kernel
theorem dL_law_433 : decode cL_law 433 = .ok (.aload_n 0, 1) := by decide +kernel
theorem dL_law_434 : decode cL_law 434 = .ok (.iload_n 3, 1) := by decide +kernel
theorem dL_law_435 : decode cL_law 435 = .ok (.iconst 1, 1) := by decide +kernel
theorem dL_law_436 : decode cL_law 436 = .ok (.iadd, 1) := by decide +kernel
theorem dL_law_437 : decode cL_law 437 = .ok (.iaload, 1) := by decide +kernel
theorem dL_law_438 : decode cL_law 438 = .ok (.invokevirtual 72, 3) := by decide +kernel
theorem dL_law_441 : decode cL_law 441 = .ok (.aload_n 2, 1) := by decide +kernel
theorem dL_law_442 : decode cL_law 442 = .ok (.aload_n 0, 1) := by decide +kernel
theorem dL_law_443 : decode cL_law 443 = .ok (.iload_n 3, 1) := by decide +kernel
theorem dL_law_444 : decode cL_law 444 = .ok (.iconst 1, 1) := by decide +kernel
theorem dL_law_445 : decode cL_law 445 = .ok (.iadd, 1) := by decide +kernel
theorem dL_law_446 : decode cL_law 446 = .ok (.iaload, 1) := by decide +kernel
theorem dL_law_447 : decode cL_law 447 = .ok (.invokevirtual 75, 3) := by decide +kernel
theorem dL_law_450 : decode cL_law 450 = .ok (.if_icmp .eq 254, 3) := by decide +kernel
theorem dL_law_453 : decode cL_law 453 = .ok (.iconst 0, 1) := by decide +kernel
theorem dL_law_454 : decode cL_law 454 = .ok (.ireturn, 1) := by decide +kernel
theorem dL_law_455 : decode cL_law 455 = .ok (.aload_n 1, 1) := by decide +kernel
theorem dL_law_456 : decode cL_law 456 = .ok (.aload_n 0, 1) := by decide +kernel
theorem dL_law_457 : decode cL_law 457 = .ok (.iload_n 3, 1) := by decide +kernel
theorem dL_law_458 : decode cL_law 458 = .ok (.iconst 1, 1) := by decide +kernel
theorem dL_law_459 : decode cL_law 459 = .ok (.iadd, 1) := by decide +kernel
theorem dL_law_460 : decode cL_law 460 = .ok (.iaload, 1) := by decide +kernel
theorem dL_law_461 : decode cL_law 461 = .ok (.invokevirtual 76, 3) := by decide +kernel
theorem dL_law_464 : decode cL_law 464 = .ok (.aload_n 2, 1) := by decide +kernel
theorem dL_law_465 : decode cL_law 465 = .ok (.aload_n 0, 1) := by decide +kernel
theorem dL_law_466 : decode cL_law 466 = .ok (.iload_n 3, 1) := by decide +kernel
theorem dL_law_467 : decode cL_law 467 = .ok (.iconst 1, 1) := by decide +kernel
theorem dL_law_468 : decode cL_law 468 = .ok (.iadd, 1) := by decide +kernel
theorem dL_law_469 : decode cL_law 469 = .ok (.iaload, 1) := by decide +kernel
theorem dL_law_470 : decode cL_law 470 = .ok (.invokevirtual 79, 3) := by decide +kernel
theorem dL_law_473 : decode cL_law 473 = .ok (.if_icmp .eq 231, 3) := by decide +kernel
theorem dL_law_476 : decode cL_law 476 = .ok (.iconst 0, 1) := by decide +kernel
theorem dL_law_477 : decode cL_law 477 = .ok (.ireturn, 1) := by decide +kernel
theorem dL_law_478 : decode cL_law 478 = .ok (.aload_n 1, 1) := by decide +kernel
theorem dL_law_479 : decode cL_law 479 = .ok (.invokevirtual 80, 3) := by decide +kernel
theorem dL_law_482 : decode cL_law 482 = .ok (.aload_n 2, 1) := by decide +kernel
theorem dL_law_483 : decode cL_law 483 = .ok (.invokevirtual 83, 3) := by decide +kernel
theorem dL_law_486 : decode cL_law 486 = .ok (.if_icmp .eq 218, 3) := by decide +kernel
theorem dL_law_489 : decode cL_law 489 = .ok (.iconst 0, 1) := by decide +kernel
theorem dL_law_490 : decode cL_law 490 = .ok (.ireturn, 1) := by decide +kernel
theorem dL_law_491 : decode cL_law 491 = .ok (.aload_n 1, 1) := by decide +kernel
theorem dL_law_492 : decode cL_law 492 = .ok (.invokevirtual 84, 3) := by decide +kernel
theorem dL_law_495 : decode cL_law 495 = .ok (.aload_n 2, 1) := by decide +kernel
theorem dL_law_496 : decode cL_law 496 = .ok (.invokevirtual 87, 3) := by decide +kernel
theorem dL_law_499 : decode cL_law 499 = .ok (.if_icmp .eq 205, 3) := by decide +kernel
theorem dL_law_502 : decode cL_law 502 = .ok (.iconst 0, 1) := by decide +kernel
theorem dL_law_503 : decode cL_law 503 = .ok (.ireturn, 1) := by decide +kernel
theorem dL_law_504 : decode cL_law 504 = .ok (.aload_n 1, 1) := by decide +kernel
theorem dL_law_505 : decode cL_law 505 = .ok (.invokevirtual 88, 3) := by decide +kernel
theorem dL_law_508 : decode cL_law 508 = .ok (.aload_n 2, 1) := by decide +kernel
theorem dL_law_509 : decode cL_law 509 = .ok (.invokevirtual 91, 3) := by decide +kernel
theorem dL_law_512 : decode cL_law 512 = .ok (.if_icmp .eq 192, 3) := by decide +kernel
theorem dL_law_515 : decode cL_law 515 = .ok (.iconst 0, 1) := by decide +kernel
theorem dL_law_516 : decode cL_law 516 = .ok (.ireturn, 1) := by decide +kernel
theorem dL_law_517 : decode cL_law 517 = .ok (.aload_n 1, 1) := by decide +kernel
theorem dL_law_518 : decode cL_law 518 = .ok (.aload_n 0, 1) := by decide +kernel
theorem dL_law_519 : decode cL_law 519 = .ok (.iload_n 3, 1) := by decide +kernel
theorem dL_law_520 : decode cL_law 520 = .ok (.iconst 1, 1) := by decide +kernel
theorem dL_law_521 : decode cL_law 521 = .ok (.iadd, 1) := by decide +kernel
theorem dL_law_522 : decode cL_law 522 = .ok (.iaload, 1) := by decide +kernel
theorem dL_law_523 : decode cL_law 523 = .ok (.invokevirtual 92, 3) := by decide +kernel
theorem dL_law_526 : decode cL_law 526 = .ok (.aload_n 2, 1) := by decide +kernel
theorem dL_law_527 : decode cL_law 527 = .ok (.aload_n 0, 1) := by decide +kernel
theorem dL_law_528 : decode cL_law 528 = .ok (.iload_n 3, 1) := by decide +kernel
theorem dL_law_529 : decode cL_law 529 = .ok (.iconst 1, 1) := by decide +kernel
theorem dL_law_530 : decode cL_law 530 = .ok (.iadd, 1) := by decide +kernel
theorem dL_law_531 : decode cL_law 531 = .ok (.iaload, 1) := by decide +kernel
theorem dL_law_532 : decode cL_law 532 = .ok (.invokevirtual 95, 3) := by decide +kernel
theorem dL_law_535 : decode cL_law 535 = .ok (.if_icmp .eq 169, 3) := by decide +kernel
theorem dL_law_538 : decode cL_law 538 = .ok (.iconst 0, 1) := by decide +kernel
theorem dL_law_539 : decode cL_law 539 = .ok (.ireturn, 1) := by decide +kernel
theorem dL_law_540 : decode cL_law 540 = .ok (.aload_n 1, 1) := by decide +kernel
theorem dL_law_541 : decode cL_law 541 = .ok (.aload_n 0, 1) := by decide +kernel
theorem dL_law_542 : decode cL_law 542 = .ok (.iload_n 3, 1) := by decide +kernel
theorem dL_law_543 : decode cL_law 543 = .ok (.iconst 1, 1) := by decide +kernel
theorem dL_law_544 : decode cL_law 544 = .ok (.iadd, 1) := by decide +kernel
theorem dL_law_545 : decode cL_law 545 = .ok (.iaload, 1) := by decide +kernel
theorem dL_law_546 : decode cL_law 546 = .ok (.invokevirtual 96, 3) := by decide +kernel
theorem dL_law_549 : decode cL_law 549 = .ok (.aload_n 2, 1) := by decide +kernel
theorem dL_law_550 : decode cL_law 550 = .ok (.aload_n 0, 1) := by decide +kernel
theorem dL_law_551 : decode cL_law 551 = .ok (.iload_n 3, 1) := by decide +kernel
theorem dL_law_552 : decode cL_law 552 = .ok (.iconst 1, 1) := by decide +kernel
theorem dL_law_553 : decode cL_law 553 = .ok (.iadd, 1) := by decide +kernel
theorem dL_law_554 : decode cL_law 554 = .ok (.iaload, 1) := by decide +kernel
theorem dL_law_555 : decode cL_law 555 = .ok (.invokevirtual 99, 3) := by decide +kernel
theorem dL_law_558 : decode cL_law 558 = .ok (.if_icmp .eq 146, 3) := by decide +kernel
theorem dL_law_561 : decode cL_law 561 = .ok (.iconst 0, 1) := by decide +kernel
theorem dL_law_562 : decode cL_law 562 = .ok (.ireturn, 1) := by decide +kernel
theorem dL_law_563 : decode cL_law 563 = .ok (.aload_n 1, 1) := by decide +kernel
theorem dL_law_564 : decode cL_law 564 = .ok (.aload_n 0, 1) := by decide +kernel
theorem dL_law_565 : decode cL_law 565 = .ok (.iload_n 3, 1) := by decide +kernel
theorem dL_law_566 : decode cL_law 566 = .ok (.iconst 1, 1) := by decide +kernel
theorem dL_law_567 : decode cL_law 567 = .ok (.iadd, 1) := by decide +kernel
theorem dL_law_568 : decode cL_law 568 = .ok (.iaload, 1) := by decide +kernel
theorem dL_law_569 : decode cL_law 569 = .ok (.invokevirtual 100, 3) := by decide +kernel
theorem dL_law_572 : decode cL_law 572 = .ok (.aload_n 2, 1) := by decide +kernel
theorem dL_law_573 : decode cL_law 573 = .ok (.aload_n 0, 1) := by decide +kernel
theorem dL_law_574 : decode cL_law 574 = .ok (.iload_n 3, 1) := by decide +kernel
theorem dL_law_575 : decode cL_law 575 = .ok (.iconst 1, 1) := by decide +kernel
theorem dL_law_576 : decode cL_law 576 = .ok (.iadd, 1) := by decide +kernel
theorem dL_law_577 : decode cL_law 577 = .ok (.iaload, 1) := by decide +kernel
theorem dL_law_578 : decode cL_law 578 = .ok (.invokevirtual 103, 3) := by decide +kernel
theorem dL_law_581 : decode cL_law 581 = .ok (.if_icmp .eq 123, 3) := by decide +kernel
theorem dL_law_584 : decode cL_law 584 = .ok (.iconst 0, 1) := by decide +kernel
theorem dL_law_585 : decode cL_law 585 = .ok (.ireturn, 1) := by decide +kernel
theorem dL_law_586 : decode cL_law 586 = .ok (.aload_n 1, 1) := by decide +kernel
theorem dL_law_587 : decode cL_law 587 = .ok (.aload_n 0, 1) := by decide +kernel
theorem dL_law_588 : decode cL_law 588 = .ok (.iload_n 3, 1) := by decide +kernel
theorem dL_law_589 : decode cL_law 589 = .ok (.iconst 1, 1) := by decide +kernel
theorem dL_law_590 : decode cL_law 590 = .ok (.iadd, 1) := by decide +kernel
theorem dL_law_591 : decode cL_law 591 = .ok (.iaload, 1) := by decide +kernel
theorem dL_law_592 : decode cL_law 592 = .ok (.aload_n 0, 1) := by decide +kernel
theorem dL_law_593 : decode cL_law 593 = .ok (.iload_n 3, 1) := by decide +kernel
theorem dL_law_594 : decode cL_law 594 = .ok (.iconst 2, 1) := by decide +kernel
theorem dL_law_595 : decode cL_law 595 = .ok (.iadd, 1) := by decide +kernel
theorem dL_law_596 : decode cL_law 596 = .ok (.iaload, 1) := by decide +kernel
theorem dL_law_597 : decode cL_law 597 = .ok (.invokevirtual 104, 3) := by decide +kernel
theorem dL_law_600 : decode cL_law 600 = .ok (.aload_n 2, 1) := by decide +kernel
theorem dL_law_601 : decode cL_law 601 = .ok (.aload_n 0, 1) := by decide +kernel
theorem dL_law_602 : decode cL_law 602 = .ok (.iload_n 3, 1) := by decide +kernel
theorem dL_law_603 : decode cL_law 603 = .ok (.iconst 1, 1) := by decide +kernel
theorem dL_law_604 : decode cL_law 604 = .ok (.iadd, 1) := by decide +kernel
theorem dL_law_605 : decode cL_law 605 = .ok (.iaload, 1) := by decide +kernel
theorem dL_law_606 : decode cL_law 606 = .ok (.aload_n 0, 1) := by decide +kernel
theorem dL_law_607 : decode cL_law 607 = .ok (.iload_n 3, 1) := by decide +kernel
theorem dL_law_608 : decode cL_law 608 = .ok (.iconst 2, 1) := by decide +kernel
theorem dL_law_609 : decode cL_law 609 = .ok (.iadd, 1) := by decide +kernel
theorem dL_law_610 : decode cL_law 610 = .ok (.iaload, 1) := by decide +kernel
theorem dL_law_611 : decode cL_law 611 = .ok (.invokevirtual 107, 3) := by decide +kernel
theorem dL_law_614 : decode cL_law 614 = .ok (.if_icmp .eq 90, 3) := by decide +kernel
theorem dL_law_617 : decode cL_law 617 = .ok (.iconst 0, 1) := by decide +kernel
theorem dL_law_618 : decode cL_law 618 = .ok (.ireturn, 1) := by decide +kernel
theorem dL_law_619 : decode cL_law 619 = .ok (.aload_n 1, 1) := by decide +kernel
theorem dL_law_620 : decode cL_law 620 = .ok (.aload_n 0, 1) := by decide +kernel
theorem dL_law_621 : decode cL_law 621 = .ok (.iload_n 3, 1) := by decide +kernel
theorem dL_law_622 : decode cL_law 622 = .ok (.iconst 1, 1) := by decide +kernel
theorem dL_law_623 : decode cL_law 623 = .ok (.iadd, 1) := by decide +kernel
theorem dL_law_624 : decode cL_law 624 = .ok (.iaload, 1) := by decide +kernel
theorem dL_law_625 : decode cL_law 625 = .ok (.invokevirtual 108, 3) := by decide +kernel
theorem dL_law_628 : decode cL_law 628 = .ok (.aload_n 2, 1) := by decide +kernel
theorem dL_law_629 : decode cL_law 629 = .ok (.aload_n 0, 1) := by decide +kernel
theorem dL_law_630 : decode cL_law 630 = .ok (.iload_n 3, 1) := by decide +kernel
theorem dL_law_631 : decode cL_law 631 = .ok (.iconst 1, 1) := by decide +kernel
theorem dL_law_632 : decode cL_law 632 = .ok (.iadd, 1) := by decide +kernel
theorem dL_law_633 : decode cL_law 633 = .ok (.iaload, 1) := by decide +kernel
theorem dL_law_634 : decode cL_law 634 = .ok (.invokevirtual 111, 3) := by decide +kernel
theorem dL_law_637 : decode cL_law 637 = .ok (.if_icmp .eq 67, 3) := by decide +kernel
theorem dL_law_640 : decode cL_law 640 = .ok (.iconst 0, 1) := by decide +kernel
theorem dL_law_641 : decode cL_law 641 = .ok (.ireturn, 1) := by decide +kernel
theorem dL_law_642 : decode cL_law 642 = .ok (.aload_n 1, 1) := by decide +kernel
theorem dL_law_643 : decode cL_law 643 = .ok (.aload_n 0, 1) := by decide +kernel
theorem dL_law_644 : decode cL_law 644 = .ok (.iload_n 3, 1) := by decide +kernel
theorem dL_law_645 : decode cL_law 645 = .ok (.iconst 1, 1) := by decide +kernel
theorem dL_law_646 : decode cL_law 646 = .ok (.iadd, 1) := by decide +kernel
theorem dL_law_647 : decode cL_law 647 = .ok (.iaload, 1) := by decide +kernel
theorem dL_law_648 : decode cL_law 648 = .ok (.invokevirtual 112, 3) := by decide +kernel
theorem dL_law_651 : decode cL_law 651 = .ok (.aload_n 2, 1) := by decide +kernel
theorem dL_law_652 : decode cL_law 652 = .ok (.aload_n 0, 1) := by decide +kernel
theorem dL_law_653 : decode cL_law 653 = .ok (.iload_n 3, 1) := by decide +kernel
theorem dL_law_654 : decode cL_law 654 = .ok (.iconst 1, 1) := by decide +kernel
theorem dL_law_655 : decode cL_law 655 = .ok (.iadd, 1) := by decide +kernel
theorem dL_law_656 : decode cL_law 656 = .ok (.iaload, 1) := by decide +kernel
theorem dL_law_657 : decode cL_law 657 = .ok (.invokevirtual 115, 3) := by decide +kernel
theorem dL_law_660 : decode cL_law 660 = .ok (.if_icmp .eq 44, 3) := by decide +kernel
theorem dL_law_663 : decode cL_law 663 = .ok (.iconst 0, 1) := by decide +kernel
theorem dL_law_664 : decode cL_law 664 = .ok (.ireturn, 1) := by decide +kernel
theorem dL_law_665 : decode cL_law 665 = .ok (.aload_n 1, 1) := by decide +kernel
theorem dL_law_666 : decode cL_law 666 = .ok (.invokevirtual 116, 3) := by decide +kernel
theorem dL_law_669 : decode cL_law 669 = .ok (.aload_n 2, 1) := by decide +kernel
theorem dL_law_670 : decode cL_law 670 = .ok (.invokevirtual 119, 3) := by decide +kernel
theorem dL_law_673 : decode cL_law 673 = .ok (.if_icmp .eq 31, 3) := by decide +kernel
theorem dL_law_676 : decode cL_law 676 = .ok (.iconst 0, 1) := by decide +kernel
theorem dL_law_677 : decode cL_law 677 = .ok (.ireturn, 1) := by decide +kernel
theorem dL_law_678 : decode cL_law 678 = .ok (.aload_n 1, 1) := by decide +kernel
theorem dL_law_679 : decode cL_law 679 = .ok (.invokevirtual 120, 3) := by decide +kernel
theorem dL_law_682 : decode cL_law 682 = .ok (.aload_n 2, 1) := by decide +kernel
theorem dL_law_683 : decode cL_law 683 = .ok (.invokevirtual 123, 3) := by decide +kernel
theorem dL_law_686 : decode cL_law 686 = .ok (.if_icmp .eq 18, 3) := by decide +kernel
theorem dL_law_689 : decode cL_law 689 = .ok (.iconst 0, 1) := by decide +kernel
theorem dL_law_690 : decode cL_law 690 = .ok (.ireturn, 1) := by decide +kernel
theorem dL_law_691 : decode cL_law 691 = .ok (.aload_n 1, 1) := by decide +kernel
theorem dL_law_692 : decode cL_law 692 = .ok (.invokevirtual 124, 3) := by decide +kernel
theorem dL_law_695 : decode cL_law 695 = .ok (.aload_n 2, 1) := by decide +kernel
theorem dL_law_696 : decode cL_law 696 = .ok (.invokevirtual 127, 3) := by decide +kernel
theorem dL_law_699 : decode cL_law 699 = .ok (.if_icmp .eq 5, 3) := by decide +kernel
theorem dL_law_702 : decode cL_law 702 = .ok (.iconst 0, 1) := by decide +kernel
theorem dL_law_703 : decode cL_law 703 = .ok (.ireturn, 1) := by decide +kernel
theorem dL_law_704 : decode cL_law 704 = .ok (.iinc 3 3, 3) := by decide +kernel
theorem dL_law_707 : decode cL_law 707 = .ok (.goto (-689), 3) := by decide +kernel
theorem dL_law_710 : decode cL_law 710 = .ok (.iconst 1, 1) := by decide +kernel
theorem dL_law_711 : decode cL_law 711 = .ok (.ireturn, 1) := by decide +kernel
