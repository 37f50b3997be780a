set_option maxRecDepth 20000 in
theorem ggL_law_X3_init : GoodIn wsL_law wsX3_init := goodIn_r _ [9, 10, 11, 12, 13, 14, 15, 16, 17, 18, 19, 20, 21, 22, 23, 24, 25, 26, 27, 28, 29, 30, 31, 32, 33, 34, 35, 36, 37, 38, 39, 40, 41, 42, 6, 43, 44, 45, 46, 47, 48, 2, 49, 816, 817, 818, 819, 820, 821, 822, 823, 824, 794, 795, 796, 797, 798, 799, 825, 826] (by decide +kernel) (by decide +kernel)
set_option maxRecDepth 20000 in
theorem gL_law_X3_init : GoodIn wsL_law (wsX3_init) := ggL_law_X3_init
set_option maxRecDepth 20000 in
theorem ggL_law_X4_init : GoodIn wsL_law wsX4_init := goodIn_r _ [52, 53, 11, 12, 30, 54, 55, 56, 57, 58, 59, 60, 61, 62, 63, 64, 65, 5, 66, 67, 68, 69, 70, 800, 801, 802, 803, 804, 805, 806, 807, 808, 809, 810, 811, 812, 813, 814, 815] (by decide +kernel) (by decide +kernel)
set_option maxRecDepth 20000 in
theorem gL_law_X4_init : GoodIn wsL_law (wsX4_init) := ggL_law_X4_init
set_option maxRecDepth 20000 in
theorem ggL_law_L_append : GoodIn wsL_law wsL_append := goodIn_ca (goodIn_ca (goodIn_r _ [74, 75, 76, 77, 78, 79, 2, 80, 81, 82, 83, 84, 21, 20, 85, 86, 87, 88, 794, 795, 796, 797, 798, 799] (by decide +kernel) (by decide +kernel)) (goodIn_sub (fun _ h => List.mem_append_left _ (List.mem_append_left _ (List.mem_append_right _ h))) (by decide +kernel))) (goodIn_sub (fun _ h => List.mem_append_left _ (List.mem_append_right _ h)) (by decide +kernel))
set_option maxRecDepth 20000 in
theorem gL_law_L_append : GoodIn wsL_law (va_wsS RL 58 yL_append wsL_append) := goodIn_app (goodIn_of _ (by decide +kernel)) ggL_law_L_append
set_option maxRecDepth 20000 in
theorem ggL_law_X4_append : GoodIn wsL_law wsX4_append := goodIn_r _ [92, 93, 94, 57, 95, 96, 5, 97, 800, 801, 802, 803, 804, 805, 806, 807, 808, 809, 810, 811, 812, 813, 814, 815] (by decide +kernel) (by decide +kernel)
set_option maxRecDepth 20000 in
theorem gL_law_X4_append : GoodIn wsL_law (wsV RL 63 RX4 yX4_append wsX4_append) := goodIn_app (goodIn_of _ (by decide +kernel)) ggL_law_X4_append
set_option maxRecDepth 20000 in
theorem ggL_law_X4_thrown : GoodIn wsL_law wsX4_thrown := goodIn_r _ [101, 94, 800, 801, 802, 803, 804, 805, 806, 807, 808, 809, 810, 811, 812, 813, 814, 815] (by decide +kernel) (by decide +kernel)
set_option maxRecDepth 20000 in
theorem gL_law_X4_thrown : GoodIn wsL_law (wsV RL 64 RX4 yX4_thrown wsX4_thrown) := goodIn_app (goodIn_of _ (by decide +kernel)) ggL_law_X4_thrown
set_option maxRecDepth 20000 in
theorem ggL_law_X3_clearBuffer : GoodIn wsL_law wsX3_clearBuffer := goodIn_r _ [105, 21, 20, 794, 795, 796, 797, 798, 799] (by decide +kernel) (by decide +kernel)
set_option maxRecDepth 20000 in
theorem gL_law_X3_clearBuffer : GoodIn wsL_law (wsV RL 67 RX3 yX3_clearBuffer wsX3_clearBuffer) := goodIn_app (goodIn_of _ (by decide +kernel)) ggL_law_X3_clearBuffer
set_option maxRecDepth 20000 in
theorem ggL_law_X4_clearBuffer : GoodIn wsL_law wsX4_clearBuffer := goodIn_r _ [109, 94, 93, 800, 801, 802, 803, 804, 805, 806, 807, 808, 809, 810, 811, 812, 813, 814, 815] (by decide +kernel) (by decide +kernel)
set_option maxRecDepth 20000 in
theorem gL_law_X4_clearBuffer : GoodIn wsL_law (wsV RL 70 RX4 yX4_clearBuffer wsX4_clearBuffer) := goodIn_app (goodIn_of _ (by decide +kernel)) ggL_law_X4_clearBuffer
set_option maxRecDepth 20000 in
theorem ggL_law_L_drop : GoodIn wsL_law wsL_drop := goodIn_ca (goodIn_r _ [112, 76, 113, 114, 115, 2, 116, 83, 84, 21, 20, 117, 118, 87, 119, 120, 121, 122, 123, 124, 125, 126, 794, 795, 796, 797, 798, 799] (by decide +kernel) (by decide +kernel)) (goodIn_sub (fun _ h => List.mem_append_left _ (List.mem_append_right _ h)) (by decide +kernel))
set_option maxRecDepth 20000 in
theorem gL_law_L_drop : GoodIn wsL_law (va_wsS RL 71 yL_drop wsL_drop) := goodIn_app (goodIn_of _ (by decide +kernel)) ggL_law_L_drop
set_option maxRecDepth 20000 in
theorem ggL_law_X4_drop : GoodIn wsL_law wsX4_drop := goodIn_r _ [130, 93, 94, 57, 800, 801, 802, 803, 804, 805, 806, 807, 808, 809, 810, 811, 812, 813, 814, 815] (by decide +kernel) (by decide +kernel)
set_option maxRecDepth 20000 in
theorem gL_law_X4_drop : GoodIn wsL_law (wsV RL 74 RX4 yX4_drop wsX4_drop) := goodIn_app (goodIn_of _ (by decide +kernel)) ggL_law_X4_drop
set_option maxRecDepth 20000 in
theorem ggL_law_L_add : GoodIn wsL_law wsL_add := goodIn_ca (goodIn_ca (goodIn_r _ [133, 75, 76, 134, 135, 136, 2, 137, 81, 82, 83, 84, 16, 17, 20, 138, 139, 140, 141, 21, 142, 143, 144, 15, 145, 31, 146, 147, 148, 149, 150, 151, 29, 35, 152, 153, 154, 28, 155, 43, 156, 121, 87, 122, 123, 157, 158, 159, 160, 36, 34, 161, 162, 163, 164, 165, 166, 167, 32, 33, 37, 38, 168, 169, 170, 171, 172, 173, 174, 175, 176, 177, 178, 179, 180, 181, 42, 182, 183, 184, 185, 186, 187, 188, 189, 190, 191, 192, 193, 194, 195, 48, 49, 196, 197, 198, 199, 200, 201, 202, 203, 204, 205, 206, 207, 208, 209, 210, 211, 212, 213, 214, 215, 216, 217, 218, 219, 220, 221, 222, 223, 224, 225, 226, 227, 228, 229, 230, 231, 232, 233, 234, 235, 236, 237, 238, 239, 240, 241, 242, 243, 244, 245, 246, 247, 248, 249, 250, 251, 252, 253, 254, 255, 256, 257, 258, 259, 260, 261, 262, 19, 18, 263, 264, 265, 266, 794, 795, 796, 797, 798, 799, 816, 817, 818, 819, 820, 821, 822, 823, 824, 825, 826] (by decide +kernel) (by decide +kernel)) (goodIn_sub (fun _ h => List.mem_append_left _ (List.mem_append_left _ (List.mem_append_right _ h))) (by decide +kernel))) (goodIn_sub (fun _ h => List.mem_append_left _ (List.mem_append_right _ h)) (by decide +kernel))
set_option maxRecDepth 20000 in
theorem gL_law_L_add : GoodIn wsL_law (va_wsS RL 75 yL_add wsL_add) := goodIn_app (goodIn_of _ (by decide +kernel)) ggL_law_L_add
set_option maxRecDepth 20000 in
theorem ggL_law_X4_add : GoodIn wsL_law wsX4_add := goodIn_r _ [270, 94, 271, 272, 273, 274, 5, 275, 93, 57, 276, 277, 278, 279, 56, 54, 280, 281, 282, 283, 284, 285, 286, 287, 288, 289, 290, 291, 292, 293, 294, 295, 296, 297, 298, 299, 300, 301, 302, 303, 304, 305, 306, 307, 308, 309, 310, 311, 312, 313, 314, 315, 316, 317, 318, 319, 320, 321, 322, 323, 324, 325, 326, 327, 328, 329, 330, 67, 68, 69, 70, 331, 332, 333, 334, 335, 336, 337, 338, 339, 340, 341, 342, 343, 344, 345, 346, 347, 348, 349, 350, 351, 352, 353, 354, 355, 356, 357, 358, 359, 360, 361, 362, 363, 364, 365, 366, 58, 367, 368, 369, 370, 371, 372, 373, 374, 375, 376, 377, 378, 379, 55, 800, 801, 802, 803, 804, 805, 806, 807, 808, 809, 810, 811, 812, 813, 814, 815] (by decide +kernel) (by decide +kernel)
set_option maxRecDepth 20000 in
theorem gL_law_X4_add : GoodIn wsL_law (wsV RL 77 RX4 yX4_add wsX4_add) := goodIn_app (goodIn_of _ (by decide +kernel)) ggL_law_X4_add
set_option maxRecDepth 20000 in
theorem ggL_law_L_remove : GoodIn wsL_law wsL_remove := goodIn_ca (goodIn_ca (goodIn_r _ [382, 75, 76, 383, 384, 385, 2, 386, 81, 82, 83, 84, 21, 16, 20, 142, 143, 144, 15, 145, 31, 146, 147, 148, 149, 150, 151, 29, 35, 152, 153, 154, 28, 155, 43, 156, 121, 87, 122, 123, 157, 158, 159, 160, 36, 34, 161, 162, 163, 259, 260, 261, 262, 19, 18, 263, 264, 265, 266, 164, 165, 166, 167, 32, 33, 37, 38, 168, 169, 170, 171, 172, 173, 174, 175, 176, 177, 178, 179, 180, 181, 42, 182, 183, 387, 388, 389, 390, 192, 193, 194, 195, 48, 49, 220, 221, 222, 223, 391, 392, 393, 394, 251, 252, 253, 254, 794, 795, 796, 797, 798, 799, 816, 817, 818, 819, 820, 821, 822, 823, 824, 825, 826] (by decide +kernel) (by decide +kernel)) (goodIn_sub (fun _ h => List.mem_append_left _ (List.mem_append_left _ (List.mem_append_right _ h))) (by decide +kernel))) (goodIn_sub (fun _ h => List.mem_append_left _ (List.mem_append_right _ h)) (by decide +kernel))
set_option maxRecDepth 20000 in
theorem gL_law_L_remove : GoodIn wsL_law (va_wsS RL 78 yL_remove wsL_remove) := goodIn_app (goodIn_of _ (by decide +kernel)) ggL_law_L_remove
set_option maxRecDepth 20000 in
theorem ggL_law_X4_remove : GoodIn wsL_law wsX4_remove := goodIn_r _ [398, 57, 93, 94, 399, 400, 401, 5, 402, 54, 359, 360, 361, 362, 284, 285, 286, 287, 288, 289, 290, 291, 292, 293, 294, 295, 347, 348, 349, 350, 343, 344, 345, 346, 351, 352, 353, 354, 355, 356, 357, 358, 375, 376, 377, 378, 379, 55, 403, 404, 405, 406, 367, 368, 369, 370, 316, 317, 318, 319, 67, 68, 69, 70, 800, 801, 802, 803, 804, 805, 806, 807, 808, 809, 810, 811, 812, 813, 814, 815] (by decide +kernel) (by decide +kernel)
set_option maxRecDepth 20000 in
theorem gL_law_X4_remove : GoodIn wsL_law (wsV RL 80 RX4 yX4_remove wsX4_remove) := goodIn_app (goodIn_of _ (by decide +kernel)) ggL_law_X4_remove
set_option maxRecDepth 20000 in
theorem ggL_law_X3_removeAll : GoodIn wsL_law wsX3_removeAll := goodIn_r _ [410, 16, 20, 259, 260, 261, 2, 262, 19, 18, 263, 264, 265, 266, 164, 165, 166, 15, 167, 31, 32, 33, 34, 35, 36, 37, 29, 38, 168, 169, 170, 171, 172, 173, 174, 175, 176, 177, 178, 179, 180, 28, 181, 42, 43, 182, 183, 411, 412, 413, 414, 146, 147, 148, 149, 150, 151, 152, 153, 154, 155, 415, 416, 87, 417, 418, 419, 420, 421, 118, 119, 120, 121, 122, 123, 422, 125, 126, 156, 157, 158, 159, 160, 161, 162, 163, 423, 424, 425, 426, 427, 428, 429, 430, 431, 432, 433, 434, 435, 436, 437, 438, 439, 440, 441, 442, 443, 444, 445, 446, 86, 88, 142, 143, 144, 145, 387, 388, 389, 390, 192, 193, 194, 195, 48, 49, 220, 221, 222, 223, 391, 392, 393, 394, 251, 252, 253, 254, 794, 795, 796, 797, 798, 799, 816, 817, 818, 819, 820, 821, 822, 823, 824, 825, 826] (by decide +kernel) (by decide +kernel)
set_option maxRecDepth 20000 in
theorem gL_law_X3_removeAll : GoodIn wsL_law (wsV RL 81 RX3 yX3_removeAll wsX3_removeAll) := goodIn_app (goodIn_of _ (by decide +kernel)) ggL_law_X3_removeAll
set_option maxRecDepth 20000 in
theorem ggL_law_X4_removeAll : GoodIn wsL_law wsX4_removeAll := goodIn_r _ [450, 94, 375, 376, 377, 5, 378, 379, 55, 54, 451, 452, 453, 454, 59, 93, 455, 456, 457, 458, 459, 359, 360, 361, 362, 460, 461, 462, 463, 464, 60, 284, 285, 286, 287, 288, 289, 290, 291, 292, 293, 294, 295, 351, 352, 353, 354, 355, 356, 357, 358, 465, 466, 467, 468, 57, 403, 404, 405, 406, 367, 368, 369, 370, 316, 317, 318, 319, 67, 68, 69, 70, 800, 801, 802, 803, 804, 805, 806, 807, 808, 809, 810, 811, 812, 813, 814, 815] (by decide +kernel) (by decide +kernel)
set_option maxRecDepth 20000 in
theorem gL_law_X4_removeAll : GoodIn wsL_law (wsV RL 84 RX4 yX4_removeAll wsX4_removeAll) := goodIn_app (goodIn_of _ (by decide +kernel)) ggL_law_X4_removeAll
set_option maxRecDepth 20000 in
theorem ggL_law_L_pack : GoodIn wsL_law wsL_pack := goodIn_ca (goodIn_r _ [471, 76, 472, 473, 474, 2, 475, 83, 84, 17, 16, 476, 477, 478, 15, 479, 38, 480, 481, 482, 483, 31, 29, 251, 252, 253, 254, 32, 33, 34, 35, 36, 37, 48, 49, 484, 485, 486, 28, 487, 42, 43, 488, 45, 46, 47, 489, 490, 491, 438, 439, 440, 441, 146, 147, 492, 435, 436, 437, 148, 149, 150, 151, 152, 153, 154, 155, 442, 443, 444, 445, 157, 158, 159, 160, 430, 431, 432, 433, 446, 86, 87, 88, 493, 185, 186, 187, 188, 189, 190, 191, 192, 193, 194, 195, 156, 121, 122, 123, 196, 197, 198, 199, 200, 201, 202, 203, 204, 205, 206, 207, 161, 162, 163, 208, 209, 210, 211, 212, 213, 214, 215, 216, 217, 218, 219, 220, 221, 222, 223, 224, 225, 226, 227, 228, 229, 230, 231, 232, 233, 234, 235, 236, 237, 238, 239, 240, 241, 242, 243, 244, 245, 246, 247, 248, 249, 250, 255, 256, 257, 258, 494, 495, 496, 497, 498, 259, 260, 261, 262, 19, 18, 263, 264, 265, 266, 164, 165, 166, 167, 168, 169, 170, 171, 172, 173, 174, 175, 176, 177, 178, 179, 180, 181, 182, 183, 794, 795, 796, 797, 798, 799, 816, 817, 818, 819, 820, 821, 822, 823, 824, 825, 826] (by decide +kernel) (by decide +kernel)) (goodIn_sub (fun _ h => List.mem_append_left _ (List.mem_append_right _ h)) (by decide +kernel))
set_option maxRecDepth 20000 in
theorem gL_law_L_pack : GoodIn wsL_law (va_wsS RL 85 yL_pack wsL_pack) := goodIn_app (goodIn_of _ (by decide +kernel)) ggL_law_L_pack
set_option maxRecDepth 20000 in
theorem ggL_law_L_undo : GoodIn wsL_law wsL_undo := goodIn_ca (goodIn_r _ [513, 76, 514, 515, 516, 2, 517, 83, 84, 19, 18, 16, 164, 165, 166, 15, 167, 31, 32, 33, 34, 35, 36, 37, 29, 38, 168, 169, 170, 171, 172, 173, 174, 175, 176, 177, 178, 179, 180, 28, 181, 42, 43, 182, 183, 794, 795, 796, 797, 798, 799, 816, 817, 818, 819, 820, 821, 822, 823, 824, 825, 826] (by decide +kernel) (by decide +kernel)) (goodIn_sub (fun _ h => List.mem_append_left _ (List.mem_append_right _ h)) (by decide +kernel))
set_option maxRecDepth 20000 in
theorem gL_law_L_undo : GoodIn wsL_law (va_wsS RL 88 yL_undo wsL_undo) := goodIn_app (goodIn_of _ (by decide +kernel)) ggL_law_L_undo
set_option maxRecDepth 20000 in
theorem ggL_law_X4_undo : GoodIn wsL_law wsX4_undo := goodIn_r _ [521, 379, 94, 54, 55, 800, 801, 802, 803, 804, 805, 806, 807, 808, 809, 810, 811, 812, 813, 814, 815] (by decide +kernel) (by decide +kernel)
set_option maxRecDepth 20000 in
theorem gL_law_X4_undo : GoodIn wsL_law (wsV RL 90 RX4 yX4_undo wsX4_undo) := goodIn_app (goodIn_of _ (by decide +kernel)) ggL_law_X4_undo
set_option maxRecDepth 20000 in
theorem ggL_law_L_cell : GoodIn wsL_law wsL_cell := goodIn_ca (goodIn_ca (goodIn_r _ [524, 525, 75, 526, 527, 528, 2, 529, 530, 531, 81, 82, 16, 532, 533, 534, 15, 535, 31, 32, 33, 34, 35, 37, 146, 147, 228, 229, 230, 231, 36, 232, 233, 234, 235, 236, 237, 238, 794, 795, 796, 797, 798, 799, 816, 817, 818, 819, 820, 821, 822, 823, 824] (by decide +kernel) (by decide +kernel)) (goodIn_sub (fun _ h => List.mem_append_right _ h) (by decide +kernel))) (goodIn_sub (fun _ h => List.mem_append_left _ (List.mem_append_left _ (List.mem_append_right _ h))) (by decide +kernel))
set_option maxRecDepth 20000 in
theorem gL_law_L_cell : GoodIn wsL_law (va_wsS RL 91 yL_cell wsL_cell) := goodIn_app (goodIn_of _ (by decide +kernel)) ggL_law_L_cell
set_option maxRecDepth 20000 in
theorem ggL_law_X4_cell : GoodIn wsL_law wsX4_cell := goodIn_r _ [539, 94, 95, 96, 5, 97, 540, 541, 542, 543, 54, 59, 288, 289, 290, 291, 316, 317, 318, 319, 284, 285, 286, 287, 292, 293, 294, 295, 320, 321, 322, 456, 457, 458, 459, 359, 360, 361, 362, 800, 801, 802, 803, 804, 805, 806, 807, 808, 809, 810, 811, 812, 813, 814, 815] (by decide +kernel) (by decide +kernel)
set_option maxRecDepth 20000 in
theorem gL_law_X4_cell : GoodIn wsL_law (wsV RL 94 RX4 yX4_cell wsX4_cell) := goodIn_app (goodIn_of _ (by decide +kernel)) ggL_law_X4_cell
set_option maxRecDepth 20000 in
theorem ggL_law_L_end : GoodIn wsL_law wsL_end := goodIn_ca (goodIn_ca (goodIn_r _ [546, 525, 75, 547, 548, 549, 2, 550, 530, 531, 81, 82, 16, 551, 552, 553, 554, 28, 555, 42, 146, 147, 556, 153, 154, 155, 43, 557, 419, 87, 420, 421, 118, 119, 120, 121, 122, 123, 794, 795, 796, 797, 798, 799, 816, 817, 818, 819, 820, 821, 822, 823, 824, 825, 826] (by decide +kernel) (by decide +kernel)) (goodIn_sub (fun _ h => List.mem_append_right _ h) (by decide +kernel))) (goodIn_sub (fun _ h => List.mem_append_left _ (List.mem_append_left _ (List.mem_append_right _ h))) (by decide +kernel))
set_option maxRecDepth 20000 in
theorem gL_law_L_end : GoodIn wsL_law (va_wsS RL 95 yL_end wsL_end) := goodIn_app (goodIn_of _ (by decide +kernel)) ggL_law_L_end
set_option maxRecDepth 20000 in
theorem ggL_law_X4_end : GoodIn wsL_law wsX4_end := goodIn_r _ [561, 94, 95, 96, 5, 97, 562, 563, 564, 565, 343, 344, 345, 346, 54, 351, 352, 353, 354, 800, 801, 802, 803, 804, 805, 806, 807, 808, 809, 810, 811, 812, 813, 814, 815] (by decide +kernel) (by decide +kernel)
set_option maxRecDepth 20000 in
theorem gL_law_X4_end : GoodIn wsL_law (wsV RL 97 RX4 yX4_end wsX4_end) := goodIn_app (goodIn_of _ (by decide +kernel)) ggL_law_X4_end
set_option maxRecDepth 20000 in
theorem ggL_law_L_letter : GoodIn wsL_law wsL_letter := goodIn_ca (goodIn_ca (goodIn_r _ [568, 525, 75, 569, 570, 571, 2, 572, 530, 531, 81, 82, 16, 551, 556, 153, 154, 28, 155, 43, 117, 118, 87, 119, 120, 121, 122, 123, 794, 795, 796, 797, 798, 799, 816, 817, 818, 819, 820, 821, 822, 823, 824, 825, 826] (by decide +kernel) (by decide +kernel)) (goodIn_sub (fun _ h => List.mem_append_right _ h) (by decide +kernel))) (goodIn_sub (fun _ h => List.mem_append_left _ (List.mem_append_left _ (List.mem_append_right _ h))) (by decide +kernel))
set_option maxRecDepth 20000 in
theorem gL_law_L_letter : GoodIn wsL_law (va_wsS RL 98 yL_letter wsL_letter) := goodIn_app (goodIn_of _ (by decide +kernel)) ggL_law_L_letter
set_option maxRecDepth 20000 in
theorem ggL_law_X4_letter : GoodIn wsL_law wsX4_letter := goodIn_r _ [576, 94, 95, 96, 5, 97, 343, 344, 345, 346, 54, 351, 352, 353, 354, 355, 356, 357, 358, 800, 801, 802, 803, 804, 805, 806, 807, 808, 809, 810, 811, 812, 813, 814, 815] (by decide +kernel) (by decide +kernel)
set_option maxRecDepth 20000 in
theorem gL_law_X4_letter : GoodIn wsL_law (wsV RL 100 RX4 yX4_letter wsX4_letter) := goodIn_app (goodIn_of _ (by decide +kernel)) ggL_law_X4_letter
set_option maxRecDepth 20000 in
theorem ggL_law_L_count : GoodIn wsL_law wsL_count := goodIn_ca (goodIn_r _ [579, 75, 580, 581, 582, 2, 583, 81, 82, 16, 551, 584, 21, 19, 585, 439, 440, 15, 441, 37, 146, 147, 498, 495, 496, 497, 31, 586, 587, 588, 589, 590, 591, 592, 28, 593, 42, 594, 595, 596, 597, 43, 598, 419, 87, 420, 421, 118, 119, 120, 121, 122, 123, 599, 600, 601, 602, 603, 604, 605, 606, 33, 148, 149, 150, 151, 29, 35, 152, 153, 154, 155, 607, 794, 795, 796, 797, 798, 799, 816, 817, 818, 819, 820, 821, 822, 823, 824, 825, 826] (by decide +kernel) (by decide +kernel)) (goodIn_sub (fun _ h => List.mem_append_left _ (List.mem_append_left _ (List.mem_append_right _ h))) (by decide +kernel))
set_option maxRecDepth 20000 in
theorem gL_law_L_count : GoodIn wsL_law (va_wsS RL 101 yL_count wsL_count) := goodIn_app (goodIn_of _ (by decide +kernel)) ggL_law_L_count
set_option maxRecDepth 20000 in
theorem ggL_law_X4_count : GoodIn wsL_law wsX4_count := goodIn_r _ [611, 94, 95, 96, 5, 97, 612, 613, 614, 615, 54, 93, 379, 616, 617, 618, 619, 503, 504, 505, 506, 292, 293, 294, 295, 620, 621, 622, 623, 343, 344, 345, 346, 624, 625, 626, 627, 351, 352, 353, 354, 628, 629, 630, 631, 632, 633, 634, 635, 59, 464, 456, 457, 458, 459, 359, 360, 361, 362, 460, 461, 462, 463, 60, 455, 284, 285, 286, 287, 288, 289, 290, 291, 355, 356, 357, 358, 800, 801, 802, 803, 804, 805, 806, 807, 808, 809, 810, 811, 812, 813, 814, 815] (by decide +kernel) (by decide +kernel)
set_option maxRecDepth 20000 in
theorem gL_law_X4_count : GoodIn wsL_law (wsV RL 103 RX4 yX4_count wsX4_count) := goodIn_app (goodIn_of _ (by decide +kernel)) ggL_law_X4_count
set_option maxRecDepth 20000 in
theorem ggL_law_X3_find : GoodIn wsL_law wsX3_find := goodIn_r _ [639, 16, 20, 142, 143, 144, 15, 145, 31, 146, 2, 147, 148, 149, 150, 151, 29, 35, 152, 153, 154, 28, 155, 43, 156, 121, 87, 122, 123, 157, 158, 159, 160, 36, 34, 161, 162, 163, 794, 795, 796, 797, 798, 799, 816, 817, 818, 819, 820, 821, 822, 823, 824, 825, 826] (by decide +kernel) (by decide +kernel)
set_option maxRecDepth 20000 in
theorem gL_law_X3_find : GoodIn wsL_law (wsV RL 104 RX3 yX3_find wsX3_find) := goodIn_app (goodIn_of _ (by decide +kernel)) ggL_law_X3_find
set_option maxRecDepth 20000 in
theorem ggL_law_X4_find : GoodIn wsL_law wsX4_find := goodIn_r _ [643, 94, 57, 93, 399, 400, 401, 5, 402, 54, 359, 360, 361, 362, 284, 285, 286, 287, 288, 289, 290, 291, 292, 293, 294, 295, 347, 348, 349, 350, 343, 344, 345, 346, 351, 352, 353, 354, 355, 356, 357, 358, 800, 801, 802, 803, 804, 805, 806, 807, 808, 809, 810, 811, 812, 813, 814, 815] (by decide +kernel) (by decide +kernel)
set_option maxRecDepth 20000 in
theorem gL_law_X4_find : GoodIn wsL_law (wsV RL 107 RX4 yX4_find wsX4_find) := goodIn_app (goodIn_of _ (by decide +kernel)) ggL_law_X4_find
set_option maxRecDepth 20000 in
theorem ggL_law_X3_longest : GoodIn wsL_law wsX3_longest := goodIn_r _ [647, 16, 20, 648, 649, 650, 15, 651, 31, 146, 2, 147, 148, 149, 150, 151, 29, 35, 152, 153, 154, 28, 155, 43, 415, 416, 87, 417, 418, 419, 420, 421, 118, 119, 120, 121, 122, 123, 422, 125, 126, 607, 157, 158, 159, 160, 36, 34, 156, 161, 162, 163, 794, 795, 796, 797, 798, 799, 816, 817, 818, 819, 820, 821, 822, 823, 824, 825, 826] (by decide +kernel) (by decide +kernel)
set_option maxRecDepth 20000 in
theorem gL_law_X3_longest : GoodIn wsL_law (wsV RL 108 RX3 yX3_longest wsX3_longest) := goodIn_app (goodIn_of _ (by decide +kernel)) ggL_law_X3_longest
set_option maxRecDepth 20000 in
theorem ggL_law_X4_longest : GoodIn wsL_law wsX4_longest := goodIn_r _ [655, 94, 656, 657, 658, 5, 659, 59, 464, 456, 457, 458, 459, 54, 359, 360, 361, 362, 460, 461, 462, 463, 60, 455, 284, 285, 286, 287, 288, 289, 290, 291, 292, 293, 294, 295, 351, 352, 353, 354, 355, 356, 357, 358, 465, 466, 467, 468, 93, 57, 800, 801, 802, 803, 804, 805, 806, 807, 808, 809, 810, 811, 812, 813, 814, 815] (by decide +kernel) (by decide +kernel)
set_option maxRecDepth 20000 in
theorem gL_law_X4_longest : GoodIn wsL_law (wsV RL 111 RX4 yX4_longest wsX4_longest) := goodIn_app (goodIn_of _ (by decide +kernel)) ggL_law_X4_longest
set_option maxRecDepth 20000 in
theorem ggL_law_X3_beginning : GoodIn wsL_law wsX3_beginning := goodIn_r _ [663, 16, 20, 411, 412, 413, 15, 414, 31, 37, 146, 2, 147, 148, 149, 150, 151, 29, 35, 152, 153, 154, 28, 155, 43, 415, 416, 87, 417, 418, 419, 420, 421, 118, 119, 120, 121, 122, 123, 422, 125, 126, 156, 157, 158, 159, 160, 36, 34, 161, 162, 163, 794, 795, 796, 797, 798, 799, 816, 817, 818, 819, 820, 821, 822, 823, 824, 825, 826] (by decide +kernel) (by decide +kernel)
set_option maxRecDepth 20000 in
theorem gL_law_X3_beginning : GoodIn wsL_law (wsV RL 112 RX3 yX3_beginning wsX3_beginning) := goodIn_app (goodIn_of _ (by decide +kernel)) ggL_law_X3_beginning
set_option maxRecDepth 20000 in
theorem ggL_law_X4_beginning : GoodIn wsL_law wsX4_beginning := goodIn_r _ [667, 94, 668, 669, 670, 5, 671, 59, 93, 456, 457, 458, 459, 54, 359, 360, 361, 362, 460, 461, 462, 463, 464, 60, 455, 284, 285, 286, 287, 288, 289, 290, 291, 292, 293, 294, 295, 351, 352, 353, 354, 355, 356, 357, 358, 465, 466, 467, 468, 57, 800, 801, 802, 803, 804, 805, 806, 807, 808, 809, 810, 811, 812, 813, 814, 815] (by decide +kernel) (by decide +kernel)
set_option maxRecDepth 20000 in
theorem gL_law_X4_beginning : GoodIn wsL_law (wsV RL 115 RX4 yX4_beginning wsX4_beginning) := goodIn_app (goodIn_of _ (by decide +kernel)) ggL_law_X4_beginning
set_option maxRecDepth 20000 in
theorem ggL_law_X3_ahead : GoodIn wsL_law wsX3_ahead := goodIn_r _ [675, 16, 20, 423, 424, 425, 15, 426, 31, 146, 2, 147, 148, 149, 150, 151, 29, 35, 152, 153, 154, 28, 155, 43, 427, 428, 87, 429, 421, 118, 119, 120, 121, 122, 123, 156, 430, 431, 432, 433, 37, 157, 158, 159, 160, 36, 34, 161, 162, 163, 794, 795, 796, 797, 798, 799, 816, 817, 818, 819, 820, 821, 822, 823, 824, 825, 826] (by decide +kernel) (by decide +kernel)
set_option maxRecDepth 20000 in
theorem gL_law_X3_ahead : GoodIn wsL_law (wsV RL 116 RX3 yX3_ahead wsX3_ahead) := goodIn_app (goodIn_of _ (by decide +kernel)) ggL_law_X3_ahead
set_option maxRecDepth 20000 in
theorem ggL_law_X4_ahead : GoodIn wsL_law wsX4_ahead := goodIn_r _ [679, 94, 680, 681, 682, 5, 683, 59, 93, 464, 60, 57, 456, 457, 458, 459, 54, 359, 360, 361, 362, 460, 461, 462, 463, 455, 284, 285, 286, 287, 288, 289, 290, 291, 292, 293, 294, 295, 351, 352, 353, 354, 355, 356, 357, 358, 465, 466, 467, 468, 800, 801, 802, 803, 804, 805, 806, 807, 808, 809, 810, 811, 812, 813, 814, 815] (by decide +kernel) (by decide +kernel)
set_option maxRecDepth 20000 in
theorem gL_law_X4_ahead : GoodIn wsL_law (wsV RL 119 RX4 yX4_ahead wsX4_ahead) := goodIn_app (goodIn_of _ (by decide +kernel)) ggL_law_X4_ahead
set_option maxRecDepth 20000 in
theorem ggL_law_L_word : GoodIn wsL_law wsL_word := goodIn_ca (goodIn_r _ [686, 75, 687, 688, 689, 2, 690, 81, 82, 16, 434, 435, 436, 15, 437, 31, 438, 439, 440, 441, 37, 146, 147, 148, 149, 150, 151, 29, 35, 152, 153, 154, 28, 155, 43, 442, 443, 444, 445, 157, 158, 159, 160, 36, 34, 430, 431, 432, 433, 446, 86, 87, 88, 557, 419, 420, 421, 118, 119, 120, 121, 122, 123, 117, 794, 795, 796, 797, 798, 799, 816, 817, 818, 819, 820, 821, 822, 823, 824, 825, 826] (by decide +kernel) (by decide +kernel)) (goodIn_sub (fun _ h => List.mem_append_left _ (List.mem_append_left _ (List.mem_append_right _ h))) (by decide +kernel))
set_option maxRecDepth 20000 in
theorem gL_law_L_word : GoodIn wsL_law (va_wsS RL 120 yL_word wsL_word) := goodIn_app (goodIn_of _ (by decide +kernel)) ggL_law_L_word
set_option maxRecDepth 20000 in
theorem ggL_law_X4_word : GoodIn wsL_law wsX4_word := goodIn_r _ [694, 94, 95, 96, 5, 97, 695, 696, 697, 698, 59, 464, 60, 456, 457, 458, 459, 54, 359, 360, 361, 362, 460, 461, 462, 463, 455, 284, 285, 286, 287, 288, 289, 290, 291, 292, 293, 294, 295, 351, 352, 353, 354, 355, 356, 357, 358, 800, 801, 802, 803, 804, 805, 806, 807, 808, 809, 810, 811, 812, 813, 814, 815] (by decide +kernel) (by decide +kernel)
set_option maxRecDepth 20000 in
theorem gL_law_X4_word : GoodIn wsL_law (wsV RL 122 RX4 yX4_word wsX4_word) := goodIn_app (goodIn_of _ (by decide +kernel)) ggL_law_X4_word
set_option maxRecDepth 20000 in
theorem ggL_law_L_ifAdded : GoodIn wsL_law wsL_ifAdded := goodIn_ca (goodIn_r _ [701, 75, 702, 703, 704, 2, 705, 81, 82, 138, 139, 140, 141, 21, 16, 20, 17, 142, 143, 144, 15, 145, 31, 146, 147, 148, 149, 150, 151, 29, 35, 152, 153, 154, 28, 155, 43, 156, 121, 87, 122, 123, 157, 158, 159, 160, 36, 34, 161, 162, 163, 164, 165, 166, 167, 32, 33, 37, 38, 168, 169, 170, 171, 172, 173, 174, 175, 176, 177, 178, 179, 180, 181, 42, 182, 183, 184, 185, 186, 187, 188, 189, 190, 191, 192, 193, 194, 195, 48, 49, 196, 197, 198, 199, 200, 201, 202, 203, 204, 205, 206, 207, 208, 209, 210, 211, 212, 213, 214, 215, 216, 217, 218, 219, 220, 221, 222, 223, 224, 225, 226, 227, 228, 229, 230, 231, 232, 233, 234, 235, 236, 237, 238, 239, 240, 241, 242, 243, 244, 245, 246, 247, 248, 249, 250, 251, 252, 253, 254, 255, 256, 257, 258, 706, 707, 708, 709, 584, 551, 498, 495, 496, 497, 590, 591, 592, 593, 794, 795, 796, 797, 798, 799, 816, 817, 818, 819, 820, 821, 822, 823, 824, 825, 826] (by decide +kernel) (by decide +kernel)) (goodIn_sub (fun _ h => List.mem_append_left _ (List.mem_append_left _ (List.mem_append_right _ h))) (by decide +kernel))
set_option maxRecDepth 20000 in
theorem gL_law_L_ifAdded : GoodIn wsL_law (va_wsS RL 123 yL_ifAdded wsL_ifAdded) := goodIn_app (goodIn_of _ (by decide +kernel)) ggL_law_L_ifAdded
set_option maxRecDepth 20000 in
theorem ggL_law_X4_ifAdded : GoodIn wsL_law wsX4_ifAdded := goodIn_r _ [713, 94, 95, 96, 5, 97, 714, 715, 716, 717, 54, 503, 504, 505, 506, 292, 293, 294, 295, 620, 621, 622, 623, 343, 344, 345, 346, 272, 273, 274, 275, 93, 57, 276, 277, 278, 279, 56, 280, 281, 282, 283, 271, 284, 285, 286, 287, 288, 289, 290, 291, 296, 297, 298, 299, 300, 301, 302, 303, 304, 305, 306, 307, 308, 309, 310, 311, 312, 313, 314, 315, 316, 317, 318, 319, 320, 321, 322, 323, 324, 325, 326, 327, 328, 329, 330, 67, 68, 69, 70, 331, 332, 333, 334, 335, 336, 337, 338, 339, 340, 341, 342, 347, 348, 349, 350, 351, 352, 353, 354, 355, 356, 357, 358, 359, 360, 361, 362, 363, 364, 365, 366, 58, 367, 368, 369, 370, 371, 372, 373, 374, 800, 801, 802, 803, 804, 805, 806, 807, 808, 809, 810, 811, 812, 813, 814, 815] (by decide +kernel) (by decide +kernel)
set_option maxRecDepth 20000 in
theorem gL_law_X4_ifAdded : GoodIn wsL_law (wsV RL 125 RX4 yX4_ifAdded wsX4_ifAdded) := goodIn_app (goodIn_of _ (by decide +kernel)) ggL_law_X4_ifAdded
set_option maxRecDepth 20000 in
theorem ggL_law_X3_ifPacked : GoodIn wsL_law wsX3_ifPacked := goodIn_r _ [721, 17, 16, 476, 477, 478, 15, 479, 38, 480, 481, 482, 483, 31, 29, 251, 252, 253, 254, 32, 33, 34, 35, 36, 37, 48, 2, 49, 484, 485, 486, 28, 487, 42, 43, 488, 45, 46, 47, 489, 490, 491, 438, 439, 440, 441, 146, 147, 492, 435, 436, 437, 148, 149, 150, 151, 152, 153, 154, 155, 442, 443, 444, 445, 157, 158, 159, 160, 430, 431, 432, 433, 446, 86, 87, 88, 493, 185, 186, 187, 188, 189, 190, 191, 192, 193, 194, 195, 156, 121, 122, 123, 196, 197, 198, 199, 200, 201, 202, 203, 204, 205, 206, 207, 161, 162, 163, 208, 209, 210, 211, 212, 213, 214, 215, 216, 217, 218, 219, 220, 221, 222, 223, 224, 225, 226, 227, 228, 229, 230, 231, 232, 233, 234, 235, 236, 237, 238, 239, 240, 241, 242, 243, 244, 245, 246, 247, 248, 249, 250, 255, 256, 257, 258, 494, 495, 496, 497, 794, 795, 796, 797, 798, 799, 816, 817, 818, 819, 820, 821, 822, 823, 824, 825, 826] (by decide +kernel) (by decide +kernel)
set_option maxRecDepth 20000 in
theorem gL_law_X3_ifPacked : GoodIn wsL_law (wsV RL 126 RX3 yX3_ifPacked wsX3_ifPacked) := goodIn_app (goodIn_of _ (by decide +kernel)) ggL_law_X3_ifPacked
set_option maxRecDepth 20000 in
theorem ggL_law_X3_fullness : GoodIn wsL_law wsX3_fullness := goodIn_r _ [733, 16, 498, 495, 496, 15, 497, 31, 599, 600, 601, 602, 794, 795, 796, 797, 798, 799, 816, 817, 818, 819, 820, 821, 822, 823, 824] (by decide +kernel) (by decide +kernel)
set_option maxRecDepth 20000 in
theorem gL_law_X3_fullness : GoodIn wsL_law (wsV RL 130 RX3 yX3_fullness wsX3_fullness) := goodIn_app (goodIn_of _ (by decide +kernel)) ggL_law_X3_fullness
set_option maxRecDepth 20000 in
theorem ggL_law_X4_fullness : GoodIn wsL_law wsX4_fullness := goodIn_r _ [737, 94, 738, 739, 740, 5, 741, 503, 504, 505, 506, 292, 293, 294, 295, 54, 628, 629, 630, 631, 800, 801, 802, 803, 804, 805, 806, 807, 808, 809, 810, 811, 812, 813, 814, 815] (by decide +kernel) (by decide +kernel)
set_option maxRecDepth 20000 in
theorem gL_law_X4_fullness : GoodIn wsL_law (wsV RL 134 RX4 yX4_fullness wsX4_fullness) := goodIn_app (goodIn_of _ (by decide +kernel)) ggL_law_X4_fullness
