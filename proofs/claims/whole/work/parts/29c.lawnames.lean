set_option maxRecDepth 20000 in
theorem ggL_law_X4_init : GoodIn wsL_law wsX4_init := goodIn_r _ [10, 11, 12, 13, 14, 15, 16, 17, 18, 19, 20, 21, 22, 23, 24, 25, 26, 27, 28, 29, 30, 31, 32, 33, 34, 35, 36, 37, 38, 39, 40, 41, 42, 43, 44, 45, 46, 47, 48, 49, 50, 51, 52, 53, 54, 55, 56, 57, 58, 59, 60, 61, 62, 63, 797, 798, 772, 773, 774, 775, 776, 777, 778, 799, 800, 801, 802, 803, 804, 805, 806, 807, 808, 809, 810, 811, 812, 813, 814, 815, 816, 817, 818, 819, 820, 821, 822, 823] (by decide +kernel) (by decide +kernel)
set_option maxRecDepth 20000 in
theorem gL_law_X4_init : GoodIn wsL_law (wsX4_init) := ggL_law_X4_init
set_option maxRecDepth 20000 in
theorem ggL_law_X5_init : GoodIn wsL_law wsX5_init := goodIn_r _ [66, 67, 12, 13, 35, 68, 69, 70, 71, 72, 73, 779, 780, 781, 782, 783, 784, 785, 786, 787, 788, 789, 790, 791, 792, 793, 794, 795, 796] (by decide +kernel) (by decide +kernel)
set_option maxRecDepth 20000 in
theorem gL_law_X5_init : GoodIn wsL_law (wsX5_init) := ggL_law_X5_init
set_option maxRecDepth 20000 in
theorem ggL_law_X4_put : GoodIn wsL_law wsX4_put := goodIn_r _ [77, 17, 78, 79, 80, 16, 81, 36, 82, 83, 84, 85, 86, 87, 88, 89, 90, 772, 773, 774, 775, 776, 777, 778, 797, 798] (by decide +kernel) (by decide +kernel)
set_option maxRecDepth 20000 in
theorem gL_law_X4_put : GoodIn wsL_law (wsV RL 53 RX4 yX4_put wsX4_put) := goodIn_app (goodIn_of _ (by decide +kernel)) ggL_law_X4_put
set_option maxRecDepth 20000 in
theorem ggL_law_X5_put : GoodIn wsL_law wsX5_put := goodIn_r _ [94, 95, 69, 96, 97, 98, 99, 5, 100, 68, 779, 780, 781, 782, 783, 784, 785, 786, 787, 788, 789, 790, 791, 792, 793, 794, 795, 796] (by decide +kernel) (by decide +kernel)
set_option maxRecDepth 20000 in
theorem gL_law_X5_put : GoodIn wsL_law (wsV RL 57 RX5 yX5_put wsX5_put) := goodIn_app (goodIn_of _ (by decide +kernel)) ggL_law_X5_put
set_option maxRecDepth 20000 in
theorem ggL_law_X4_cut : GoodIn wsL_law wsX4_cut := goodIn_r _ [104, 17, 105, 106, 107, 16, 108, 82, 109, 110, 111, 112, 772, 773, 774, 775, 776, 777, 778, 797, 798] (by decide +kernel) (by decide +kernel)
set_option maxRecDepth 20000 in
theorem gL_law_X4_cut : GoodIn wsL_law (wsV RL 58 RX4 yX4_cut wsX4_cut) := goodIn_app (goodIn_of _ (by decide +kernel)) ggL_law_X4_cut
set_option maxRecDepth 20000 in
theorem ggL_law_X5_cut : GoodIn wsL_law wsX5_cut := goodIn_r _ [116, 95, 69, 779, 780, 781, 782, 783, 784, 785, 786, 787, 788, 789, 790, 791, 792, 793, 794, 795, 796] (by decide +kernel) (by decide +kernel)
set_option maxRecDepth 20000 in
theorem gL_law_X5_cut : GoodIn wsL_law (wsV RL 62 RX5 yX5_cut wsX5_cut) := goodIn_app (goodIn_of _ (by decide +kernel)) ggL_law_X5_cut
set_option maxRecDepth 20000 in
theorem ggL_law_X4_alter : GoodIn wsL_law wsX4_alter := goodIn_r _ [120, 17, 121, 122, 123, 16, 124, 82, 125, 126, 127, 128, 36, 772, 773, 774, 775, 776, 777, 778, 797, 798] (by decide +kernel) (by decide +kernel)
set_option maxRecDepth 20000 in
theorem gL_law_X4_alter : GoodIn wsL_law (wsV RL 63 RX4 yX4_alter wsX4_alter) := goodIn_app (goodIn_of _ (by decide +kernel)) ggL_law_X4_alter
set_option maxRecDepth 20000 in
theorem ggL_law_X5_alter : GoodIn wsL_law wsX5_alter := goodIn_r _ [132, 95, 69, 68, 779, 780, 781, 782, 783, 784, 785, 786, 787, 788, 789, 790, 791, 792, 793, 794, 795, 796] (by decide +kernel) (by decide +kernel)
set_option maxRecDepth 20000 in
theorem gL_law_X5_alter : GoodIn wsL_law (wsV RL 67 RX5 yX5_alter wsX5_alter) := goodIn_app (goodIn_of _ (by decide +kernel)) ggL_law_X5_alter
set_option maxRecDepth 20000 in
theorem ggL_law_X4_length : GoodIn wsL_law wsX4_length := goodIn_r _ [136, 17, 105, 106, 107, 16, 108, 82, 772, 773, 774, 775, 776, 777, 778, 797, 798] (by decide +kernel) (by decide +kernel)
set_option maxRecDepth 20000 in
theorem gL_law_X4_length : GoodIn wsL_law (wsV RL 68 RX4 yX4_length wsX4_length) := goodIn_app (goodIn_of _ (by decide +kernel)) ggL_law_X4_length
set_option maxRecDepth 20000 in
theorem ggL_law_X5_length : GoodIn wsL_law wsX5_length := goodIn_r _ [140, 95, 69, 779, 780, 781, 782, 783, 784, 785, 786, 787, 788, 789, 790, 791, 792, 793, 794, 795, 796] (by decide +kernel) (by decide +kernel)
set_option maxRecDepth 20000 in
theorem gL_law_X5_length : GoodIn wsL_law (wsV RL 71 RX5 yX5_length wsX5_length) := goodIn_app (goodIn_of _ (by decide +kernel)) ggL_law_X5_length
set_option maxRecDepth 20000 in
theorem ggL_law_L_at : GoodIn wsL_law wsL_at := goodIn_ca (goodIn_r _ [144, 145, 146, 147, 148, 2, 149, 150, 151, 17, 121, 122, 123, 16, 124, 82, 152, 153, 154, 155, 36, 772, 773, 774, 775, 776, 777, 778, 797, 798] (by decide +kernel) (by decide +kernel)) (goodIn_sub (fun _ h => List.mem_append_left _ (List.mem_append_left _ (List.mem_append_left _ (List.mem_append_left _ (List.mem_append_right _ h))))) (by decide +kernel))
set_option maxRecDepth 20000 in
theorem gL_law_L_at : GoodIn wsL_law (va_wsS RL 72 yL_at wsL_at) := goodIn_app (goodIn_of _ (by decide +kernel)) ggL_law_L_at
set_option maxRecDepth 20000 in
theorem ggL_law_X5_at : GoodIn wsL_law wsX5_at := goodIn_r _ [159, 69, 95, 68, 779, 780, 781, 782, 783, 784, 785, 786, 787, 788, 789, 790, 791, 792, 793, 794, 795, 796] (by decide +kernel) (by decide +kernel)
set_option maxRecDepth 20000 in
theorem gL_law_X5_at : GoodIn wsL_law (wsV RL 77 RX5 yX5_at wsX5_at) := goodIn_app (goodIn_of _ (by decide +kernel)) ggL_law_X5_at
set_option maxRecDepth 20000 in
theorem ggL_law_X5_thrown : GoodIn wsL_law wsX5_thrown := goodIn_r _ [163, 95, 779, 780, 781, 782, 783, 784, 785, 786, 787, 788, 789, 790, 791, 792, 793, 794, 795, 796] (by decide +kernel) (by decide +kernel)
set_option maxRecDepth 20000 in
theorem gL_law_X5_thrown : GoodIn wsL_law (wsV RL 78 RX5 yX5_thrown wsX5_thrown) := goodIn_app (goodIn_of _ (by decide +kernel)) ggL_law_X5_thrown
set_option maxRecDepth 20000 in
theorem ggL_law_X4_mix : GoodIn wsL_law wsX4_mix := goodIn_r _ [167, 17, 105, 106, 107, 16, 108, 82, 168, 169, 170, 171, 172, 36, 173, 772, 773, 774, 775, 776, 777, 778, 797, 798] (by decide +kernel) (by decide +kernel)
set_option maxRecDepth 20000 in
theorem gL_law_X4_mix : GoodIn wsL_law (wsV RL 81 RX4 yX4_mix wsX4_mix) := goodIn_app (goodIn_of _ (by decide +kernel)) ggL_law_X4_mix
set_option maxRecDepth 20000 in
theorem ggL_law_X5_mix : GoodIn wsL_law wsX5_mix := goodIn_r _ [177, 95, 69, 178, 179, 180, 5, 181, 182, 68, 183, 779, 780, 781, 782, 783, 784, 785, 786, 787, 788, 789, 790, 791, 792, 793, 794, 795, 796] (by decide +kernel) (by decide +kernel)
set_option maxRecDepth 20000 in
theorem gL_law_X5_mix : GoodIn wsL_law (wsV RL 84 RX5 yX5_mix wsX5_mix) := goodIn_app (goodIn_of _ (by decide +kernel)) ggL_law_X5_mix
set_option maxRecDepth 20000 in
theorem ggL_law_X4_digest : GoodIn wsL_law wsX4_digest := goodIn_r _ [187, 17, 18, 78, 79, 80, 16, 81, 36, 82, 188, 189, 190, 191, 192, 169, 170, 171, 172, 173, 193, 194, 195, 196, 87, 88, 89, 90, 772, 773, 774, 775, 776, 777, 778, 797, 798] (by decide +kernel) (by decide +kernel)
set_option maxRecDepth 20000 in
theorem gL_law_X4_digest : GoodIn wsL_law (wsV RL 85 RX4 yX4_digest wsX4_digest) := goodIn_app (goodIn_of _ (by decide +kernel)) ggL_law_X4_digest
set_option maxRecDepth 20000 in
theorem ggL_law_X5_digest : GoodIn wsL_law wsX5_digest := goodIn_r _ [200, 95, 69, 178, 179, 180, 5, 181, 182, 68, 183, 201, 202, 203, 204, 97, 98, 99, 100, 779, 780, 781, 782, 783, 784, 785, 786, 787, 788, 789, 790, 791, 792, 793, 794, 795, 796] (by decide +kernel) (by decide +kernel)
set_option maxRecDepth 20000 in
theorem gL_law_X5_digest : GoodIn wsL_law (wsV RL 89 RX5 yX5_digest wsX5_digest) := goodIn_app (goodIn_of _ (by decide +kernel)) ggL_law_X5_digest
set_option maxRecDepth 20000 in
theorem ggL_law_L_sign : GoodIn wsL_law wsL_sign := goodIn_ca (goodIn_ca (goodIn_ca (goodIn_r _ [207, 145, 208, 209, 210, 211, 212, 2, 213, 150, 151, 214, 215, 216, 217, 22, 17, 218, 219, 220, 21, 221, 42, 222, 223, 224, 225, 226, 227, 228, 229, 16, 230, 82, 36, 231, 232, 233, 234, 235, 236, 237, 238, 239, 240, 241, 242, 243, 244, 245, 246, 153, 154, 155, 247, 248, 249, 250, 43, 251, 252, 253, 254, 255, 256, 257, 258, 259, 260, 261, 262, 44, 263, 264, 265, 266, 267, 45, 268, 269, 270, 271, 272, 273, 274, 275, 276, 277, 278, 279, 280, 281, 282, 283, 284, 285, 46, 286, 106, 107, 108, 287, 288, 289, 290, 291, 292, 293, 294, 295, 296, 297, 298, 299, 300, 301, 302, 78, 79, 80, 81, 303, 88, 89, 90, 304, 305, 306, 307, 125, 126, 127, 128, 308, 309, 310, 311, 312, 169, 170, 171, 172, 173, 193, 194, 195, 196, 87, 772, 773, 774, 775, 776, 777, 778, 799, 800, 801, 802, 803, 804, 805, 806, 807, 808, 809, 810, 811, 812, 813, 797, 798] (by decide +kernel) (by decide +kernel)) (goodIn_sub (fun _ h => List.mem_append_left _ (List.mem_append_left _ (List.mem_append_left _ (List.mem_append_left _ (List.mem_append_right _ h))))) (by decide +kernel))) (goodIn_sub (fun _ h => List.mem_append_left _ (List.mem_append_left _ (List.mem_append_left _ (List.mem_append_right _ h)))) (by decide +kernel))) (goodIn_sub (fun _ h => List.mem_append_left _ (List.mem_append_left _ (List.mem_append_right _ h))) (by decide +kernel))
set_option maxRecDepth 20000 in
theorem gL_law_L_sign : GoodIn wsL_law (va_wsS RL 90 yL_sign wsL_sign) := goodIn_app (goodIn_of _ (by decide +kernel)) ggL_law_L_sign
set_option maxRecDepth 20000 in
theorem ggL_law_X5_sign : GoodIn wsL_law wsX5_sign := goodIn_r _ [316, 95, 317, 318, 68, 319, 69, 320, 321, 322, 5, 323, 324, 325, 326, 327, 328, 329, 330, 331, 332, 333, 334, 335, 336, 337, 338, 339, 340, 341, 342, 343, 344, 345, 346, 347, 348, 349, 350, 351, 352, 353, 354, 355, 356, 357, 358, 359, 360, 361, 362, 363, 364, 365, 178, 179, 180, 181, 182, 183, 97, 98, 99, 100, 201, 202, 203, 204, 779, 780, 781, 782, 783, 784, 785, 786, 787, 788, 789, 790, 791, 792, 793, 794, 795, 796] (by decide +kernel) (by decide +kernel)
set_option maxRecDepth 20000 in
theorem gL_law_X5_sign : GoodIn wsL_law (wsV RL 92 RX5 yX5_sign wsX5_sign) := goodIn_app (goodIn_of _ (by decide +kernel)) ggL_law_X5_sign
set_option maxRecDepth 20000 in
theorem ggL_law_X4_content : GoodIn wsL_law wsX4_content := goodIn_r _ [369, 18, 17, 370, 228, 229, 16, 230, 82, 36, 231, 232, 233, 234, 105, 106, 107, 108, 772, 773, 774, 775, 776, 777, 778, 797, 798] (by decide +kernel) (by decide +kernel)
set_option maxRecDepth 20000 in
theorem gL_law_X4_content : GoodIn wsL_law (wsV RL 93 RX4 yX4_content wsX4_content) := goodIn_app (goodIn_of _ (by decide +kernel)) ggL_law_X4_content
set_option maxRecDepth 20000 in
theorem ggL_law_X5_content : GoodIn wsL_law wsX5_content := goodIn_r _ [374, 95, 69, 375, 376, 377, 5, 378, 68, 779, 780, 781, 782, 783, 784, 785, 786, 787, 788, 789, 790, 791, 792, 793, 794, 795, 796] (by decide +kernel) (by decide +kernel)
set_option maxRecDepth 20000 in
theorem gL_law_X5_content : GoodIn wsL_law (wsV RL 96 RX5 yX5_content wsX5_content) := goodIn_app (goodIn_of _ (by decide +kernel)) ggL_law_X5_content
set_option maxRecDepth 20000 in
theorem ggL_law_L_tick : GoodIn wsL_law wsL_tick := goodIn_ca (goodIn_r _ [381, 208, 382, 383, 384, 2, 385, 214, 215, 26, 386, 387, 388, 25, 389, 390, 772, 773, 774, 775, 776, 777, 778, 814, 815, 816] (by decide +kernel) (by decide +kernel)) (goodIn_sub (fun _ h => List.mem_append_left _ (List.mem_append_left _ (List.mem_append_left _ (List.mem_append_right _ h)))) (by decide +kernel))
set_option maxRecDepth 20000 in
theorem gL_law_L_tick : GoodIn wsL_law (va_wsS RL 97 yL_tick wsL_tick) := goodIn_app (goodIn_of _ (by decide +kernel)) ggL_law_L_tick
set_option maxRecDepth 20000 in
theorem ggL_law_X5_tick : GoodIn wsL_law wsX5_tick := goodIn_r _ [394, 95, 395, 779, 780, 781, 782, 783, 784, 785, 786, 787, 788, 789, 790, 791, 792, 793, 794, 795, 796] (by decide +kernel) (by decide +kernel)
set_option maxRecDepth 20000 in
theorem gL_law_X5_tick : GoodIn wsL_law (wsV RL 99 RX5 yX5_tick wsX5_tick) := goodIn_app (goodIn_of _ (by decide +kernel)) ggL_law_X5_tick
set_option maxRecDepth 20000 in
theorem ggL_law_L_begin : GoodIn wsL_law wsL_begin := goodIn_ca (goodIn_r _ [398, 208, 399, 400, 401, 2, 402, 214, 215, 22, 17, 26, 218, 219, 220, 21, 221, 42, 222, 223, 224, 225, 226, 227, 228, 229, 16, 230, 82, 36, 231, 232, 233, 234, 235, 236, 237, 238, 239, 240, 241, 242, 243, 244, 245, 246, 153, 154, 155, 247, 248, 249, 250, 43, 251, 252, 253, 254, 255, 256, 257, 258, 259, 260, 261, 262, 44, 263, 264, 265, 266, 267, 45, 268, 269, 270, 271, 272, 273, 274, 275, 276, 277, 278, 279, 280, 281, 282, 283, 284, 285, 46, 286, 106, 107, 108, 287, 288, 289, 290, 295, 296, 297, 298, 403, 404, 405, 406, 407, 408, 409, 25, 410, 411, 412, 413, 414, 54, 53, 415, 416, 417, 418, 419, 420, 421, 422, 423, 772, 773, 774, 775, 776, 777, 778, 799, 800, 801, 802, 803, 804, 805, 806, 807, 808, 809, 810, 811, 812, 813, 797, 798, 814, 815, 816] (by decide +kernel) (by decide +kernel)) (goodIn_sub (fun _ h => List.mem_append_left _ (List.mem_append_left _ (List.mem_append_left _ (List.mem_append_right _ h)))) (by decide +kernel))
set_option maxRecDepth 20000 in
theorem gL_law_L_begin : GoodIn wsL_law (va_wsS RL 100 yL_begin wsL_begin) := goodIn_app (goodIn_of _ (by decide +kernel)) ggL_law_L_begin
set_option maxRecDepth 20000 in
theorem ggL_law_X5_begin : GoodIn wsL_law wsX5_begin := goodIn_r _ [427, 95, 71, 320, 321, 322, 5, 323, 324, 317, 318, 325, 326, 327, 328, 69, 319, 329, 330, 331, 332, 333, 334, 335, 336, 68, 337, 338, 339, 340, 341, 342, 343, 344, 345, 346, 347, 348, 349, 350, 351, 352, 353, 354, 355, 356, 357, 358, 359, 360, 361, 428, 429, 430, 431, 432, 433, 434, 435, 375, 376, 377, 378, 779, 780, 781, 782, 783, 784, 785, 786, 787, 788, 789, 790, 791, 792, 793, 794, 795, 796] (by decide +kernel) (by decide +kernel)
set_option maxRecDepth 20000 in
theorem gL_law_X5_begin : GoodIn wsL_law (wsV RL 103 RX5 yX5_begin wsX5_begin) := goodIn_app (goodIn_of _ (by decide +kernel)) ggL_law_X5_begin
set_option maxRecDepth 20000 in
theorem ggL_law_L_offer : GoodIn wsL_law wsL_offer := goodIn_ca (goodIn_ca (goodIn_ca (goodIn_ca (goodIn_ca (goodIn_r _ [438, 208, 145, 439, 209, 440, 441, 442, 443, 2, 444, 214, 215, 150, 151, 445, 446, 216, 217, 447, 448, 22, 17, 26, 218, 219, 220, 21, 221, 42, 222, 223, 224, 225, 226, 227, 228, 229, 16, 230, 82, 36, 231, 232, 233, 234, 235, 236, 237, 238, 239, 240, 241, 242, 243, 244, 245, 246, 153, 154, 155, 247, 248, 249, 250, 43, 251, 252, 253, 254, 255, 256, 257, 258, 259, 260, 261, 262, 44, 263, 264, 265, 266, 267, 45, 268, 269, 270, 271, 272, 273, 274, 275, 276, 277, 278, 279, 280, 281, 282, 283, 284, 285, 46, 286, 106, 107, 108, 287, 288, 289, 290, 295, 296, 297, 298, 403, 404, 405, 406, 449, 450, 451, 25, 452, 411, 412, 413, 414, 54, 53, 453, 454, 455, 456, 457, 458, 459, 460, 461, 390, 462, 463, 464, 465, 466, 467, 468, 469, 470, 471, 472, 473, 474, 475, 476, 477, 478, 479, 480, 481, 482, 483, 484, 485, 486, 487, 309, 310, 311, 312, 169, 170, 171, 172, 173, 488, 300, 301, 302, 489, 490, 491, 492, 493, 494, 495, 496, 497, 498, 499, 500, 501, 502, 503, 504, 505, 506, 507, 508, 509, 510, 511, 512, 419, 420, 421, 422, 513, 189, 190, 191, 192, 514, 515, 516, 517, 518, 519, 520, 521, 522, 523, 524, 525, 526, 527, 528, 529, 530, 531, 532, 533, 534, 415, 416, 417, 418, 423, 772, 773, 774, 775, 776, 777, 778, 799, 800, 801, 802, 803, 804, 805, 806, 807, 808, 809, 810, 811, 812, 813, 797, 798, 814, 815, 816] (by decide +kernel) (by decide +kernel)) (goodIn_sub (fun _ h => List.mem_append_left _ (List.mem_append_left _ (List.mem_append_left _ (List.mem_append_right _ h)))) (by decide +kernel))) (goodIn_sub (fun _ h => List.mem_append_left _ (List.mem_append_left _ (List.mem_append_left _ (List.mem_append_left _ (List.mem_append_right _ h))))) (by decide +kernel))) (goodIn_sub (fun _ h => List.mem_append_left _ (List.mem_append_right _ h)) (by decide +kernel))) (goodIn_sub (fun _ h => List.mem_append_left _ (List.mem_append_left _ (List.mem_append_right _ h))) (by decide +kernel))) (goodIn_sub (fun _ h => List.mem_append_right _ h) (by decide +kernel))
set_option maxRecDepth 20000 in
theorem gL_law_L_offer : GoodIn wsL_law (va_wsS RL 104 yL_offer wsL_offer) := goodIn_app (goodIn_of _ (by decide +kernel)) ggL_law_L_offer
set_option maxRecDepth 20000 in
theorem ggL_law_X5_offer : GoodIn wsL_law wsX5_offer := goodIn_r _ [538, 95, 320, 321, 322, 5, 323, 324, 317, 318, 325, 326, 327, 328, 69, 319, 329, 330, 331, 332, 333, 334, 335, 336, 68, 337, 338, 339, 340, 341, 342, 343, 344, 345, 346, 347, 348, 349, 350, 351, 352, 353, 354, 355, 356, 357, 358, 359, 360, 361, 428, 429, 430, 431, 539, 540, 541, 542, 71, 543, 544, 545, 546, 547, 548, 549, 550, 551, 552, 553, 554, 178, 179, 180, 181, 182, 183, 555, 556, 557, 558, 559, 560, 561, 562, 563, 564, 565, 566, 567, 568, 569, 570, 571, 572, 573, 574, 575, 576, 577, 578, 395, 579, 580, 581, 582, 583, 584, 585, 586, 587, 588, 589, 590, 591, 592, 593, 594, 432, 433, 434, 435, 375, 376, 377, 378, 779, 780, 781, 782, 783, 784, 785, 786, 787, 788, 789, 790, 791, 792, 793, 794, 795, 796] (by decide +kernel) (by decide +kernel)
set_option maxRecDepth 20000 in
theorem gL_law_X5_offer : GoodIn wsL_law (wsV RL 107 RX5 yX5_offer wsX5_offer) := goodIn_app (goodIn_of _ (by decide +kernel)) ggL_law_X5_offer
set_option maxRecDepth 20000 in
theorem ggL_law_L_trusted : GoodIn wsL_law wsL_trusted := goodIn_ca (goodIn_r _ [597, 145, 598, 599, 600, 2, 601, 150, 151, 26, 602, 412, 413, 25, 414, 54, 53, 295, 296, 297, 21, 298, 226, 603, 463, 464, 465, 241, 604, 498, 499, 500, 240, 772, 773, 774, 775, 776, 777, 778, 814, 815, 816, 799, 800, 801, 802, 803, 804, 805, 806, 807, 808, 809, 810, 811, 812, 813] (by decide +kernel) (by decide +kernel)) (goodIn_sub (fun _ h => List.mem_append_left _ (List.mem_append_left _ (List.mem_append_left _ (List.mem_append_left _ (List.mem_append_right _ h))))) (by decide +kernel))
set_option maxRecDepth 20000 in
theorem gL_law_L_trusted : GoodIn wsL_law (va_wsS RL 108 yL_trusted wsL_trusted) := goodIn_app (goodIn_of _ (by decide +kernel)) ggL_law_L_trusted
set_option maxRecDepth 20000 in
theorem ggL_law_X5_trusted : GoodIn wsL_law wsX5_trusted := goodIn_r _ [608, 95, 71, 579, 580, 581, 5, 582, 68, 559, 560, 561, 562, 779, 780, 781, 782, 783, 784, 785, 786, 787, 788, 789, 790, 791, 792, 793, 794, 795, 796] (by decide +kernel) (by decide +kernel)
set_option maxRecDepth 20000 in
theorem gL_law_X5_trusted : GoodIn wsL_law (wsV RL 111 RX5 yX5_trusted wsX5_trusted) := goodIn_app (goodIn_of _ (by decide +kernel)) ggL_law_X5_trusted
set_option maxRecDepth 20000 in
theorem ggL_law_L_seek : GoodIn wsL_law wsL_seek := goodIn_ca (goodIn_ca (goodIn_r _ [611, 208, 439, 612, 613, 614, 2, 615, 30, 616, 617, 618, 619, 620, 214, 215, 445, 446, 26, 621, 622, 623, 624, 625, 626, 25, 627, 454, 455, 456, 457, 411, 412, 413, 414, 54, 53, 453, 296, 297, 21, 298, 226, 458, 459, 460, 461, 390, 462, 463, 464, 465, 241, 628, 629, 630, 631, 497, 498, 499, 500, 240, 466, 467, 468, 469, 44, 632, 633, 634, 29, 635, 62, 636, 637, 638, 639, 640, 110, 111, 16, 112, 82, 641, 84, 85, 86, 87, 88, 89, 90, 36, 642, 643, 644, 645, 60, 646, 647, 648, 649, 650, 651, 267, 45, 42, 246, 153, 154, 155, 286, 106, 107, 108, 276, 277, 278, 279, 280, 652, 653, 654, 655, 285, 656, 657, 658, 659, 660, 661, 662, 663, 664, 665, 666, 667, 46, 668, 669, 670, 671, 672, 673, 674, 675, 676, 677, 420, 421, 422, 678, 679, 480, 481, 482, 483, 484, 485, 486, 224, 487, 309, 310, 311, 312, 169, 170, 171, 172, 173, 488, 300, 301, 302, 489, 490, 491, 492, 680, 681, 682, 683, 684, 685, 686, 687, 688, 689, 690, 691, 772, 773, 774, 775, 776, 777, 778, 814, 815, 816, 799, 800, 801, 802, 803, 804, 805, 806, 807, 808, 809, 810, 811, 812, 813, 817, 818, 819, 820, 821, 822, 823, 797, 798] (by decide +kernel) (by decide +kernel)) (goodIn_sub (fun _ h => List.mem_append_left _ (List.mem_append_left _ (List.mem_append_left _ (List.mem_append_right _ h)))) (by decide +kernel))) (goodIn_sub (fun _ h => List.mem_append_left _ (List.mem_append_right _ h)) (by decide +kernel))
set_option maxRecDepth 20000 in
theorem gL_law_L_seek : GoodIn wsL_law (va_wsS RL 112 yL_seek wsL_seek) := goodIn_app (goodIn_of _ (by decide +kernel)) ggL_law_L_seek
set_option maxRecDepth 20000 in
theorem ggL_law_X5_seek : GoodIn wsL_law wsX5_seek := goodIn_r _ [695, 95, 696, 697, 698, 5, 699, 700, 701, 702, 703, 704, 705, 96, 571, 572, 573, 574, 71, 575, 576, 577, 578, 395, 579, 580, 581, 582, 68, 706, 707, 708, 709, 559, 560, 561, 562, 587, 588, 589, 590, 710, 711, 712, 713, 714, 715, 716, 72, 73, 717, 718, 719, 720, 721, 722, 723, 724, 725, 726, 727, 728, 729, 730, 555, 556, 557, 558, 731, 732, 733, 734, 547, 548, 549, 550, 320, 321, 322, 323, 324, 317, 318, 325, 326, 327, 328, 69, 319, 329, 330, 331, 332, 333, 334, 335, 336, 337, 338, 339, 340, 341, 342, 343, 344, 345, 346, 347, 348, 349, 350, 351, 352, 353, 354, 355, 356, 357, 358, 359, 360, 361, 551, 552, 553, 554, 178, 179, 180, 181, 182, 183, 779, 780, 781, 782, 783, 784, 785, 786, 787, 788, 789, 790, 791, 792, 793, 794, 795, 796] (by decide +kernel) (by decide +kernel)
set_option maxRecDepth 20000 in
theorem gL_law_X5_seek : GoodIn wsL_law (wsV RL 115 RX5 yX5_seek wsX5_seek) := goodIn_app (goodIn_of _ (by decide +kernel)) ggL_law_X5_seek
set_option maxRecDepth 20000 in
theorem ggL_law_X4_visits : GoodIn wsL_law wsX4_visits := goodIn_r _ [738, 616, 772, 773, 774, 775, 776, 777, 778] (by decide +kernel) (by decide +kernel)
set_option maxRecDepth 20000 in
theorem gL_law_X4_visits : GoodIn wsL_law (wsV RL 116 RX4 yX4_visits wsX4_visits) := goodIn_app (goodIn_of _ (by decide +kernel)) ggL_law_X4_visits
set_option maxRecDepth 20000 in
theorem ggL_law_X5_visits : GoodIn wsL_law wsX5_visits := goodIn_r _ [742, 95, 715, 779, 780, 781, 782, 783, 784, 785, 786, 787, 788, 789, 790, 791, 792, 793, 794, 795, 796] (by decide +kernel) (by decide +kernel)
set_option maxRecDepth 20000 in
theorem gL_law_X5_visits : GoodIn wsL_law (wsV RL 119 RX5 yX5_visits wsX5_visits) := goodIn_app (goodIn_of _ (by decide +kernel)) ggL_law_X5_visits
set_option maxRecDepth 20000 in
theorem ggL_law_L_install : GoodIn wsL_law wsL_install := goodIn_ca (goodIn_ca (goodIn_ca (goodIn_ca (goodIn_r _ [745, 208, 439, 440, 209, 746, 747, 748, 2, 749, 447, 448, 216, 217, 30, 18, 616, 750, 617, 618, 619, 620, 214, 215, 445, 446, 26, 621, 622, 623, 624, 625, 626, 25, 627, 454, 455, 456, 457, 411, 412, 413, 414, 54, 53, 453, 296, 297, 21, 298, 226, 458, 459, 460, 461, 390, 462, 463, 464, 465, 241, 628, 629, 630, 631, 497, 498, 499, 500, 240, 466, 467, 468, 469, 44, 632, 633, 634, 29, 635, 62, 636, 637, 638, 639, 640, 110, 111, 16, 112, 82, 641, 84, 85, 86, 87, 88, 89, 90, 36, 642, 643, 644, 645, 60, 646, 647, 648, 649, 650, 651, 267, 45, 42, 246, 153, 154, 155, 286, 106, 107, 108, 276, 277, 278, 279, 280, 652, 653, 654, 655, 285, 656, 657, 658, 659, 660, 661, 662, 663, 664, 665, 666, 667, 46, 668, 669, 670, 671, 672, 673, 674, 675, 676, 677, 420, 421, 422, 678, 679, 480, 481, 482, 483, 484, 485, 486, 224, 487, 309, 310, 311, 312, 169, 170, 171, 172, 173, 488, 300, 301, 302, 489, 490, 491, 492, 680, 681, 682, 683, 688, 689, 690, 691, 751, 752, 753, 754, 755, 756, 757, 758, 189, 190, 191, 192, 684, 685, 686, 687, 772, 773, 774, 775, 776, 777, 778, 814, 815, 816, 799, 800, 801, 802, 803, 804, 805, 806, 807, 808, 809, 810, 811, 812, 813, 817, 818, 819, 820, 821, 822, 823, 797, 798] (by decide +kernel) (by decide +kernel)) (goodIn_sub (fun _ h => List.mem_append_right _ h) (by decide +kernel))) (goodIn_sub (fun _ h => List.mem_append_left _ (List.mem_append_left _ (List.mem_append_right _ h))) (by decide +kernel))) (goodIn_sub (fun _ h => List.mem_append_left _ (List.mem_append_left _ (List.mem_append_left _ (List.mem_append_right _ h)))) (by decide +kernel))) (goodIn_sub (fun _ h => List.mem_append_left _ (List.mem_append_right _ h)) (by decide +kernel))
set_option maxRecDepth 20000 in
theorem gL_law_L_install : GoodIn wsL_law (va_wsS RL 120 yL_install wsL_install) := goodIn_app (goodIn_of _ (by decide +kernel)) ggL_law_L_install
set_option maxRecDepth 20000 in
theorem ggL_law_X5_install : GoodIn wsL_law wsX5_install := goodIn_r _ [762, 95, 715, 725, 69, 726, 763, 696, 697, 698, 5, 699, 700, 701, 702, 703, 704, 705, 96, 571, 572, 573, 574, 71, 575, 576, 577, 578, 395, 579, 580, 581, 582, 68, 706, 707, 708, 709, 559, 560, 561, 562, 587, 588, 589, 590, 710, 711, 712, 713, 714, 716, 72, 73, 717, 718, 719, 720, 721, 722, 723, 724, 727, 728, 729, 730, 555, 556, 557, 558, 731, 732, 733, 734, 547, 548, 549, 550, 320, 321, 322, 323, 324, 317, 318, 325, 326, 327, 328, 319, 329, 330, 331, 332, 333, 334, 335, 336, 337, 338, 339, 340, 341, 342, 343, 344, 345, 346, 347, 348, 349, 350, 351, 352, 353, 354, 355, 356, 357, 358, 359, 360, 361, 551, 552, 553, 554, 178, 179, 180, 181, 182, 183, 779, 780, 781, 782, 783, 784, 785, 786, 787, 788, 789, 790, 791, 792, 793, 794, 795, 796] (by decide +kernel) (by decide +kernel)
set_option maxRecDepth 20000 in
theorem gL_law_X5_install : GoodIn wsL_law (wsV RL 122 RX5 yX5_install wsX5_install) := goodIn_app (goodIn_of _ (by decide +kernel)) ggL_law_X5_install
set_option maxRecDepth 20000 in
theorem ggL_law_X4_installed : GoodIn wsL_law wsX4_installed := goodIn_r _ [767, 750, 772, 773, 774, 775, 776, 777, 778] (by decide +kernel) (by decide +kernel)
set_option maxRecDepth 20000 in
theorem gL_law_X4_installed : GoodIn wsL_law (wsV RL 123 RX4 yX4_installed wsX4_installed) := goodIn_app (goodIn_of _ (by decide +kernel)) ggL_law_X4_installed
set_option maxRecDepth 20000 in
theorem ggL_law_X5_installed : GoodIn wsL_law wsX5_installed := goodIn_r _ [771, 95, 763, 779, 780, 781, 782, 783, 784, 785, 786, 787, 788, 789, 790, 791, 792, 793, 794, 795, 796] (by decide +kernel) (by decide +kernel)
set_option maxRecDepth 20000 in
theorem gL_law_X5_installed : GoodIn wsL_law (wsV RL 126 RX5 yX5_installed wsX5_installed) := goodIn_app (goodIn_of _ (by decide +kernel)) ggL_law_X5_installed
