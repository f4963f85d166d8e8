set_option maxRecDepth 20000 in
theorem wsL_in_r1 : ∀ w ∈ wsL_law_r1, w ∈ lw_tbl := fun w h => (goodIn_r wsL_law_r1 [70, 71, 53, 859, 860, 65, 72, 73, 74, 75, 76, 77, 78, 79, 54, 376, 310, 311, 62, 377, 327, 85, 55, 378] rfl (by decide +kernel) w h).1
set_option maxRecDepth 20000 in
theorem wsL_in_r2 : ∀ w ∈ wsL_law_r2, w ∈ lw_tbl := fun w h => (goodIn_r wsL_law_r2 [329, 330, 63, 379, 345, 346, 64, 380, 81, 82, 83, 84, 297, 242, 243, 59, 299, 252, 253, 60, 301, 87, 88, 89] rfl (by decide +kernel) w h).1
set_option maxRecDepth 20000 in
theorem wsL_in_r3 : ∀ w ∈ wsL_law_r3, w ∈ lw_tbl := fun w h => (goodIn_r wsL_law_r3 [90, 91, 56, 224, 138, 139, 57, 227, 191, 192, 58, 230, 93, 94, 95, 137, 102, 104, 106, 110, 114, 117, 141, 142] rfl (by decide +kernel) w h).1
set_option maxRecDepth 20000 in
theorem wsL_in_r4 : ∀ w ∈ wsL_law_r4, w ∈ lw_tbl := fun w h => (goodIn_r wsL_law_r4 [143, 149, 152, 190, 155, 158, 161, 164, 166, 144, 168, 194, 195, 196, 200, 202, 204, 206, 245, 246, 247, 248, 255, 256] rfl (by decide +kernel) w h).1
set_option maxRecDepth 20000 in
theorem wsL_in_r5 : ∀ w ∈ wsL_law_r5, w ∈ lw_tbl := fun w h => (goodIn_r wsL_law_r5 [257, 279, 281, 283, 284, 258, 259, 61, 285, 261, 262, 263, 312, 313, 314, 315, 316, 321, 332, 333, 334, 344, 338, 348] rfl (by decide +kernel) w h).1
set_option maxRecDepth 20000 in
theorem wsL_in_r6 : ∀ w ∈ wsL_law_r6, w ∈ lw_tbl := fun w h => (goodIn_r wsL_law_r6 [349, 350, 353, 355, 375, 357, 359, 861, 862, 863, 864, 865, 866, 868, 871, 880, 881, 395, 396, 397, 398, 298, 225, 99] rfl (by decide +kernel) w h).1
set_option maxRecDepth 20000 in
theorem wsL_in_r7 : ∀ w ∈ wsL_law_r7, w ∈ lw_tbl := fun w h => (goodIn_r wsL_law_r7 [399, 400, 401, 402, 403, 404, 405, 319, 406, 408, 0, 409, 410, 411, 412, 413, 221, 414, 415, 416, 417, 96, 101, 418] rfl (by decide +kernel) w h).1
set_option maxRecDepth 20000 in
theorem wsL_in_r8 : ∀ w ∈ wsL_law_r8, w ∈ lw_tbl := fun w h => (goodIn_r wsL_law_r8 [420, 419, 66, 421, 422, 423, 424, 146, 425, 426, 427, 428, 429, 197, 199, 430, 431, 432, 433, 434, 226, 435, 436, 437] rfl (by decide +kernel) w h).1
set_option maxRecDepth 20000 in
theorem wsL_in_r9 : ∀ w ∈ wsL_law_r9, w ∈ lw_tbl := fun w h => (goodIn_r wsL_law_r9 [438, 439, 441, 1, 442, 443, 444, 445, 446, 97, 107, 111, 447, 448, 67, 449, 450, 451, 452, 453, 455, 456, 457, 459] rfl (by decide +kernel) w h).1
set_option maxRecDepth 20000 in
theorem wsL_in_r10 : ∀ w ∈ wsL_law_r10, w ∈ lw_tbl := fun w h => (goodIn_r wsL_law_r10 [2, 460, 462, 463, 464, 465, 98, 108, 112, 466, 467, 468, 469, 470, 472, 3, 473, 267, 269, 474, 475, 476, 477, 264] rfl (by decide +kernel) w h).1
set_option maxRecDepth 20000 in
theorem wsL_in_r11 : ∀ w ∈ wsL_law_r11, w ∈ lw_tbl := fun w h => (goodIn_r wsL_law_r11 [265, 266, 268, 478, 479, 480, 481, 482, 483, 484, 485, 486, 487, 488, 489, 490, 491, 492, 493, 495, 4, 496, 229, 148] rfl (by decide +kernel) w h).1
set_option maxRecDepth 20000 in
theorem wsL_in_r12 : ∀ w ∈ wsL_law_r12, w ∈ lw_tbl := fun w h => (goodIn_r wsL_law_r12 [497, 499, 5, 500, 156, 151, 100, 505, 501, 502, 503, 504, 507, 509, 6, 510, 162, 231, 222, 511, 512, 513, 514, 515] rfl (by decide +kernel) w h).1
set_option maxRecDepth 20000 in
theorem wsL_in_r13 : ∀ w ∈ wsL_law_r13, w ∈ lw_tbl := fun w h => (goodIn_r wsL_law_r13 [516, 68, 517, 518, 520, 7, 521, 159, 169, 118, 522, 523, 69, 524, 525, 526, 527, 920, 921, 922, 923, 924, 925, 926] rfl (by decide +kernel) w h).1
set_option maxRecDepth 20000 in
theorem wsL_in_r14 : ∀ w ∈ wsL_law_r14, w ∈ lw_tbl := fun w h => (goodIn_r wsL_law_r14 [927, 929, 17, 930, 867, 931, 933, 18, 934, 935, 937, 19, 938, 939, 941, 20, 942, 943, 945, 21, 946, 947, 949, 22] rfl (by decide +kernel) w h).1
