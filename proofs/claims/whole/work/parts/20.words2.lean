set_option maxRecDepth 20000 in
theorem wsL_in_r15 : ∀ w ∈ wsL_law_r15, w ∈ lw_tbl := fun w h => (goodIn_r wsL_law_r15 [950, 951, 953, 23, 954, 955, 957, 24, 958, 959, 961, 25, 962, 963, 965, 26, 966, 967, 969, 27, 970, 971, 973, 28] rfl (by decide +kernel) w h).1
set_option maxRecDepth 20000 in
theorem wsL_in_r16 : ∀ w ∈ wsL_law_r16, w ∈ lw_tbl := fun w h => (goodIn_r wsL_law_r16 [974, 528, 529, 530, 531, 352, 354, 356, 358, 360, 532, 533, 534, 535, 351, 361, 336, 536, 538, 8, 539, 540, 541, 542] rfl (by decide +kernel) w h).1
set_option maxRecDepth 20000 in
theorem wsL_in_r17 : ∀ w ∈ wsL_law_r17, w ∈ lw_tbl := fun w h => (goodIn_r wsL_law_r17 [543, 335, 544, 546, 9, 547, 548, 549, 550, 551, 552, 553, 554, 555, 556, 557, 559, 10, 560, 561, 562, 563, 564, 1026] rfl (by decide +kernel) w h).1
set_option maxRecDepth 20000 in
theorem wsL_in_r18 : ∀ w ∈ wsL_law_r18, w ∈ lw_tbl := fun w h => (goodIn_r wsL_law_r18 [1027, 1028, 1029, 872, 874, 875, 876, 877, 1030, 1032, 33, 1033, 870, 1034, 1036, 34, 1037, 873, 1038, 1040, 35, 1041, 1042, 1044] rfl (by decide +kernel) w h).1
set_option maxRecDepth 20000 in
theorem wsL_in_r19 : ∀ w ∈ wsL_law_r19, w ∈ lw_tbl := fun w h => (goodIn_r wsL_law_r19 [36, 1045, 1046, 1048, 37, 1049, 565, 566, 567, 568, 569, 570, 571, 572, 573, 574, 575, 576, 577, 578, 579, 580, 581, 582] rfl (by decide +kernel) w h).1
set_option maxRecDepth 20000 in
theorem wsL_in_r20 : ∀ w ∈ wsL_law_r20, w ∈ lw_tbl := fun w h => (goodIn_r wsL_law_r20 [975, 976, 977, 978, 979, 981, 29, 982, 583, 584, 585, 586, 103, 105, 587, 588, 589, 590, 591, 592, 593, 594, 983, 984] rfl (by decide +kernel) w h).1
set_option maxRecDepth 20000 in
theorem wsL_in_r21 : ∀ w ∈ wsL_law_r21, w ∈ lw_tbl := fun w h => (goodIn_r wsL_law_r21 [985, 986, 595, 596, 597, 598, 228, 147, 599, 600, 601, 602, 603, 604, 605, 606, 607, 608, 609, 987, 988, 989, 990, 610] rfl (by decide +kernel) w h).1
set_option maxRecDepth 20000 in
theorem wsL_in_r22 : ∀ w ∈ wsL_law_r22, w ∈ lw_tbl := fun w h => (goodIn_r wsL_law_r22 [611, 612, 613, 150, 614, 615, 616, 617, 618, 619, 620, 621, 991, 992, 993, 994, 995, 997, 30, 998, 622, 623, 624, 625] rfl (by decide +kernel) w h).1
set_option maxRecDepth 20000 in
theorem wsL_in_r23 : ∀ w ∈ wsL_law_r23, w ∈ lw_tbl := fun w h => (goodIn_r wsL_law_r23 [153, 999, 1000, 1001, 1002, 626, 627, 628, 629, 223, 630, 631, 632, 633, 634, 635, 636, 637, 648, 649, 68, 650, 639, 640] rfl (by decide +kernel) w h).1
set_option maxRecDepth 20000 in
theorem wsL_in_r24 : ∀ w ∈ wsL_law_r24, w ∈ lw_tbl := fun w h => (goodIn_r wsL_law_r24 [642, 643, 645, 646, 647, 651, 653, 11, 654, 115, 1003, 1004, 1005, 1006, 1007, 1009, 31, 1010, 1011, 1013, 32, 1014, 1015, 1016] rfl (by decide +kernel) w h).1
set_option maxRecDepth 20000 in
theorem wsL_in_r25 : ∀ w ∈ wsL_law_r25, w ∈ lw_tbl := fun w h => (goodIn_r wsL_law_r25 [1017, 655, 656, 657, 658, 337, 659, 660, 661, 662, 1018, 1019, 1020, 1021, 663, 664, 665, 666, 1022, 1023, 1024, 1025, 667, 668] rfl (by decide +kernel) w h).1
set_option maxRecDepth 20000 in
theorem wsL_in_r26 : ∀ w ∈ wsL_law_r26, w ∈ lw_tbl := fun w h => (goodIn_r wsL_law_r26 [669, 670, 320, 671, 672, 673, 674, 675, 676, 677, 678, 679, 1050, 1051, 1052, 1053, 680, 681, 682, 683, 381, 684, 685, 686] rfl (by decide +kernel) w h).1
set_option maxRecDepth 20000 in
theorem wsL_in_r27 : ∀ w ∈ wsL_law_r27, w ∈ lw_tbl := fun w h => (goodIn_r wsL_law_r27 [687, 688, 689, 1054, 1055, 1056, 1057, 869, 1058, 1060, 38, 1061, 690, 691, 692, 693, 1062, 1063, 1064, 1065, 694, 695, 696, 697] rfl (by decide +kernel) w h).1
