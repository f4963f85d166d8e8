theorem dX12_way_117 : decode cX12_way 117 = .ok (.iload 7, 2) := by decide +kernel
theorem dX12_way_119 : decode cX12_way 119 = .ok (.ireturn, 1) := by decide +kernel
set_option maxRecDepth 20000 in
theorem ggX12_span_X12_noSpan : GoodIn wsX12_span wsX12_noSpan := goodIn_r _ [7, 8, 9, 10, 6, 11, 12, 13, 14, 15, 16, 17, 18, 19, 34, 35, 36, 37, 38, 39, 40, 41, 42, 43, 44, 45, 46, 47, 48, 49, 50, 51] rfl (by decide +kernel)
set_option maxRecDepth 20000 in
theorem gX12_span_X12_noSpan : GoodIn wsX12_span (wsV RX12 81 RX12 yX12_noSpan wsX12_noSpan) := goodIn_app (goodIn_of _ (by decide +kernel)) ggX12_span_X12_noSpan
set_option maxRecDepth 20000 in
theorem ggX12_span_X12_of : GoodIn wsX12_span wsX12_of := goodIn_r _ [19, 8, 34, 35, 36, 37, 38, 39, 40, 41, 42, 43, 44, 45, 46, 47, 48, 49, 50, 51] rfl (by decide +kernel)
set_option maxRecDepth 20000 in
theorem gX12_span_X12_of : GoodIn wsX12_span (wsV RX12 30 RX12 yX12_of wsX12_of) := goodIn_app (goodIn_of _ (by decide +kernel)) ggX12_span_X12_of
set_option maxRecDepth 20000 in
theorem ggX12_span_X12_finds : GoodIn wsX12_span wsX12_finds := goodIn_r _ [23, 2, 1, 24, 25, 16, 17, 18, 6, 19, 8, 9, 10, 11, 34, 35, 36, 37, 38, 39, 40, 41, 42, 43, 44, 45, 46, 47, 48, 49, 50, 51] rfl (by decide +kernel)
set_option maxRecDepth 20000 in
theorem gX12_span_X12_finds : GoodIn wsX12_span (wsV RX12 149 RX12 yX12_finds wsX12_finds) := goodIn_app (goodIn_of _ (by decide +kernel)) ggX12_span_X12_finds
set_option maxRecDepth 20000 in
theorem ggX12_span_X12_guests : GoodIn wsX12_span wsX12_guests := goodIn_r _ [29, 8, 30, 31, 32, 6, 33, 34, 35, 36, 37, 38, 39, 40, 41, 42, 43, 44, 45, 46, 47, 48, 49, 50, 51] rfl (by decide +kernel)
set_option maxRecDepth 20000 in
theorem gX12_span_X12_guests : GoodIn wsX12_span (wsV RX12 159 RX12 yX12_guests wsX12_guests) := goodIn_app (goodIn_of _ (by decide +kernel)) ggX12_span_X12_guests
theorem dX12_span_0 : decode cX12_span 0 = .ok (.aload_n 0, 1) := by decide +kernel
theorem dX12_span_1 : decode cX12_span 1 = .ok (.iload_n 1, 1) := by decide +kernel
theorem dX12_span_2 : decode cX12_span 2 = .ok (.invokevirtual 81, 3) := by decide +kernel
theorem dX12_span_5 : decode cX12_span 5 = .ok (.ifCond .eq 5, 3) := by decide +kernel
theorem dX12_span_8 : decode cX12_span 8 = .ok (.iconst (-1), 1) := by decide +kernel
theorem dX12_span_9 : decode cX12_span 9 = .ok (.ireturn, 1) := by decide +kernel
theorem dX12_span_10 : decode cX12_span 10 = .ok (.iload_n 2, 1) := by decide +kernel
theorem dX12_span_11 : decode cX12_span 11 = .ok (.tableswitch 99 0 8 #[49, 49, 49, 49, 56, 67, 78, 84, 91], 49) := by decide +kernel
theorem dX12_span_60 : decode cX12_span 60 = .ok (.aload_n 0, 1) := by decide +kernel
theorem dX12_span_61 : decode cX12_span 61 = .ok (.iload_n 1, 1) := by decide +kernel
theorem dX12_span_62 : decode cX12_span 62 = .ok (.iload_n 2, 1) := by decide +kernel
theorem dX12_span_63 : decode cX12_span 63 = .ok (.invokevirtual 30, 3) := by decide +kernel
theorem dX12_span_66 : decode cX12_span 66 = .ok (.ireturn, 1) := by decide +kernel
theorem dX12_span_67 : decode cX12_span 67 = .ok (.aload_n 0, 1) := by decide +kernel
theorem dX12_span_68 : decode cX12_span 68 = .ok (.iload_n 1, 1) := by decide +kernel
theorem dX12_span_69 : decode cX12_span 69 = .ok (.iconst 0, 1) := by decide +kernel
theorem dX12_span_70 : decode cX12_span 70 = .ok (.invokevirtual 149, 3) := by decide +kernel
theorem dX12_span_73 : decode cX12_span 73 = .ok (.aload_n 0, 1) := by decide +kernel
theorem dX12_span_74 : decode cX12_span 74 = .ok (.getfield 143, 3) := by decide +kernel
theorem dX12_span_77 : decode cX12_span 77 = .ok (.ireturn, 1) := by decide +kernel
theorem dX12_span_78 : decode cX12_span 78 = .ok (.aload_n 0, 1) := by decide +kernel
theorem dX12_span_79 : decode cX12_span 79 = .ok (.iload_n 1, 1) := by decide +kernel
theorem dX12_span_80 : decode cX12_span 80 = .ok (.iconst 0, 1) := by decide +kernel
theorem dX12_span_81 : decode cX12_span 81 = .ok (.invokevirtual 149, 3) := by decide +kernel
theorem dX12_span_84 : decode cX12_span 84 = .ok (.aload_n 0, 1) := by decide +kernel
theorem dX12_span_85 : decode cX12_span 85 = .ok (.getfield 140, 3) := by decide +kernel
theorem dX12_span_88 : decode cX12_span 88 = .ok (.ireturn, 1) := by decide +kernel
theorem dX12_span_89 : decode cX12_span 89 = .ok (.aload_n 0, 1) := by decide +kernel
theorem dX12_span_90 : decode cX12_span 90 = .ok (.iload_n 1, 1) := by decide +kernel
theorem dX12_span_91 : decode cX12_span 91 = .ok (.invokevirtual 159, 3) := by decide +kernel
theorem dX12_span_94 : decode cX12_span 94 = .ok (.ireturn, 1) := by decide +kernel
theorem dX12_span_95 : decode cX12_span 95 = .ok (.aload_n 0, 1) := by decide +kernel
theorem dX12_span_96 : decode cX12_span 96 = .ok (.iload_n 1, 1) := by decide +kernel
theorem dX12_span_97 : decode cX12_span 97 = .ok (.iconst 5, 1) := by decide +kernel
theorem dX12_span_98 : decode cX12_span 98 = .ok (.invokevirtual 30, 3) := by decide +kernel
theorem dX12_span_101 : decode cX12_span 101 = .ok (.ireturn, 1) := by decide +kernel
theorem dX12_span_102 : decode cX12_span 102 = .ok (.aload_n 0, 1) := by decide +kernel
theorem dX12_span_103 : decode cX12_span 103 = .ok (.iload_n 1, 1) := by decide +kernel
theorem dX12_span_104 : decode cX12_span 104 = .ok (.bipush 6, 2) := by decide +kernel
theorem dX12_span_106 : decode cX12_span 106 = .ok (.invokevirtual 30, 3) := by decide +kernel
theorem dX12_span_109 : decode cX12_span 109 = .ok (.ireturn, 1) := by decide +kernel
theorem dX12_span_110 : decode cX12_span 110 = .ok (.bipush (-2), 2) := by decide +kernel
theorem dX12_span_112 : decode cX12_span 112 = .ok (.ireturn, 1) := by decide +kernel
set_option maxRecDepth 20000 in
theorem ggX12_guests_X12_isInside : GoodIn wsX12_guests wsX12_isInside := goodIn_r _ [6, 1, 7, 8, 9, 10, 11, 12, 13, 14, 15, 16, 17, 18, 19, 20, 21, 22, 23, 24] rfl (by decide +kernel)
set_option maxRecDepth 20000 in
theorem gX12_guests_X12_isInside : GoodIn wsX12_guests (wsV RX12 49 RX12 yX12_isInside wsX12_isInside) := goodIn_app (goodIn_of _ (by decide +kernel)) ggX12_guests_X12_isInside
theorem dX12_guests_0 : decode cX12_guests 0 = .ok (.iconst 0, 1) := by decide +kernel
theorem dX12_guests_1 : decode cX12_guests 1 = .ok (.istore_n 2, 1) := by decide +kernel
theorem dX12_guests_2 : decode cX12_guests 2 = .ok (.iconst 0, 1) := by decide +kernel
theorem dX12_guests_3 : decode cX12_guests 3 = .ok (.istore_n 3, 1) := by decide +kernel
theorem dX12_guests_4 : decode cX12_guests 4 = .ok (.iload_n 3, 1) := by decide +kernel
theorem dX12_guests_5 : decode cX12_guests 5 = .ok (.aload_n 0, 1) := by decide +kernel
theorem dX12_guests_6 : decode cX12_guests 6 = .ok (.getfield 7, 3) := by decide +kernel
theorem dX12_guests_9 : decode cX12_guests 9 = .ok (.iconst 2, 1) := by decide +kernel
theorem dX12_guests_10 : decode cX12_guests 10 = .ok (.iaload, 1) := by decide +kernel
theorem dX12_guests_11 : decode cX12_guests 11 = .ok (.if_icmp .ge 26, 3) := by decide +kernel
theorem dX12_guests_14 : decode cX12_guests 14 = .ok (.iload_n 2, 1) := by decide +kernel
theorem dX12_guests_15 : decode cX12_guests 15 = .ok (.aload_n 0, 1) := by decide +kernel
theorem dX12_guests_16 : decode cX12_guests 16 = .ok (.iload_n 3, 1) := by decide +kernel
theorem dX12_guests_17 : decode cX12_guests 17 = .ok (.iload_n 1, 1) := by decide +kernel
theorem dX12_guests_18 : decode cX12_guests 18 = .ok (.invokevirtual 49, 3) := by decide +kernel
theorem dX12_guests_21 : decode cX12_guests 21 = .ok (.ifCond .eq 7, 3) := by decide +kernel
theorem dX12_guests_24 : decode cX12_guests 24 = .ok (.iconst 1, 1) := by decide +kernel
theorem dX12_guests_25 : decode cX12_guests 25 = .ok (.goto 4, 3) := by decide +kernel
theorem dX12_guests_28 : decode cX12_guests 28 = .ok (.iconst 0, 1) := by decide +kernel
theorem dX12_guests_29 : decode cX12_guests 29 = .ok (.iadd, 1) := by decide +kernel
theorem dX12_guests_30 : decode cX12_guests 30 = .ok (.istore_n 2, 1) := by decide +kernel
theorem dX12_guests_31 : decode cX12_guests 31 = .ok (.iinc 3 1, 3) := by decide +kernel
theorem dX12_guests_34 : decode cX12_guests 34 = .ok (.goto (-30), 3) := by decide +kernel
theorem dX12_guests_37 : decode cX12_guests 37 = .ok (.iload_n 2, 1) := by decide +kernel
theorem dX12_guests_38 : decode cX12_guests 38 = .ok (.ireturn, 1) := by decide +kernel
set_option maxRecDepth 20000 in
theorem ggX12_houses_X12_isInside : GoodIn wsX12_houses wsX12_isInside := goodIn_r _ [6, 1, 7, 8, 9, 10, 11, 12, 13, 14, 15, 16, 17, 18, 19, 20, 21, 22, 23, 24] rfl (by decide +kernel)
set_option maxRecDepth 20000 in
theorem gX12_houses_X12_isInside : GoodIn wsX12_houses (wsV RX12 49 RX12 yX12_isInside wsX12_isInside) := goodIn_app (goodIn_of _ (by decide +kernel)) ggX12_houses_X12_isInside
theorem dX12_houses_0 : decode cX12_houses 0 = .ok (.iconst 0, 1) := by decide +kernel
theorem dX12_houses_1 : decode cX12_houses 1 = .ok (.istore_n 2, 1) := by decide +kernel
theorem dX12_houses_2 : decode cX12_houses 2 = .ok (.iconst 0, 1) := by decide +kernel
theorem dX12_houses_3 : decode cX12_houses 3 = .ok (.istore_n 3, 1) := by decide +kernel
theorem dX12_houses_4 : decode cX12_houses 4 = .ok (.iload_n 3, 1) := by decide +kernel
theorem dX12_houses_5 : decode cX12_houses 5 = .ok (.aload_n 0, 1) := by decide +kernel
theorem dX12_houses_6 : decode cX12_houses 6 = .ok (.getfield 7, 3) := by decide +kernel
theorem dX12_houses_9 : decode cX12_houses 9 = .ok (.iconst 1, 1) := by decide +kernel
theorem dX12_houses_10 : decode cX12_houses 10 = .ok (.iaload, 1) := by decide +kernel
theorem dX12_houses_11 : decode cX12_houses 11 = .ok (.if_icmp .ge 26, 3) := by decide +kernel
theorem dX12_houses_14 : decode cX12_houses 14 = .ok (.iload_n 2, 1) := by decide +kernel
theorem dX12_houses_15 : decode cX12_houses 15 = .ok (.aload_n 0, 1) := by decide +kernel
theorem dX12_houses_16 : decode cX12_houses 16 = .ok (.iload_n 1, 1) := by decide +kernel
theorem dX12_houses_17 : decode cX12_houses 17 = .ok (.iload_n 3, 1) := by decide +kernel
theorem dX12_houses_18 : decode cX12_houses 18 = .ok (.invokevirtual 49, 3) := by decide +kernel
theorem dX12_houses_21 : decode cX12_houses 21 = .ok (.ifCond .eq 7, 3) := by decide +kernel
theorem dX12_houses_24 : decode cX12_houses 24 = .ok (.iconst 1, 1) := by decide +kernel
theorem dX12_houses_25 : decode cX12_houses 25 = .ok (.goto 4, 3) := by decide +kernel
theorem dX12_houses_28 : decode cX12_houses 28 = .ok (.iconst 0, 1) := by decide +kernel
theorem dX12_houses_29 : decode cX12_houses 29 = .ok (.iadd, 1) := by decide +kernel
theorem dX12_houses_30 : decode cX12_houses 30 = .ok (.istore_n 2, 1) := by decide +kernel
theorem dX12_houses_31 : decode cX12_houses 31 = .ok (.iinc 3 1, 3) := by decide +kernel
theorem dX12_houses_34 : decode cX12_houses 34 = .ok (.goto (-30), 3) := by decide +kernel
theorem dX12_houses_37 : decode cX12_houses 37 = .ok (.iload_n 2, 1) := by decide +kernel
theorem dX12_houses_38 : decode cX12_houses 38 = .ok (.ireturn, 1) := by decide +kernel
set_option maxRecDepth 20000 in
theorem ggX12_longest_X12_isInside : GoodIn wsX12_longest wsX12_isInside := goodIn_r _ [6, 1, 7, 8, 9, 10, 11, 12, 13, 14, 15, 16, 17, 18, 19, 20, 21, 22, 23, 24] rfl (by decide +kernel)
set_option maxRecDepth 20000 in
theorem gX12_longest_X12_isInside : GoodIn wsX12_longest (wsV RX12 49 RX12 yX12_isInside wsX12_isInside) := goodIn_app (goodIn_of _ (by decide +kernel)) ggX12_longest_X12_isInside
theorem dX12_longest_0 : decode cX12_longest 0 = .ok (.bipush (-5), 2) := by decide +kernel
theorem dX12_longest_2 : decode cX12_longest 2 = .ok (.istore_n 2, 1) := by decide +kernel
theorem dX12_longest_3 : decode cX12_longest 3 = .ok (.iconst 0, 1) := by decide +kernel
theorem dX12_longest_4 : decode cX12_longest 4 = .ok (.istore_n 3, 1) := by decide +kernel
theorem dX12_longest_5 : decode cX12_longest 5 = .ok (.iload_n 3, 1) := by decide +kernel
theorem dX12_longest_6 : decode cX12_longest 6 = .ok (.aload_n 0, 1) := by decide +kernel
theorem dX12_longest_7 : decode cX12_longest 7 = .ok (.getfield 7, 3) := by decide +kernel
theorem dX12_longest_10 : decode cX12_longest 10 = .ok (.iconst 1, 1) := by decide +kernel
theorem dX12_longest_11 : decode cX12_longest 11 = .ok (.iaload, 1) := by decide +kernel
theorem dX12_longest_12 : decode cX12_longest 12 = .ok (.if_icmp .ge 59, 3) := by decide +kernel
theorem dX12_longest_15 : decode cX12_longest 15 = .ok (.aload_n 0, 1) := by decide +kernel
theorem dX12_longest_16 : decode cX12_longest 16 = .ok (.iload_n 1, 1) := by decide +kernel
theorem dX12_longest_17 : decode cX12_longest 17 = .ok (.iload_n 3, 1) := by decide +kernel
theorem dX12_longest_18 : decode cX12_longest 18 = .ok (.invokevirtual 49, 3) := by decide +kernel
theorem dX12_longest_21 : decode cX12_longest 21 = .ok (.ifCond .eq 44, 3) := by decide +kernel
theorem dX12_longest_24 : decode cX12_longest 24 = .ok (.iload_n 2, 1) := by decide +kernel
theorem dX12_longest_25 : decode cX12_longest 25 = .ok (.bipush (-5), 2) := by decide +kernel
theorem dX12_longest_27 : decode cX12_longest 27 = .ok (.if_icmp .eq 36, 3) := by decide +kernel
theorem dX12_longest_30 : decode cX12_longest 30 = .ok (.aload_n 0, 1) := by decide +kernel
theorem dX12_longest_31 : decode cX12_longest 31 = .ok (.getfield 7, 3) := by decide +kernel
theorem dX12_longest_34 : decode cX12_longest 34 = .ok (.sipush 462, 3) := by decide +kernel
theorem dX12_longest_37 : decode cX12_longest 37 = .ok (.bipush 60, 2) := by decide +kernel
theorem dX12_longest_39 : decode cX12_longest 39 = .ok (.iload_n 1, 1) := by decide +kernel
theorem dX12_longest_40 : decode cX12_longest 40 = .ok (.imul, 1) := by decide +kernel
theorem dX12_longest_41 : decode cX12_longest 41 = .ok (.iadd, 1) := by decide +kernel
theorem dX12_longest_42 : decode cX12_longest 42 = .ok (.iload_n 3, 1) := by decide +kernel
theorem dX12_longest_43 : decode cX12_longest 43 = .ok (.iadd, 1) := by decide +kernel
theorem dX12_longest_44 : decode cX12_longest 44 = .ok (.iaload, 1) := by decide +kernel
theorem dX12_longest_45 : decode cX12_longest 45 = .ok (.aload_n 0, 1) := by decide +kernel
theorem dX12_longest_46 : decode cX12_longest 46 = .ok (.getfield 7, 3) := by decide +kernel
theorem dX12_longest_49 : decode cX12_longest 49 = .ok (.sipush 462, 3) := by decide +kernel
theorem dX12_longest_52 : decode cX12_longest 52 = .ok (.bipush 60, 2) := by decide +kernel
theorem dX12_longest_54 : decode cX12_longest 54 = .ok (.iload_n 1, 1) := by decide +kernel
theorem dX12_longest_55 : decode cX12_longest 55 = .ok (.imul, 1) := by decide +kernel
theorem dX12_longest_56 : decode cX12_longest 56 = .ok (.iadd, 1) := by decide +kernel
theorem dX12_longest_57 : decode cX12_longest 57 = .ok (.iload_n 2, 1) := by decide +kernel
theorem dX12_longest_58 : decode cX12_longest 58 = .ok (.iadd, 1) := by decide +kernel
theorem dX12_longest_59 : decode cX12_longest 59 = .ok (.iaload, 1) := by decide +kernel
theorem dX12_longest_60 : decode cX12_longest 60 = .ok (.if_icmp .ge 5, 3) := by decide +kernel
theorem dX12_longest_63 : decode cX12_longest 63 = .ok (.iload_n 3, 1) := by decide +kernel
theorem dX12_longest_64 : decode cX12_longest 64 = .ok (.istore_n 2, 1) := by decide +kernel
theorem dX12_longest_65 : decode cX12_longest 65 = .ok (.iinc 3 1, 3) := by decide +kernel
theorem dX12_longest_68 : decode cX12_longest 68 = .ok (.goto (-63), 3) := by decide +kernel
theorem dX12_longest_71 : decode cX12_longest 71 = .ok (.iload_n 2, 1) := by decide +kernel
theorem dX12_longest_72 : decode cX12_longest 72 = .ok (.ireturn, 1) := by decide +kernel
set_option maxRecDepth 20000 in
theorem ggX12_walker_X12_noWalker : GoodIn wsX12_walker wsX12_noWalker := goodIn_r _ [6, 1, 7, 8, 5, 9, 26, 27, 28, 29, 30, 31, 32, 33, 34, 35, 36, 37, 38, 39, 40, 41, 42, 43] rfl (by decide +kernel)
set_option maxRecDepth 20000 in
theorem gX12_walker_X12_noWalker : GoodIn wsX12_walker (wsV RX12 84 RX12 yX12_noWalker wsX12_noWalker) := goodIn_app (goodIn_of _ (by decide +kernel)) ggX12_walker_X12_noWalker
set_option maxRecDepth 20000 in
theorem ggX12_walker_X12_longest : GoodIn wsX12_walker wsX12_longest := goodIn_r _ [13, 1, 14, 15, 16, 5, 17, 26, 27, 28, 29, 30, 31, 32, 33, 34, 35, 36, 37, 38, 39, 40, 41, 42, 43] rfl (by decide +kernel)
set_option maxRecDepth 20000 in
theorem gX12_walker_X12_longest : GoodIn wsX12_walker (wsV RX12 162 RX12 yX12_longest wsX12_longest) := goodIn_app (goodIn_of _ (by decide +kernel)) ggX12_walker_X12_longest
set_option maxRecDepth 20000 in
theorem ggX12_walker_X12_its : GoodIn wsX12_walker wsX12_its := goodIn_r _ [21, 1, 26, 27, 28, 29, 30, 31, 32, 33, 34, 35, 36, 37, 38, 39, 40, 41, 42, 43] rfl (by decide +kernel)
set_option maxRecDepth 20000 in
theorem gX12_walker_X12_its : GoodIn wsX12_walker (wsV RX12 46 RX12 yX12_its wsX12_its) := goodIn_app (goodIn_of _ (by decide +kernel)) ggX12_walker_X12_its
set_option maxRecDepth 20000 in
theorem ggX12_walker_X12_houses : GoodIn wsX12_walker wsX12_houses := goodIn_r _ [25, 1, 14, 15, 16, 5, 17, 26, 27, 28, 29, 30, 31, 32, 33, 34, 35, 36, 37, 38, 39, 40, 41, 42, 43] rfl (by decide +kernel)
set_option maxRecDepth 20000 in
theorem gX12_walker_X12_houses : GoodIn wsX12_walker (wsV RX12 165 RX12 yX12_houses wsX12_houses) := goodIn_app (goodIn_of _ (by decide +kernel)) ggX12_walker_X12_houses
theorem dX12_walker_0 : decode cX12_walker 0 = .ok (.aload_n 0, 1) := by decide +kernel
theorem dX12_walker_1 : decode cX12_walker 1 = .ok (.iload_n 1, 1) := by decide +kernel
theorem dX12_walker_2 : decode cX12_walker 2 = .ok (.invokevirtual 84, 3) := by decide +kernel
theorem dX12_walker_5 : decode cX12_walker 5 = .ok (.ifCond .eq 5, 3) := by decide +kernel
theorem dX12_walker_8 : decode cX12_walker 8 = .ok (.iconst (-1), 1) := by decide +kernel
theorem dX12_walker_9 : decode cX12_walker 9 = .ok (.ireturn, 1) := by decide +kernel
theorem dX12_walker_10 : decode cX12_walker 10 = .ok (.aload_n 0, 1) := by decide +kernel
theorem dX12_walker_11 : decode cX12_walker 11 = .ok (.iload_n 1, 1) := by decide +kernel
theorem dX12_walker_12 : decode cX12_walker 12 = .ok (.invokevirtual 162, 3) := by decide +kernel
theorem dX12_walker_15 : decode cX12_walker 15 = .ok (.istore_n 3, 1) := by decide +kernel
theorem dX12_walker_16 : decode cX12_walker 16 = .ok (.iload_n 2, 1) := by decide +kernel
theorem dX12_walker_17 : decode cX12_walker 17 = .ok (.tableswitch 141 0 8 #[51, 58, 69, 75, 82, 89, 125, 127, 134], 51) := by decide +kernel
theorem dX12_walker_68 : decode cX12_walker 68 = .ok (.aload_n 0, 1) := by decide +kernel
theorem dX12_walker_69 : decode cX12_walker 69 = .ok (.iload_n 1, 1) := by decide +kernel
theorem dX12_walker_70 : decode cX12_walker 70 = .ok (.iconst 0, 1) := by decide +kernel
theorem dX12_walker_71 : decode cX12_walker 71 = .ok (.invokevirtual 46, 3) := by decide +kernel
theorem dX12_walker_74 : decode cX12_walker 74 = .ok (.ireturn, 1) := by decide +kernel
theorem dX12_walker_75 : decode cX12_walker 75 = .ok (.sipush 1000, 3) := by decide +kernel
theorem dX12_walker_78 : decode cX12_walker 78 = .ok (.aload_n 0, 1) := by decide +kernel
theorem dX12_walker_79 : decode cX12_walker 79 = .ok (.iload_n 1, 1) := by decide +kernel
theorem dX12_walker_80 : decode cX12_walker 80 = .ok (.iconst 1, 1) := by decide +kernel
theorem dX12_walker_81 : decode cX12_walker 81 = .ok (.invokevirtual 46, 3) := by decide +kernel
theorem dX12_walker_84 : decode cX12_walker 84 = .ok (.iadd, 1) := by decide +kernel
theorem dX12_walker_85 : decode cX12_walker 85 = .ok (.ireturn, 1) := by decide +kernel
theorem dX12_walker_86 : decode cX12_walker 86 = .ok (.aload_n 0, 1) := by decide +kernel
theorem dX12_walker_87 : decode cX12_walker 87 = .ok (.iload_n 1, 1) := by decide +kernel
theorem dX12_walker_88 : decode cX12_walker 88 = .ok (.invokevirtual 165, 3) := by decide +kernel
theorem dX12_walker_91 : decode cX12_walker 91 = .ok (.ireturn, 1) := by decide +kernel
theorem dX12_walker_92 : decode cX12_walker 92 = .ok (.aload_n 0, 1) := by decide +kernel
theorem dX12_walker_93 : decode cX12_walker 93 = .ok (.iload_n 1, 1) := by decide +kernel
theorem dX12_walker_94 : decode cX12_walker 94 = .ok (.iconst 2, 1) := by decide +kernel
theorem dX12_walker_95 : decode cX12_walker 95 = .ok (.invokevirtual 46, 3) := by decide +kernel
theorem dX12_walker_98 : decode cX12_walker 98 = .ok (.ireturn, 1) := by decide +kernel
theorem dX12_walker_99 : decode cX12_walker 99 = .ok (.aload_n 0, 1) := by decide +kernel
theorem dX12_walker_100 : decode cX12_walker 100 = .ok (.iload_n 1, 1) := by decide +kernel
theorem dX12_walker_101 : decode cX12_walker 101 = .ok (.iconst 3, 1) := by decide +kernel
theorem dX12_walker_102 : decode cX12_walker 102 = .ok (.invokevirtual 46, 3) := by decide +kernel
theorem dX12_walker_105 : decode cX12_walker 105 = .ok (.ireturn, 1) := by decide +kernel
theorem dX12_walker_106 : decode cX12_walker 106 = .ok (.iload_n 3, 1) := by decide +kernel
theorem dX12_walker_107 : decode cX12_walker 107 = .ok (.bipush (-5), 2) := by decide +kernel
theorem dX12_walker_109 : decode cX12_walker 109 = .ok (.if_icmp .ne 8, 3) := by decide +kernel
theorem dX12_walker_112 : decode cX12_walker 112 = .ok (.bipush (-5), 2) := by decide +kernel
theorem dX12_walker_114 : decode cX12_walker 114 = .ok (.goto 27, 3) := by decide +kernel
theorem dX12_walker_117 : decode cX12_walker 117 = .ok (.aload_n 0, 1) := by decide +kernel
theorem dX12_walker_118 : decode cX12_walker 118 = .ok (.getfield 7, 3) := by decide +kernel
theorem dX12_walker_121 : decode cX12_walker 121 = .ok (.iconst 0, 1) := by decide +kernel
theorem dX12_walker_122 : decode cX12_walker 122 = .ok (.iaload, 1) := by decide +kernel
theorem dX12_walker_123 : decode cX12_walker 123 = .ok (.iconst 1, 1) := by decide +kernel
theorem dX12_walker_124 : decode cX12_walker 124 = .ok (.iadd, 1) := by decide +kernel
theorem dX12_walker_125 : decode cX12_walker 125 = .ok (.aload_n 0, 1) := by decide +kernel
theorem dX12_walker_126 : decode cX12_walker 126 = .ok (.getfield 7, 3) := by decide +kernel
theorem dX12_walker_129 : decode cX12_walker 129 = .ok (.sipush 462, 3) := by decide +kernel
theorem dX12_walker_132 : decode cX12_walker 132 = .ok (.bipush 60, 2) := by decide +kernel
theorem dX12_walker_134 : decode cX12_walker 134 = .ok (.iload_n 1, 1) := by decide +kernel
theorem dX12_walker_135 : decode cX12_walker 135 = .ok (.imul, 1) := by decide +kernel
theorem dX12_walker_136 : decode cX12_walker 136 = .ok (.iadd, 1) := by decide +kernel
theorem dX12_walker_137 : decode cX12_walker 137 = .ok (.iload_n 3, 1) := by decide +kernel
theorem dX12_walker_138 : decode cX12_walker 138 = .ok (.iadd, 1) := by decide +kernel
theorem dX12_walker_139 : decode cX12_walker 139 = .ok (.iaload, 1) := by decide +kernel
theorem dX12_walker_140 : decode cX12_walker 140 = .ok (.isub, 1) := by decide +kernel
theorem dX12_walker_141 : decode cX12_walker 141 = .ok (.ireturn, 1) := by decide +kernel
theorem dX12_walker_142 : decode cX12_walker 142 = .ok (.iload_n 3, 1) := by decide +kernel
theorem dX12_walker_143 : decode cX12_walker 143 = .ok (.ireturn, 1) := by decide +kernel
theorem dX12_walker_144 : decode cX12_walker 144 = .ok (.aload_n 0, 1) := by decide +kernel
theorem dX12_walker_145 : decode cX12_walker 145 = .ok (.iload_n 1, 1) := by decide +kernel
theorem dX12_walker_146 : decode cX12_walker 146 = .ok (.iconst 4, 1) := by decide +kernel
theorem dX12_walker_147 : decode cX12_walker 147 = .ok (.invokevirtual 46, 3) := by decide +kernel
theorem dX12_walker_150 : decode cX12_walker 150 = .ok (.ireturn, 1) := by decide +kernel
theorem dX12_walker_151 : decode cX12_walker 151 = .ok (.aload_n 0, 1) := by decide +kernel
theorem dX12_walker_152 : decode cX12_walker 152 = .ok (.iload_n 1, 1) := by decide +kernel
theorem dX12_walker_153 : decode cX12_walker 153 = .ok (.iconst 5, 1) := by decide +kernel
theorem dX12_walker_154 : decode cX12_walker 154 = .ok (.invokevirtual 46, 3) := by decide +kernel
theorem dX12_walker_157 : decode cX12_walker 157 = .ok (.ireturn, 1) := by decide +kernel
theorem dX12_walker_158 : decode cX12_walker 158 = .ok (.bipush (-2), 2) := by decide +kernel
theorem dX12_walker_160 : decode cX12_walker 160 = .ok (.ireturn, 1) := by decide +kernel
set_option maxRecDepth 20000 in
theorem ggX12_inside_X12_noWalker : GoodIn wsX12_inside wsX12_noWalker := goodIn_r _ [6, 1, 7, 8, 5, 9, 14, 15, 16, 17, 18, 19, 20, 21, 22, 23, 24, 25, 26, 27, 28, 29, 30, 31] rfl (by decide +kernel)
set_option maxRecDepth 20000 in
theorem gX12_inside_X12_noWalker : GoodIn wsX12_inside (wsV RX12 84 RX12 yX12_noWalker wsX12_noWalker) := goodIn_app (goodIn_of _ (by decide +kernel)) ggX12_inside_X12_noWalker
set_option maxRecDepth 20000 in
theorem ggX12_inside_X12_isInside : GoodIn wsX12_inside wsX12_isInside := goodIn_r _ [13, 1, 14, 15, 16, 17, 18, 19, 20, 21, 22, 23, 24, 25, 26, 27, 28, 29, 30, 31] rfl (by decide +kernel)
set_option maxRecDepth 20000 in
theorem gX12_inside_X12_isInside : GoodIn wsX12_inside (wsV RX12 49 RX12 yX12_isInside wsX12_isInside) := goodIn_app (goodIn_of _ (by decide +kernel)) ggX12_inside_X12_isInside
theorem dX12_inside_0 : decode cX12_inside 0 = .ok (.aload_n 0, 1) := by decide +kernel
theorem dX12_inside_1 : decode cX12_inside 1 = .ok (.iload_n 1, 1) := by decide +kernel
theorem dX12_inside_2 : decode cX12_inside 2 = .ok (.invokevirtual 84, 3) := by decide +kernel
theorem dX12_inside_5 : decode cX12_inside 5 = .ok (.ifCond .eq 5, 3) := by decide +kernel
theorem dX12_inside_8 : decode cX12_inside 8 = .ok (.iconst (-1), 1) := by decide +kernel
theorem dX12_inside_9 : decode cX12_inside 9 = .ok (.ireturn, 1) := by decide +kernel
theorem dX12_inside_10 : decode cX12_inside 10 = .ok (.iload_n 2, 1) := by decide +kernel
theorem dX12_inside_11 : decode cX12_inside 11 = .ok (.ifCond .ge 6, 3) := by decide +kernel
theorem dX12_inside_14 : decode cX12_inside 14 = .ok (.bipush (-2), 2) := by decide +kernel
theorem dX12_inside_16 : decode cX12_inside 16 = .ok (.ireturn, 1) := by decide +kernel
theorem dX12_inside_17 : decode cX12_inside 17 = .ok (.iload_n 2, 1) := by decide +kernel
theorem dX12_inside_18 : decode cX12_inside 18 = .ok (.istore_n 3, 1) := by decide +kernel
theorem dX12_inside_19 : decode cX12_inside 19 = .ok (.iconst 0, 1) := by decide +kernel
theorem dX12_inside_20 : decode cX12_inside 20 = .ok (.istore 4, 2) := by decide +kernel
theorem dX12_inside_22 : decode cX12_inside 22 = .ok (.iload 4, 2) := by decide +kernel
theorem dX12_inside_24 : decode cX12_inside 24 = .ok (.aload_n 0, 1) := by decide +kernel
theorem dX12_inside_25 : decode cX12_inside 25 = .ok (.getfield 7, 3) := by decide +kernel
theorem dX12_inside_28 : decode cX12_inside 28 = .ok (.iconst 1, 1) := by decide +kernel
theorem dX12_inside_29 : decode cX12_inside 29 = .ok (.iaload, 1) := by decide +kernel
theorem dX12_inside_30 : decode cX12_inside 30 = .ok (.if_icmp .ge 29, 3) := by decide +kernel
theorem dX12_inside_33 : decode cX12_inside 33 = .ok (.aload_n 0, 1) := by decide +kernel
theorem dX12_inside_34 : decode cX12_inside 34 = .ok (.iload_n 1, 1) := by decide +kernel
theorem dX12_inside_35 : decode cX12_inside 35 = .ok (.iload 4, 2) := by decide +kernel
theorem dX12_inside_37 : decode cX12_inside 37 = .ok (.invokevirtual 49, 3) := by decide +kernel
theorem dX12_inside_40 : decode cX12_inside 40 = .ok (.ifCond .eq 13, 3) := by decide +kernel
theorem dX12_inside_43 : decode cX12_inside 43 = .ok (.iload_n 3, 1) := by decide +kernel
theorem dX12_inside_44 : decode cX12_inside 44 = .ok (.ifCond .ne 6, 3) := by decide +kernel
theorem dX12_inside_47 : decode cX12_inside 47 = .ok (.iload 4, 2) := by decide +kernel
theorem dX12_inside_49 : decode cX12_inside 49 = .ok (.ireturn, 1) := by decide +kernel
theorem dX12_inside_50 : decode cX12_inside 50 = .ok (.iinc 3 (-1), 3) := by decide +kernel
theorem dX12_inside_53 : decode cX12_inside 53 = .ok (.iinc 4 1, 3) := by decide +kernel
theorem dX12_inside_56 : decode cX12_inside 56 = .ok (.goto (-34), 3) := by decide +kernel
theorem dX12_inside_59 : decode cX12_inside 59 = .ok (.bipush (-5), 2) := by decide +kernel
theorem dX12_inside_61 : decode cX12_inside 61 = .ok (.ireturn, 1) := by decide +kernel
set_option maxRecDepth 20000 in
theorem ggX12_covering_X12_covers : GoodIn wsX12_covering wsX12_covers := goodIn_r _ [6, 7, 8, 9, 5, 10, 11, 12, 13, 14, 1, 15, 16, 17, 18, 19, 20, 21, 22, 23, 24, 25, 26, 27, 28, 29, 30, 31, 32, 33, 34, 35] rfl (by decide +kernel)
set_option maxRecDepth 20000 in
theorem gX12_covering_X12_covers : GoodIn wsX12_covering (wsV RX12 53 RX12 yX12_covers wsX12_covers) := goodIn_app (goodIn_of _ (by decide +kernel)) ggX12_covering_X12_covers
theorem dX12_covering_0 : decode cX12_covering 0 = .ok (.iconst 0, 1) := by decide +kernel
theorem dX12_covering_1 : decode cX12_covering 1 = .ok (.istore_n 2, 1) := by decide +kernel
theorem dX12_covering_2 : decode cX12_covering 2 = .ok (.iconst 0, 1) := by decide +kernel
theorem dX12_covering_3 : decode cX12_covering 3 = .ok (.istore_n 3, 1) := by decide +kernel
theorem dX12_covering_4 : decode cX12_covering 4 = .ok (.iload_n 3, 1) := by decide +kernel
theorem dX12_covering_5 : decode cX12_covering 5 = .ok (.aload_n 0, 1) := by decide +kernel
theorem dX12_covering_6 : decode cX12_covering 6 = .ok (.getfield 7, 3) := by decide +kernel
theorem dX12_covering_9 : decode cX12_covering 9 = .ok (.iconst 1, 1) := by decide +kernel
theorem dX12_covering_10 : decode cX12_covering 10 = .ok (.iaload, 1) := by decide +kernel
theorem dX12_covering_11 : decode cX12_covering 11 = .ok (.if_icmp .ge 26, 3) := by decide +kernel
theorem dX12_covering_14 : decode cX12_covering 14 = .ok (.iload_n 2, 1) := by decide +kernel
theorem dX12_covering_15 : decode cX12_covering 15 = .ok (.aload_n 0, 1) := by decide +kernel
theorem dX12_covering_16 : decode cX12_covering 16 = .ok (.iload_n 3, 1) := by decide +kernel
theorem dX12_covering_17 : decode cX12_covering 17 = .ok (.iload_n 1, 1) := by decide +kernel
theorem dX12_covering_18 : decode cX12_covering 18 = .ok (.invokevirtual 53, 3) := by decide +kernel
theorem dX12_covering_21 : decode cX12_covering 21 = .ok (.ifCond .eq 7, 3) := by decide +kernel
theorem dX12_covering_24 : decode cX12_covering 24 = .ok (.iconst 1, 1) := by decide +kernel
theorem dX12_covering_25 : decode cX12_covering 25 = .ok (.goto 4, 3) := by decide +kernel
theorem dX12_covering_28 : decode cX12_covering 28 = .ok (.iconst 0, 1) := by decide +kernel
theorem dX12_covering_29 : decode cX12_covering 29 = .ok (.iadd, 1) := by decide +kernel
theorem dX12_covering_30 : decode cX12_covering 30 = .ok (.istore_n 2, 1) := by decide +kernel
theorem dX12_covering_31 : decode cX12_covering 31 = .ok (.iinc 3 1, 3) := by decide +kernel
theorem dX12_covering_34 : decode cX12_covering 34 = .ok (.goto (-30), 3) := by decide +kernel
theorem dX12_covering_37 : decode cX12_covering 37 = .ok (.iload_n 2, 1) := by decide +kernel
theorem dX12_covering_38 : decode cX12_covering 38 = .ok (.ireturn, 1) := by decide +kernel
set_option maxRecDepth 20000 in
theorem ggX12_chosen_X12_covers : GoodIn wsX12_chosen wsX12_covers := goodIn_r _ [6, 7, 8, 9, 5, 10, 11, 12, 13, 14, 1, 15, 16, 17, 18, 19, 20, 21, 22, 23, 24, 25, 26, 27, 28, 29, 30, 31, 32, 33, 34, 35] rfl (by decide +kernel)
set_option maxRecDepth 20000 in
theorem gX12_chosen_X12_covers : GoodIn wsX12_chosen (wsV RX12 53 RX12 yX12_covers wsX12_covers) := goodIn_app (goodIn_of _ (by decide +kernel)) ggX12_chosen_X12_covers
set_option maxRecDepth 20000 in
theorem ggX12_chosen_X12_of : GoodIn wsX12_chosen wsX12_of := goodIn_r _ [14, 1, 18, 19, 20, 21, 22, 23, 24, 25, 26, 27, 28, 29, 30, 31, 32, 33, 34, 35] rfl (by decide +kernel)
set_option maxRecDepth 20000 in
theorem gX12_chosen_X12_of : GoodIn wsX12_chosen (wsV RX12 30 RX12 yX12_of wsX12_of) := goodIn_app (goodIn_of _ (by decide +kernel)) ggX12_chosen_X12_of
theorem dX12_chosen_0 : decode cX12_chosen 0 = .ok (.bipush (-5), 2) := by decide +kernel
theorem dX12_chosen_2 : decode cX12_chosen 2 = .ok (.istore_n 3, 1) := by decide +kernel
theorem dX12_chosen_3 : decode cX12_chosen 3 = .ok (.iconst 0, 1) := by decide +kernel
theorem dX12_chosen_4 : decode cX12_chosen 4 = .ok (.istore 4, 2) := by decide +kernel
theorem dX12_chosen_6 : decode cX12_chosen 6 = .ok (.iload 4, 2) := by decide +kernel
theorem dX12_chosen_8 : decode cX12_chosen 8 = .ok (.aload_n 0, 1) := by decide +kernel
theorem dX12_chosen_9 : decode cX12_chosen 9 = .ok (.getfield 7, 3) := by decide +kernel
theorem dX12_chosen_12 : decode cX12_chosen 12 = .ok (.iconst 1, 1) := by decide +kernel
theorem dX12_chosen_13 : decode cX12_chosen 13 = .ok (.iaload, 1) := by decide +kernel
theorem dX12_chosen_14 : decode cX12_chosen 14 = .ok (.if_icmp .ge 63, 3) := by decide +kernel
theorem dX12_chosen_17 : decode cX12_chosen 17 = .ok (.aload_n 0, 1) := by decide +kernel
theorem dX12_chosen_18 : decode cX12_chosen 18 = .ok (.iload 4, 2) := by decide +kernel
theorem dX12_chosen_20 : decode cX12_chosen 20 = .ok (.iload_n 1, 1) := by decide +kernel
theorem dX12_chosen_21 : decode cX12_chosen 21 = .ok (.invokevirtual 53, 3) := by decide +kernel
theorem dX12_chosen_24 : decode cX12_chosen 24 = .ok (.ifCond .eq 47, 3) := by decide +kernel
theorem dX12_chosen_27 : decode cX12_chosen 27 = .ok (.iload_n 3, 1) := by decide +kernel
theorem dX12_chosen_28 : decode cX12_chosen 28 = .ok (.bipush (-5), 2) := by decide +kernel
theorem dX12_chosen_30 : decode cX12_chosen 30 = .ok (.if_icmp .eq 38, 3) := by decide +kernel
theorem dX12_chosen_33 : decode cX12_chosen 33 = .ok (.iload_n 2, 1) := by decide +kernel
theorem dX12_chosen_34 : decode cX12_chosen 34 = .ok (.ifCond .eq 37, 3) := by decide +kernel
theorem dX12_chosen_37 : decode cX12_chosen 37 = .ok (.aload_n 0, 1) := by decide +kernel
theorem dX12_chosen_38 : decode cX12_chosen 38 = .ok (.iload 4, 2) := by decide +kernel
theorem dX12_chosen_40 : decode cX12_chosen 40 = .ok (.iconst 3, 1) := by decide +kernel
theorem dX12_chosen_41 : decode cX12_chosen 41 = .ok (.invokevirtual 30, 3) := by decide +kernel
theorem dX12_chosen_44 : decode cX12_chosen 44 = .ok (.aload_n 0, 1) := by decide +kernel
theorem dX12_chosen_45 : decode cX12_chosen 45 = .ok (.iload 4, 2) := by decide +kernel
theorem dX12_chosen_47 : decode cX12_chosen 47 = .ok (.iconst 2, 1) := by decide +kernel
theorem dX12_chosen_48 : decode cX12_chosen 48 = .ok (.invokevirtual 30, 3) := by decide +kernel
theorem dX12_chosen_51 : decode cX12_chosen 51 = .ok (.isub, 1) := by decide +kernel
theorem dX12_chosen_52 : decode cX12_chosen 52 = .ok (.aload_n 0, 1) := by decide +kernel
theorem dX12_chosen_53 : decode cX12_chosen 53 = .ok (.iload_n 3, 1) := by decide +kernel
theorem dX12_chosen_54 : decode cX12_chosen 54 = .ok (.iconst 3, 1) := by decide +kernel
theorem dX12_chosen_55 : decode cX12_chosen 55 = .ok (.invokevirtual 30, 3) := by decide +kernel
theorem dX12_chosen_58 : decode cX12_chosen 58 = .ok (.aload_n 0, 1) := by decide +kernel
theorem dX12_chosen_59 : decode cX12_chosen 59 = .ok (.iload_n 3, 1) := by decide +kernel
theorem dX12_chosen_60 : decode cX12_chosen 60 = .ok (.iconst 2, 1) := by decide +kernel
theorem dX12_chosen_61 : decode cX12_chosen 61 = .ok (.invokevirtual 30, 3) := by decide +kernel
theorem dX12_chosen_64 : decode cX12_chosen 64 = .ok (.isub, 1) := by decide +kernel
theorem dX12_chosen_65 : decode cX12_chosen 65 = .ok (.if_icmp .ge 6, 3) := by decide +kernel
theorem dX12_chosen_68 : decode cX12_chosen 68 = .ok (.iload 4, 2) := by decide +kernel
theorem dX12_chosen_70 : decode cX12_chosen 70 = .ok (.istore_n 3, 1) := by decide +kernel
theorem dX12_chosen_71 : decode cX12_chosen 71 = .ok (.iinc 4 1, 3) := by decide +kernel
theorem dX12_chosen_74 : decode cX12_chosen 74 = .ok (.goto (-68), 3) := by decide +kernel
theorem dX12_chosen_77 : decode cX12_chosen 77 = .ok (.iload_n 3, 1) := by decide +kernel
theorem dX12_chosen_78 : decode cX12_chosen 78 = .ok (.ireturn, 1) := by decide +kernel
set_option maxRecDepth 20000 in
theorem ggX12_ask_X12_in : GoodIn wsX12_ask wsX12_in := goodIn_r _ [4] rfl (by decide +kernel)
set_option maxRecDepth 20000 in
theorem gX12_ask_X12_in : GoodIn wsX12_ask (va_wsS RX12 34 yX12_in wsX12_in) := goodIn_app (goodIn_of _ (by decide +kernel)) ggX12_ask_X12_in
set_option maxRecDepth 20000 in
theorem ggX12_ask_X12_covering : GoodIn wsX12_ask wsX12_covering := goodIn_r _ [8, 9, 10, 11, 12, 3, 13, 14, 15, 16, 17, 18, 19, 20, 21, 1, 2, 4, 47, 48, 49, 50, 51, 52, 53, 54, 55, 56, 57, 58, 59, 60, 61, 62, 63, 64] rfl (by decide +kernel)
set_option maxRecDepth 20000 in
theorem gX12_ask_X12_covering : GoodIn wsX12_ask (wsV RX12 168 RX12 yX12_covering wsX12_covering) := goodIn_app (goodIn_of _ (by decide +kernel)) ggX12_ask_X12_covering
set_option maxRecDepth 20000 in
theorem ggX12_ask_X12_way : GoodIn wsX12_ask wsX12_way := goodIn_r _ [25, 26, 27, 28, 29, 3, 30, 31, 32, 9, 33, 14, 15, 16, 17, 18, 19, 20, 21, 34, 35, 36, 37, 38, 1, 2, 4, 39, 40, 41, 42, 47, 48, 49, 50, 51, 52, 53, 54, 55, 56, 57, 58, 59, 60, 61, 62, 63, 64] rfl (by decide +kernel)
set_option maxRecDepth 20000 in
theorem gX12_ask_X12_way : GoodIn wsX12_ask (wsV RX12 171 RX12 yX12_way wsX12_way) := goodIn_app (goodIn_of _ (by decide +kernel)) ggX12_ask_X12_way
set_option maxRecDepth 20000 in
theorem ggX12_ask_X12_chosen : GoodIn wsX12_ask wsX12_chosen := goodIn_r _ [46, 9, 10, 11, 12, 3, 13, 14, 15, 16, 17, 18, 19, 20, 21, 1, 2, 4, 47, 48, 49, 50, 51, 52, 53, 54, 55, 56, 57, 58, 59, 60, 61, 62, 63, 64] rfl (by decide +kernel)
set_option maxRecDepth 20000 in
theorem gX12_ask_X12_chosen : GoodIn wsX12_ask (wsV RX12 174 RX12 yX12_chosen wsX12_chosen) := goodIn_app (goodIn_of _ (by decide +kernel)) ggX12_ask_X12_chosen
theorem dX12_ask_0 : decode cX12_ask 0 = .ok (.iload_n 1, 1) := by decide +kernel
theorem dX12_ask_1 : decode cX12_ask 1 = .ok (.iconst 0, 1) := by decide +kernel
theorem dX12_ask_2 : decode cX12_ask 2 = .ok (.sipush 1000, 3) := by decide +kernel
theorem dX12_ask_5 : decode cX12_ask 5 = .ok (.invokestatic 34, 3) := by decide +kernel
theorem dX12_ask_8 : decode cX12_ask 8 = .ok (.ifCond .ne 6, 3) := by decide +kernel
theorem dX12_ask_11 : decode cX12_ask 11 = .ok (.bipush (-2), 2) := by decide +kernel
theorem dX12_ask_13 : decode cX12_ask 13 = .ok (.ireturn, 1) := by decide +kernel
theorem dX12_ask_14 : decode cX12_ask 14 = .ok (.iload_n 2, 1) := by decide +kernel
theorem dX12_ask_15 : decode cX12_ask 15 = .ok (.tableswitch 60 0 4 #[33, 39, 39, 46, 53], 33) := by decide +kernel
theorem dX12_ask_48 : decode cX12_ask 48 = .ok (.aload_n 0, 1) := by decide +kernel
theorem dX12_ask_49 : decode cX12_ask 49 = .ok (.iload_n 1, 1) := by decide +kernel
theorem dX12_ask_50 : decode cX12_ask 50 = .ok (.invokevirtual 168, 3) := by decide +kernel
theorem dX12_ask_53 : decode cX12_ask 53 = .ok (.ireturn, 1) := by decide +kernel
theorem dX12_ask_54 : decode cX12_ask 54 = .ok (.aload_n 0, 1) := by decide +kernel
theorem dX12_ask_55 : decode cX12_ask 55 = .ok (.iload_n 1, 1) := by decide +kernel
theorem dX12_ask_56 : decode cX12_ask 56 = .ok (.iload_n 2, 1) := by decide +kernel
theorem dX12_ask_57 : decode cX12_ask 57 = .ok (.invokevirtual 171, 3) := by decide +kernel
theorem dX12_ask_60 : decode cX12_ask 60 = .ok (.ireturn, 1) := by decide +kernel
theorem dX12_ask_61 : decode cX12_ask 61 = .ok (.aload_n 0, 1) := by decide +kernel
theorem dX12_ask_62 : decode cX12_ask 62 = .ok (.iload_n 1, 1) := by decide +kernel
theorem dX12_ask_63 : decode cX12_ask 63 = .ok (.iconst 0, 1) := by decide +kernel
theorem dX12_ask_64 : decode cX12_ask 64 = .ok (.invokevirtual 174, 3) := by decide +kernel
theorem dX12_ask_67 : decode cX12_ask 67 = .ok (.ireturn, 1) := by decide +kernel
theorem dX12_ask_68 : decode cX12_ask 68 = .ok (.aload_n 0, 1) := by decide +kernel
theorem dX12_ask_69 : decode cX12_ask 69 = .ok (.iload_n 1, 1) := by decide +kernel
theorem dX12_ask_70 : decode cX12_ask 70 = .ok (.iconst 1, 1) := by decide +kernel
theorem dX12_ask_71 : decode cX12_ask 71 = .ok (.invokevirtual 174, 3) := by decide +kernel
theorem dX12_ask_74 : decode cX12_ask 74 = .ok (.ireturn, 1) := by decide +kernel
theorem dX12_ask_75 : decode cX12_ask 75 = .ok (.bipush (-2), 2) := by decide +kernel
theorem dX12_ask_77 : decode cX12_ask 77 = .ok (.ireturn, 1) := by decide +kernel
set_option maxRecDepth 20000 in
theorem ggX12_free_X12_in : GoodIn wsX12_free wsX12_in := goodIn_r _ [4] rfl (by decide +kernel)
set_option maxRecDepth 20000 in
theorem gX12_free_X12_in : GoodIn wsX12_free (va_wsS RX12 34 yX12_in wsX12_in) := goodIn_app (goodIn_of _ (by decide +kernel)) ggX12_free_X12_in
set_option maxRecDepth 20000 in
theorem ggX12_free_X12_covering : GoodIn wsX12_free wsX12_covering := goodIn_r _ [8, 9, 10, 11, 12, 3, 13, 14, 15, 16, 17, 18, 19, 20, 21, 1, 2, 4, 22, 23, 24, 25, 26, 27, 28, 29, 30, 31, 32, 33, 34, 35, 36, 37, 38, 39] rfl (by decide +kernel)
set_option maxRecDepth 20000 in
theorem gX12_free_X12_covering : GoodIn wsX12_free (wsV RX12 168 RX12 yX12_covering wsX12_covering) := goodIn_app (goodIn_of _ (by decide +kernel)) ggX12_free_X12_covering
theorem dX12_free_0 : decode cX12_free 0 = .ok (.iload_n 1, 1) := by decide +kernel
theorem dX12_free_1 : decode cX12_free 1 = .ok (.iconst 0, 1) := by decide +kernel
theorem dX12_free_2 : decode cX12_free 2 = .ok (.sipush 1000, 3) := by decide +kernel
theorem dX12_free_5 : decode cX12_free 5 = .ok (.invokestatic 34, 3) := by decide +kernel
theorem dX12_free_8 : decode cX12_free 8 = .ok (.ifCond .ne 6, 3) := by decide +kernel
theorem dX12_free_11 : decode cX12_free 11 = .ok (.bipush (-2), 2) := by decide +kernel
theorem dX12_free_13 : decode cX12_free 13 = .ok (.ireturn, 1) := by decide +kernel
theorem dX12_free_14 : decode cX12_free 14 = .ok (.iload_n 1, 1) := by decide +kernel
theorem dX12_free_15 : decode cX12_free 15 = .ok (.istore_n 3, 1) := by decide +kernel
theorem dX12_free_16 : decode cX12_free 16 = .ok (.iload_n 3, 1) := by decide +kernel
theorem dX12_free_17 : decode cX12_free 17 = .ok (.iconst 0, 1) := by decide +kernel
theorem dX12_free_18 : decode cX12_free 18 = .ok (.sipush 1000, 3) := by decide +kernel
theorem dX12_free_21 : decode cX12_free 21 = .ok (.invokestatic 34, 3) := by decide +kernel
theorem dX12_free_24 : decode cX12_free 24 = .ok (.ifCond .eq 26, 3) := by decide +kernel
theorem dX12_free_27 : decode cX12_free 27 = .ok (.aload_n 0, 1) := by decide +kernel
theorem dX12_free_28 : decode cX12_free 28 = .ok (.iload_n 3, 1) := by decide +kernel
theorem dX12_free_29 : decode cX12_free 29 = .ok (.invokevirtual 168, 3) := by decide +kernel
theorem dX12_free_32 : decode cX12_free 32 = .ok (.ifCond .le 18, 3) := by decide +kernel
theorem dX12_free_35 : decode cX12_free 35 = .ok (.iload_n 3, 1) := by decide +kernel
theorem dX12_free_36 : decode cX12_free 36 = .ok (.iload_n 2, 1) := by decide +kernel
theorem dX12_free_37 : decode cX12_free 37 = .ok (.ifCond .eq 7, 3) := by decide +kernel
theorem dX12_free_40 : decode cX12_free 40 = .ok (.iconst 1, 1) := by decide +kernel
theorem dX12_free_41 : decode cX12_free 41 = .ok (.goto 4, 3) := by decide +kernel
theorem dX12_free_44 : decode cX12_free 44 = .ok (.iconst (-1), 1) := by decide +kernel
theorem dX12_free_45 : decode cX12_free 45 = .ok (.iadd, 1) := by decide +kernel
theorem dX12_free_46 : decode cX12_free 46 = .ok (.istore_n 3, 1) := by decide +kernel
theorem dX12_free_47 : decode cX12_free 47 = .ok (.goto (-31), 3) := by decide +kernel
theorem dX12_free_50 : decode cX12_free 50 = .ok (.iload_n 3, 1) := by decide +kernel
theorem dX12_free_51 : decode cX12_free 51 = .ok (.iconst 0, 1) := by decide +kernel
theorem dX12_free_52 : decode cX12_free 52 = .ok (.sipush 1000, 3) := by decide +kernel
theorem dX12_free_55 : decode cX12_free 55 = .ok (.invokestatic 34, 3) := by decide +kernel
theorem dX12_free_58 : decode cX12_free 58 = .ok (.ifCond .eq 7, 3) := by decide +kernel
theorem dX12_free_61 : decode cX12_free 61 = .ok (.iload_n 3, 1) := by decide +kernel
theorem dX12_free_62 : decode cX12_free 62 = .ok (.goto 5, 3) := by decide +kernel
theorem dX12_free_65 : decode cX12_free 65 = .ok (.bipush (-5), 2) := by decide +kernel
theorem dX12_free_67 : decode cX12_free 67 = .ok (.ireturn, 1) := by decide +kernel
set_option maxRecDepth 20000 in
theorem ggX12_most_X12_in : GoodIn wsX12_most wsX12_in := goodIn_r _ [4] rfl (by decide +kernel)
set_option maxRecDepth 20000 in
theorem gX12_most_X12_in : GoodIn wsX12_most (va_wsS RX12 34 yX12_in wsX12_in) := goodIn_app (goodIn_of _ (by decide +kernel)) ggX12_most_X12_in
set_option maxRecDepth 20000 in
theorem ggX12_most_X12_covering : GoodIn wsX12_most wsX12_covering := goodIn_r _ [8, 9, 10, 11, 12, 3, 13, 14, 15, 16, 17, 18, 19, 20, 21, 1, 2, 4, 22, 23, 24, 25, 26, 27, 28, 29, 30, 31, 32, 33, 34, 35, 36, 37, 38, 39] rfl (by decide +kernel)
set_option maxRecDepth 20000 in
theorem gX12_most_X12_covering : GoodIn wsX12_most (wsV RX12 168 RX12 yX12_covering wsX12_covering) := goodIn_app (goodIn_of _ (by decide +kernel)) ggX12_most_X12_covering
theorem dX12_most_0 : decode cX12_most 0 = .ok (.iload_n 1, 1) := by decide +kernel
theorem dX12_most_1 : decode cX12_most 1 = .ok (.iconst 0, 1) := by decide +kernel
theorem dX12_most_2 : decode cX12_most 2 = .ok (.iconst 2, 1) := by decide +kernel
theorem dX12_most_3 : decode cX12_most 3 = .ok (.invokestatic 34, 3) := by decide +kernel
theorem dX12_most_6 : decode cX12_most 6 = .ok (.ifCond .ne 6, 3) := by decide +kernel
theorem dX12_most_9 : decode cX12_most 9 = .ok (.bipush (-2), 2) := by decide +kernel
theorem dX12_most_11 : decode cX12_most 11 = .ok (.ireturn, 1) := by decide +kernel
theorem dX12_most_12 : decode cX12_most 12 = .ok (.iconst 0, 1) := by decide +kernel
theorem dX12_most_13 : decode cX12_most 13 = .ok (.istore_n 2, 1) := by decide +kernel
theorem dX12_most_14 : decode cX12_most 14 = .ok (.iconst (-1), 1) := by decide +kernel
theorem dX12_most_15 : decode cX12_most 15 = .ok (.istore_n 3, 1) := by decide +kernel
theorem dX12_most_16 : decode cX12_most 16 = .ok (.iconst 0, 1) := by decide +kernel
theorem dX12_most_17 : decode cX12_most 17 = .ok (.istore 4, 2) := by decide +kernel
theorem dX12_most_19 : decode cX12_most 19 = .ok (.iconst 0, 1) := by decide +kernel
theorem dX12_most_20 : decode cX12_most 20 = .ok (.istore 5, 2) := by decide +kernel
theorem dX12_most_22 : decode cX12_most 22 = .ok (.iload 5, 2) := by decide +kernel
theorem dX12_most_24 : decode cX12_most 24 = .ok (.sipush 1000, 3) := by decide +kernel
theorem dX12_most_27 : decode cX12_most 27 = .ok (.if_icmp .gt 44, 3) := by decide +kernel
theorem dX12_most_30 : decode cX12_most 30 = .ok (.aload_n 0, 1) := by decide +kernel
theorem dX12_most_31 : decode cX12_most 31 = .ok (.iload 5, 2) := by decide +kernel
theorem dX12_most_33 : decode cX12_most 33 = .ok (.invokevirtual 168, 3) := by decide +kernel
theorem dX12_most_36 : decode cX12_most 36 = .ok (.istore 6, 2) := by decide +kernel
theorem dX12_most_38 : decode cX12_most 38 = .ok (.iload 6, 2) := by decide +kernel
theorem dX12_most_40 : decode cX12_most 40 = .ok (.iload_n 3, 1) := by decide +kernel
theorem dX12_most_41 : decode cX12_most 41 = .ok (.if_icmp .le 9, 3) := by decide +kernel
theorem dX12_most_44 : decode cX12_most 44 = .ok (.iload 5, 2) := by decide +kernel
theorem dX12_most_46 : decode cX12_most 46 = .ok (.istore_n 2, 1) := by decide +kernel
theorem dX12_most_47 : decode cX12_most 47 = .ok (.iload 6, 2) := by decide +kernel
theorem dX12_most_49 : decode cX12_most 49 = .ok (.istore_n 3, 1) := by decide +kernel
theorem dX12_most_50 : decode cX12_most 50 = .ok (.iload 4, 2) := by decide +kernel
theorem dX12_most_52 : decode cX12_most 52 = .ok (.iload 6, 2) := by decide +kernel
theorem dX12_most_54 : decode cX12_most 54 = .ok (.ifCond .ne 7, 3) := by decide +kernel
theorem dX12_most_57 : decode cX12_most 57 = .ok (.iconst 1, 1) := by decide +kernel
theorem dX12_most_58 : decode cX12_most 58 = .ok (.goto 4, 3) := by decide +kernel
theorem dX12_most_61 : decode cX12_most 61 = .ok (.iconst 0, 1) := by decide +kernel
theorem dX12_most_62 : decode cX12_most 62 = .ok (.iadd, 1) := by decide +kernel
theorem dX12_most_63 : decode cX12_most 63 = .ok (.istore 4, 2) := by decide +kernel
theorem dX12_most_65 : decode cX12_most 65 = .ok (.iinc 5 1, 3) := by decide +kernel
theorem dX12_most_68 : decode cX12_most 68 = .ok (.goto (-46), 3) := by decide +kernel
theorem dX12_most_71 : decode cX12_most 71 = .ok (.iload_n 1, 1) := by decide +kernel
theorem dX12_most_72 : decode cX12_most 72 = .ok (.ifCond .ne 7, 3) := by decide +kernel
theorem dX12_most_75 : decode cX12_most 75 = .ok (.iload_n 2, 1) := by decide +kernel
theorem dX12_most_76 : decode cX12_most 76 = .ok (.goto 14, 3) := by decide +kernel
theorem dX12_most_79 : decode cX12_most 79 = .ok (.iload_n 1, 1) := by decide +kernel
theorem dX12_most_80 : decode cX12_most 80 = .ok (.iconst 1, 1) := by decide +kernel
theorem dX12_most_81 : decode cX12_most 81 = .ok (.if_icmp .ne 7, 3) := by decide +kernel
theorem dX12_most_84 : decode cX12_most 84 = .ok (.iload_n 3, 1) := by decide +kernel
theorem dX12_most_85 : decode cX12_most 85 = .ok (.goto 5, 3) := by decide +kernel
theorem dX12_most_88 : decode cX12_most 88 = .ok (.iload 4, 2) := by decide +kernel
theorem dX12_most_90 : decode cX12_most 90 = .ok (.ireturn, 1) := by decide +kernel
set_option maxRecDepth 20000 in
theorem ggX12_isOther_X12_covers : GoodIn wsX12_isOther wsX12_covers := goodIn_r _ [6, 7, 8, 9, 5, 10, 11, 12, 13, 14, 1, 15, 16, 17, 18, 19, 20, 21, 22, 23, 24, 25, 26, 27, 28, 29, 30, 31, 32, 33, 34, 35] rfl (by decide +kernel)
set_option maxRecDepth 20000 in
theorem gX12_isOther_X12_covers : GoodIn wsX12_isOther (wsV RX12 53 RX12 yX12_covers wsX12_covers) := goodIn_app (goodIn_of _ (by decide +kernel)) ggX12_isOther_X12_covers
theorem dX12_isOther_0 : decode cX12_isOther 0 = .ok (.iconst 0, 1) := by decide +kernel
theorem dX12_isOther_1 : decode cX12_isOther 1 = .ok (.istore_n 3, 1) := by decide +kernel
theorem dX12_isOther_2 : decode cX12_isOther 2 = .ok (.iload_n 3, 1) := by decide +kernel
theorem dX12_isOther_3 : decode cX12_isOther 3 = .ok (.aload_n 0, 1) := by decide +kernel
theorem dX12_isOther_4 : decode cX12_isOther 4 = .ok (.getfield 7, 3) := by decide +kernel
theorem dX12_isOther_7 : decode cX12_isOther 7 = .ok (.iconst 1, 1) := by decide +kernel
theorem dX12_isOther_8 : decode cX12_isOther 8 = .ok (.iaload, 1) := by decide +kernel
theorem dX12_isOther_9 : decode cX12_isOther 9 = .ok (.if_icmp .ge 26, 3) := by decide +kernel
theorem dX12_isOther_12 : decode cX12_isOther 12 = .ok (.aload_n 0, 1) := by decide +kernel
theorem dX12_isOther_13 : decode cX12_isOther 13 = .ok (.iload_n 3, 1) := by decide +kernel
theorem dX12_isOther_14 : decode cX12_isOther 14 = .ok (.iload_n 1, 1) := by decide +kernel
theorem dX12_isOther_15 : decode cX12_isOther 15 = .ok (.invokevirtual 53, 3) := by decide +kernel
theorem dX12_isOther_18 : decode cX12_isOther 18 = .ok (.aload_n 0, 1) := by decide +kernel
theorem dX12_isOther_19 : decode cX12_isOther 19 = .ok (.iload_n 3, 1) := by decide +kernel
theorem dX12_isOther_20 : decode cX12_isOther 20 = .ok (.iload_n 2, 1) := by decide +kernel
theorem dX12_isOther_21 : decode cX12_isOther 21 = .ok (.invokevirtual 53, 3) := by decide +kernel
theorem dX12_isOther_24 : decode cX12_isOther 24 = .ok (.if_icmp .eq 5, 3) := by decide +kernel
theorem dX12_isOther_27 : decode cX12_isOther 27 = .ok (.iconst 1, 1) := by decide +kernel
theorem dX12_isOther_28 : decode cX12_isOther 28 = .ok (.ireturn, 1) := by decide +kernel
theorem dX12_isOther_29 : decode cX12_isOther 29 = .ok (.iinc 3 1, 3) := by decide +kernel
theorem dX12_isOther_32 : decode cX12_isOther 32 = .ok (.goto (-30), 3) := by decide +kernel
theorem dX12_isOther_35 : decode cX12_isOther 35 = .ok (.iconst 0, 1) := by decide +kernel
theorem dX12_isOther_36 : decode cX12_isOther 36 = .ok (.ireturn, 1) := by decide +kernel
set_option maxRecDepth 20000 in
theorem ggX12_changesIn_X12_noWalker : GoodIn wsX12_changesIn wsX12_noWalker := goodIn_r _ [5, 6, 7, 8, 4, 9, 33, 34, 35, 36, 37, 38, 39, 40, 41, 42, 43, 44, 45, 46, 47, 48, 49, 50] rfl (by decide +kernel)
set_option maxRecDepth 20000 in
theorem gX12_changesIn_X12_noWalker : GoodIn wsX12_changesIn (wsV RX12 84 RX12 yX12_noWalker wsX12_noWalker) := goodIn_app (goodIn_of _ (by decide +kernel)) ggX12_changesIn_X12_noWalker
set_option maxRecDepth 20000 in
theorem ggX12_changesIn_X12_its : GoodIn wsX12_changesIn wsX12_its := goodIn_r _ [13, 6, 33, 34, 35, 36, 37, 38, 39, 40, 41, 42, 43, 44, 45, 46, 47, 48, 49, 50] rfl (by decide +kernel)
set_option maxRecDepth 20000 in
theorem gX12_changesIn_X12_its : GoodIn wsX12_changesIn (wsV RX12 46 RX12 yX12_its wsX12_its) := goodIn_app (goodIn_of _ (by decide +kernel)) ggX12_changesIn_X12_its
set_option maxRecDepth 20000 in
theorem ggX12_changesIn_X12_turned : GoodIn wsX12_changesIn wsX12_turned := goodIn_r _ [16] rfl (by decide +kernel)
set_option maxRecDepth 20000 in
theorem gX12_changesIn_X12_turned : GoodIn wsX12_changesIn (va_wsS RX12 87 yX12_turned wsX12_turned) := goodIn_app (goodIn_of _ (by decide +kernel)) ggX12_changesIn_X12_turned
set_option maxRecDepth 20000 in
theorem ggX12_changesIn_X12_isOther : GoodIn wsX12_changesIn wsX12_isOther := goodIn_r _ [20, 6, 21, 22, 23, 4, 24, 25, 26, 27, 28, 29, 30, 31, 32, 7, 8, 9, 33, 34, 35, 36, 37, 38, 39, 40, 41, 42, 43, 44, 45, 46, 47, 48, 49, 50] rfl (by decide +kernel)
set_option maxRecDepth 20000 in
theorem gX12_changesIn_X12_isOther : GoodIn wsX12_changesIn (wsV RX12 178 RX12 yX12_isOther wsX12_isOther) := goodIn_app (goodIn_of _ (by decide +kernel)) ggX12_changesIn_X12_isOther
theorem dX12_changesIn_0 : decode cX12_changesIn 0 = .ok (.aload_n 0, 1) := by decide +kernel
theorem dX12_changesIn_1 : decode cX12_changesIn 1 = .ok (.iload_n 1, 1) := by decide +kernel
theorem dX12_changesIn_2 : decode cX12_changesIn 2 = .ok (.invokevirtual 84, 3) := by decide +kernel
theorem dX12_changesIn_5 : decode cX12_changesIn 5 = .ok (.ifCond .eq 5, 3) := by decide +kernel
theorem dX12_changesIn_8 : decode cX12_changesIn 8 = .ok (.iconst (-1), 1) := by decide +kernel
theorem dX12_changesIn_9 : decode cX12_changesIn 9 = .ok (.ireturn, 1) := by decide +kernel
theorem dX12_changesIn_10 : decode cX12_changesIn 10 = .ok (.aload_n 0, 1) := by decide +kernel
theorem dX12_changesIn_11 : decode cX12_changesIn 11 = .ok (.iload_n 1, 1) := by decide +kernel
theorem dX12_changesIn_12 : decode cX12_changesIn 12 = .ok (.iconst 0, 1) := by decide +kernel
theorem dX12_changesIn_13 : decode cX12_changesIn 13 = .ok (.invokevirtual 46, 3) := by decide +kernel
theorem dX12_changesIn_16 : decode cX12_changesIn 16 = .ok (.istore_n 2, 1) := by decide +kernel
theorem dX12_changesIn_17 : decode cX12_changesIn 17 = .ok (.iload_n 2, 1) := by decide +kernel
theorem dX12_changesIn_18 : decode cX12_changesIn 18 = .ok (.istore_n 3, 1) := by decide +kernel
theorem dX12_changesIn_19 : decode cX12_changesIn 19 = .ok (.aload_n 0, 1) := by decide +kernel
theorem dX12_changesIn_20 : decode cX12_changesIn 20 = .ok (.iload_n 1, 1) := by decide +kernel
theorem dX12_changesIn_21 : decode cX12_changesIn 21 = .ok (.iconst 1, 1) := by decide +kernel
theorem dX12_changesIn_22 : decode cX12_changesIn 22 = .ok (.invokevirtual 46, 3) := by decide +kernel
theorem dX12_changesIn_25 : decode cX12_changesIn 25 = .ok (.istore 4, 2) := by decide +kernel
theorem dX12_changesIn_27 : decode cX12_changesIn 27 = .ok (.iconst 1, 1) := by decide +kernel
theorem dX12_changesIn_28 : decode cX12_changesIn 28 = .ok (.istore 5, 2) := by decide +kernel
theorem dX12_changesIn_30 : decode cX12_changesIn 30 = .ok (.iload 5, 2) := by decide +kernel
theorem dX12_changesIn_32 : decode cX12_changesIn 32 = .ok (.sipush 200, 3) := by decide +kernel
theorem dX12_changesIn_35 : decode cX12_changesIn 35 = .ok (.if_icmp .gt 49, 3) := by decide +kernel
theorem dX12_changesIn_38 : decode cX12_changesIn 38 = .ok (.iload_n 3, 1) := by decide +kernel
theorem dX12_changesIn_39 : decode cX12_changesIn 39 = .ok (.iload 4, 2) := by decide +kernel
theorem dX12_changesIn_41 : decode cX12_changesIn 41 = .ok (.iadd, 1) := by decide +kernel
theorem dX12_changesIn_42 : decode cX12_changesIn 42 = .ok (.istore 6, 2) := by decide +kernel
theorem dX12_changesIn_44 : decode cX12_changesIn 44 = .ok (.iload 6, 2) := by decide +kernel
theorem dX12_changesIn_46 : decode cX12_changesIn 46 = .ok (.invokestatic 87, 3) := by decide +kernel
theorem dX12_changesIn_49 : decode cX12_changesIn 49 = .ok (.istore_n 3, 1) := by decide +kernel
theorem dX12_changesIn_50 : decode cX12_changesIn 50 = .ok (.iload_n 3, 1) := by decide +kernel
theorem dX12_changesIn_51 : decode cX12_changesIn 51 = .ok (.iload 6, 2) := by decide +kernel
theorem dX12_changesIn_53 : decode cX12_changesIn 53 = .ok (.if_icmp .ne 8, 3) := by decide +kernel
theorem dX12_changesIn_56 : decode cX12_changesIn 56 = .ok (.iload 4, 2) := by decide +kernel
theorem dX12_changesIn_58 : decode cX12_changesIn 58 = .ok (.goto 6, 3) := by decide +kernel
theorem dX12_changesIn_61 : decode cX12_changesIn 61 = .ok (.iload 4, 2) := by decide +kernel
theorem dX12_changesIn_63 : decode cX12_changesIn 63 = .ok (.ineg, 1) := by decide +kernel
theorem dX12_changesIn_64 : decode cX12_changesIn 64 = .ok (.istore 4, 2) := by decide +kernel
theorem dX12_changesIn_66 : decode cX12_changesIn 66 = .ok (.aload_n 0, 1) := by decide +kernel
theorem dX12_changesIn_67 : decode cX12_changesIn 67 = .ok (.iload_n 2, 1) := by decide +kernel
theorem dX12_changesIn_68 : decode cX12_changesIn 68 = .ok (.iload_n 3, 1) := by decide +kernel
theorem dX12_changesIn_69 : decode cX12_changesIn 69 = .ok (.invokevirtual 178, 3) := by decide +kernel
theorem dX12_changesIn_72 : decode cX12_changesIn 72 = .ok (.ifCond .eq 6, 3) := by decide +kernel
theorem dX12_changesIn_75 : decode cX12_changesIn 75 = .ok (.iload 5, 2) := by decide +kernel
theorem dX12_changesIn_77 : decode cX12_changesIn 77 = .ok (.ireturn, 1) := by decide +kernel
theorem dX12_changesIn_78 : decode cX12_changesIn 78 = .ok (.iinc 5 1, 3) := by decide +kernel
theorem dX12_changesIn_81 : decode cX12_changesIn 81 = .ok (.goto (-51), 3) := by decide +kernel
theorem dX12_changesIn_84 : decode cX12_changesIn 84 = .ok (.bipush (-5), 2) := by decide +kernel
theorem dX12_changesIn_86 : decode cX12_changesIn 86 = .ok (.ireturn, 1) := by decide +kernel
set_option maxRecDepth 20000 in
theorem ggX12_meetIn_X12_noWalker : GoodIn wsX12_meetIn wsX12_noWalker := goodIn_r _ [5, 6, 7, 8, 4, 9, 17, 18, 19, 20, 21, 22, 23, 24, 25, 26, 27, 28, 29, 30, 31, 32, 33, 34] rfl (by decide +kernel)
set_option maxRecDepth 20000 in
theorem gX12_meetIn_X12_noWalker : GoodIn wsX12_meetIn (wsV RX12 84 RX12 yX12_noWalker wsX12_noWalker) := goodIn_app (goodIn_of _ (by decide +kernel)) ggX12_meetIn_X12_noWalker
set_option maxRecDepth 20000 in
theorem ggX12_meetIn_X12_its : GoodIn wsX12_meetIn wsX12_its := goodIn_r _ [13, 6, 17, 18, 19, 20, 21, 22, 23, 24, 25, 26, 27, 28, 29, 30, 31, 32, 33, 34] rfl (by decide +kernel)
set_option maxRecDepth 20000 in
theorem gX12_meetIn_X12_its : GoodIn wsX12_meetIn (wsV RX12 46 RX12 yX12_its wsX12_its) := goodIn_app (goodIn_of _ (by decide +kernel)) ggX12_meetIn_X12_its
set_option maxRecDepth 20000 in
theorem ggX12_meetIn_X12_turned : GoodIn wsX12_meetIn wsX12_turned := goodIn_r _ [16] rfl (by decide +kernel)
set_option maxRecDepth 20000 in
theorem gX12_meetIn_X12_turned : GoodIn wsX12_meetIn (va_wsS RX12 87 yX12_turned wsX12_turned) := goodIn_app (goodIn_of _ (by decide +kernel)) ggX12_meetIn_X12_turned
theorem dX12_meetIn_0 : decode cX12_meetIn 0 = .ok (.aload_n 0, 1) := by decide +kernel
theorem dX12_meetIn_1 : decode cX12_meetIn 1 = .ok (.iload_n 1, 1) := by decide +kernel
theorem dX12_meetIn_2 : decode cX12_meetIn 2 = .ok (.invokevirtual 84, 3) := by decide +kernel
theorem dX12_meetIn_5 : decode cX12_meetIn 5 = .ok (.ifCond .ne 11, 3) := by decide +kernel
theorem dX12_meetIn_8 : decode cX12_meetIn 8 = .ok (.aload_n 0, 1) := by decide +kernel
theorem dX12_meetIn_9 : decode cX12_meetIn 9 = .ok (.iload_n 2, 1) := by decide +kernel
theorem dX12_meetIn_10 : decode cX12_meetIn 10 = .ok (.invokevirtual 84, 3) := by decide +kernel
theorem dX12_meetIn_13 : decode cX12_meetIn 13 = .ok (.ifCond .eq 5, 3) := by decide +kernel
theorem dX12_meetIn_16 : decode cX12_meetIn 16 = .ok (.iconst (-1), 1) := by decide +kernel
theorem dX12_meetIn_17 : decode cX12_meetIn 17 = .ok (.ireturn, 1) := by decide +kernel
theorem dX12_meetIn_18 : decode cX12_meetIn 18 = .ok (.iload_n 1, 1) := by decide +kernel
theorem dX12_meetIn_19 : decode cX12_meetIn 19 = .ok (.iload_n 2, 1) := by decide +kernel
theorem dX12_meetIn_20 : decode cX12_meetIn 20 = .ok (.if_icmp .ne 6, 3) := by decide +kernel
theorem dX12_meetIn_23 : decode cX12_meetIn 23 = .ok (.bipush (-2), 2) := by decide +kernel
theorem dX12_meetIn_25 : decode cX12_meetIn 25 = .ok (.ireturn, 1) := by decide +kernel
theorem dX12_meetIn_26 : decode cX12_meetIn 26 = .ok (.aload_n 0, 1) := by decide +kernel
theorem dX12_meetIn_27 : decode cX12_meetIn 27 = .ok (.iload_n 1, 1) := by decide +kernel
theorem dX12_meetIn_28 : decode cX12_meetIn 28 = .ok (.iconst 0, 1) := by decide +kernel
theorem dX12_meetIn_29 : decode cX12_meetIn 29 = .ok (.invokevirtual 46, 3) := by decide +kernel
theorem dX12_meetIn_32 : decode cX12_meetIn 32 = .ok (.istore_n 3, 1) := by decide +kernel
theorem dX12_meetIn_33 : decode cX12_meetIn 33 = .ok (.aload_n 0, 1) := by decide +kernel
theorem dX12_meetIn_34 : decode cX12_meetIn 34 = .ok (.iload_n 2, 1) := by decide +kernel
theorem dX12_meetIn_35 : decode cX12_meetIn 35 = .ok (.iconst 0, 1) := by decide +kernel
theorem dX12_meetIn_36 : decode cX12_meetIn 36 = .ok (.invokevirtual 46, 3) := by decide +kernel
theorem dX12_meetIn_39 : decode cX12_meetIn 39 = .ok (.istore 4, 2) := by decide +kernel
theorem dX12_meetIn_41 : decode cX12_meetIn 41 = .ok (.aload_n 0, 1) := by decide +kernel
theorem dX12_meetIn_42 : decode cX12_meetIn 42 = .ok (.iload_n 1, 1) := by decide +kernel
theorem dX12_meetIn_43 : decode cX12_meetIn 43 = .ok (.iconst 1, 1) := by decide +kernel
theorem dX12_meetIn_44 : decode cX12_meetIn 44 = .ok (.invokevirtual 46, 3) := by decide +kernel
theorem dX12_meetIn_47 : decode cX12_meetIn 47 = .ok (.istore 5, 2) := by decide +kernel
theorem dX12_meetIn_49 : decode cX12_meetIn 49 = .ok (.aload_n 0, 1) := by decide +kernel
theorem dX12_meetIn_50 : decode cX12_meetIn 50 = .ok (.iload_n 2, 1) := by decide +kernel
theorem dX12_meetIn_51 : decode cX12_meetIn 51 = .ok (.iconst 1, 1) := by decide +kernel
theorem dX12_meetIn_52 : decode cX12_meetIn 52 = .ok (.invokevirtual 46, 3) := by decide +kernel
theorem dX12_meetIn_55 : decode cX12_meetIn 55 = .ok (.istore 6, 2) := by decide +kernel
theorem dX12_meetIn_57 : decode cX12_meetIn 57 = .ok (.iconst 0, 1) := by decide +kernel
theorem dX12_meetIn_58 : decode cX12_meetIn 58 = .ok (.istore 7, 2) := by decide +kernel
theorem dX12_meetIn_60 : decode cX12_meetIn 60 = .ok (.iload 7, 2) := by decide +kernel
theorem dX12_meetIn_62 : decode cX12_meetIn 62 = .ok (.sipush 200, 3) := by decide +kernel
theorem dX12_meetIn_65 : decode cX12_meetIn 65 = .ok (.if_icmp .gt 77, 3) := by decide +kernel
theorem dX12_meetIn_68 : decode cX12_meetIn 68 = .ok (.iload_n 3, 1) := by decide +kernel
theorem dX12_meetIn_69 : decode cX12_meetIn 69 = .ok (.iload 4, 2) := by decide +kernel
theorem dX12_meetIn_71 : decode cX12_meetIn 71 = .ok (.if_icmp .ne 6, 3) := by decide +kernel
theorem dX12_meetIn_74 : decode cX12_meetIn 74 = .ok (.iload 7, 2) := by decide +kernel
theorem dX12_meetIn_76 : decode cX12_meetIn 76 = .ok (.ireturn, 1) := by decide +kernel
theorem dX12_meetIn_77 : decode cX12_meetIn 77 = .ok (.iload_n 3, 1) := by decide +kernel
theorem dX12_meetIn_78 : decode cX12_meetIn 78 = .ok (.iload 5, 2) := by decide +kernel
theorem dX12_meetIn_80 : decode cX12_meetIn 80 = .ok (.iadd, 1) := by decide +kernel
theorem dX12_meetIn_81 : decode cX12_meetIn 81 = .ok (.istore 8, 2) := by decide +kernel
theorem dX12_meetIn_83 : decode cX12_meetIn 83 = .ok (.iload 8, 2) := by decide +kernel
theorem dX12_meetIn_85 : decode cX12_meetIn 85 = .ok (.invokestatic 87, 3) := by decide +kernel
theorem dX12_meetIn_88 : decode cX12_meetIn 88 = .ok (.istore_n 3, 1) := by decide +kernel
theorem dX12_meetIn_89 : decode cX12_meetIn 89 = .ok (.iload_n 3, 1) := by decide +kernel
theorem dX12_meetIn_90 : decode cX12_meetIn 90 = .ok (.iload 8, 2) := by decide +kernel
theorem dX12_meetIn_92 : decode cX12_meetIn 92 = .ok (.if_icmp .ne 8, 3) := by decide +kernel
theorem dX12_meetIn_95 : decode cX12_meetIn 95 = .ok (.iload 5, 2) := by decide +kernel
theorem dX12_meetIn_97 : decode cX12_meetIn 97 = .ok (.goto 6, 3) := by decide +kernel
theorem dX12_meetIn_100 : decode cX12_meetIn 100 = .ok (.iload 5, 2) := by decide +kernel
theorem dX12_meetIn_102 : decode cX12_meetIn 102 = .ok (.ineg, 1) := by decide +kernel
theorem dX12_meetIn_103 : decode cX12_meetIn 103 = .ok (.istore 5, 2) := by decide +kernel
theorem dX12_meetIn_105 : decode cX12_meetIn 105 = .ok (.iload 4, 2) := by decide +kernel
theorem dX12_meetIn_107 : decode cX12_meetIn 107 = .ok (.iload 6, 2) := by decide +kernel
theorem dX12_meetIn_109 : decode cX12_meetIn 109 = .ok (.iadd, 1) := by decide +kernel
theorem dX12_meetIn_110 : decode cX12_meetIn 110 = .ok (.istore 8, 2) := by decide +kernel
theorem dX12_meetIn_112 : decode cX12_meetIn 112 = .ok (.iload 8, 2) := by decide +kernel
theorem dX12_meetIn_114 : decode cX12_meetIn 114 = .ok (.invokestatic 87, 3) := by decide +kernel
theorem dX12_meetIn_117 : decode cX12_meetIn 117 = .ok (.istore 4, 2) := by decide +kernel
theorem dX12_meetIn_119 : decode cX12_meetIn 119 = .ok (.iload 4, 2) := by decide +kernel
theorem dX12_meetIn_121 : decode cX12_meetIn 121 = .ok (.iload 8, 2) := by decide +kernel
theorem dX12_meetIn_123 : decode cX12_meetIn 123 = .ok (.if_icmp .ne 8, 3) := by decide +kernel
theorem dX12_meetIn_126 : decode cX12_meetIn 126 = .ok (.iload 6, 2) := by decide +kernel
theorem dX12_meetIn_128 : decode cX12_meetIn 128 = .ok (.goto 6, 3) := by decide +kernel
theorem dX12_meetIn_131 : decode cX12_meetIn 131 = .ok (.iload 6, 2) := by decide +kernel
theorem dX12_meetIn_133 : decode cX12_meetIn 133 = .ok (.ineg, 1) := by decide +kernel
theorem dX12_meetIn_134 : decode cX12_meetIn 134 = .ok (.istore 6, 2) := by decide +kernel
theorem dX12_meetIn_136 : decode cX12_meetIn 136 = .ok (.iinc 7 1, 3) := by decide +kernel
theorem dX12_meetIn_139 : decode cX12_meetIn 139 = .ok (.goto (-79), 3) := by decide +kernel
theorem dX12_meetIn_142 : decode cX12_meetIn 142 = .ok (.bipush (-5), 2) := by decide +kernel
theorem dX12_meetIn_144 : decode cX12_meetIn 144 = .ok (.ireturn, 1) := by decide +kernel
set_option maxRecDepth 20000 in
theorem ggX12_event_X12_in : GoodIn wsX12_event wsX12_in := goodIn_r _ [5] rfl (by decide +kernel)
set_option maxRecDepth 20000 in
theorem gX12_event_X12_in : GoodIn wsX12_event (va_wsS RX12 34 yX12_in wsX12_in) := goodIn_app (goodIn_of _ (by decide +kernel)) ggX12_event_X12_in
theorem dX12_event_0 : decode cX12_event 0 = .ok (.iload_n 1, 1) := by decide +kernel
theorem dX12_event_1 : decode cX12_event 1 = .ok (.ifCond .lt 12, 3) := by decide +kernel
theorem dX12_event_4 : decode cX12_event 4 = .ok (.iload_n 2, 1) := by decide +kernel
theorem dX12_event_5 : decode cX12_event 5 = .ok (.iconst 0, 1) := by decide +kernel
theorem dX12_event_6 : decode cX12_event 6 = .ok (.iconst 3, 1) := by decide +kernel
theorem dX12_event_7 : decode cX12_event 7 = .ok (.invokestatic 34, 3) := by decide +kernel
theorem dX12_event_10 : decode cX12_event 10 = .ok (.ifCond .ne 6, 3) := by decide +kernel
theorem dX12_event_13 : decode cX12_event 13 = .ok (.bipush (-2), 2) := by decide +kernel
theorem dX12_event_15 : decode cX12_event 15 = .ok (.ireturn, 1) := by decide +kernel
theorem dX12_event_16 : decode cX12_event 16 = .ok (.iload_n 1, 1) := by decide +kernel
theorem dX12_event_17 : decode cX12_event 17 = .ok (.aload_n 0, 1) := by decide +kernel
theorem dX12_event_18 : decode cX12_event 18 = .ok (.getfield 7, 3) := by decide +kernel
theorem dX12_event_21 : decode cX12_event 21 = .ok (.iconst 5, 1) := by decide +kernel
theorem dX12_event_22 : decode cX12_event 22 = .ok (.iaload, 1) := by decide +kernel
theorem dX12_event_23 : decode cX12_event 23 = .ok (.if_icmp .ge 29, 3) := by decide +kernel
theorem dX12_event_26 : decode cX12_event 26 = .ok (.aload_n 0, 1) := by decide +kernel
theorem dX12_event_27 : decode cX12_event 27 = .ok (.getfield 7, 3) := by decide +kernel
theorem dX12_event_30 : decode cX12_event 30 = .ok (.sipush 822, 3) := by decide +kernel
theorem dX12_event_33 : decode cX12_event 33 = .ok (.iconst 4, 1) := by decide +kernel
theorem dX12_event_34 : decode cX12_event 34 = .ok (.aload_n 0, 1) := by decide +kernel
theorem dX12_event_35 : decode cX12_event 35 = .ok (.getfield 7, 3) := by decide +kernel
theorem dX12_event_38 : decode cX12_event 38 = .ok (.iconst 5, 1) := by decide +kernel
theorem dX12_event_39 : decode cX12_event 39 = .ok (.iaload, 1) := by decide +kernel
theorem dX12_event_40 : decode cX12_event 40 = .ok (.iconst 1, 1) := by decide +kernel
theorem dX12_event_41 : decode cX12_event 41 = .ok (.isub, 1) := by decide +kernel
theorem dX12_event_42 : decode cX12_event 42 = .ok (.iload_n 1, 1) := by decide +kernel
theorem dX12_event_43 : decode cX12_event 43 = .ok (.isub, 1) := by decide +kernel
theorem dX12_event_44 : decode cX12_event 44 = .ok (.imul, 1) := by decide +kernel
theorem dX12_event_45 : decode cX12_event 45 = .ok (.iadd, 1) := by decide +kernel
theorem dX12_event_46 : decode cX12_event 46 = .ok (.iload_n 2, 1) := by decide +kernel
theorem dX12_event_47 : decode cX12_event 47 = .ok (.iadd, 1) := by decide +kernel
theorem dX12_event_48 : decode cX12_event 48 = .ok (.iaload, 1) := by decide +kernel
theorem dX12_event_49 : decode cX12_event 49 = .ok (.goto 5, 3) := by decide +kernel
theorem dX12_event_52 : decode cX12_event 52 = .ok (.bipush (-5), 2) := by decide +kernel
theorem dX12_event_54 : decode cX12_event 54 = .ok (.ireturn, 1) := by decide +kernel
set_option maxRecDepth 20000 in
theorem ggX12_pairs_X12_isThere : GoodIn wsX12_pairs wsX12_isThere := goodIn_r _ [6, 7, 8, 9, 5, 10, 1, 11, 12, 13, 14, 15, 16, 17, 18, 19, 20, 21, 22, 23, 24, 25, 26, 27, 28] rfl (by decide +kernel)
set_option maxRecDepth 20000 in
theorem gX12_pairs_X12_isThere : GoodIn wsX12_pairs (wsV RX12 38 RX12 yX12_isThere wsX12_isThere) := goodIn_app (goodIn_of _ (by decide +kernel)) ggX12_pairs_X12_isThere
set_option maxRecDepth 20000 in
theorem ggX12_pairs_X12_of : GoodIn wsX12_pairs wsX12_of := goodIn_r _ [10, 1, 11, 12, 13, 14, 15, 16, 17, 18, 19, 20, 21, 22, 23, 24, 25, 26, 27, 28] rfl (by decide +kernel)
set_option maxRecDepth 20000 in
theorem gX12_pairs_X12_of : GoodIn wsX12_pairs (wsV RX12 30 RX12 yX12_of wsX12_of) := goodIn_app (goodIn_of _ (by decide +kernel)) ggX12_pairs_X12_of
theorem dX12_pairs_0 : decode cX12_pairs 0 = .ok (.iconst 0, 1) := by decide +kernel
theorem dX12_pairs_1 : decode cX12_pairs 1 = .ok (.istore_n 1, 1) := by decide +kernel
theorem dX12_pairs_2 : decode cX12_pairs 2 = .ok (.iconst 0, 1) := by decide +kernel
theorem dX12_pairs_3 : decode cX12_pairs 3 = .ok (.istore_n 2, 1) := by decide +kernel
theorem dX12_pairs_4 : decode cX12_pairs 4 = .ok (.iload_n 2, 1) := by decide +kernel
theorem dX12_pairs_5 : decode cX12_pairs 5 = .ok (.aload_n 0, 1) := by decide +kernel
theorem dX12_pairs_6 : decode cX12_pairs 6 = .ok (.getfield 7, 3) := by decide +kernel
theorem dX12_pairs_9 : decode cX12_pairs 9 = .ok (.iconst 1, 1) := by decide +kernel
theorem dX12_pairs_10 : decode cX12_pairs 10 = .ok (.iaload, 1) := by decide +kernel
theorem dX12_pairs_11 : decode cX12_pairs 11 = .ok (.if_icmp .ge 76, 3) := by decide +kernel
theorem dX12_pairs_14 : decode cX12_pairs 14 = .ok (.iconst 0, 1) := by decide +kernel
theorem dX12_pairs_15 : decode cX12_pairs 15 = .ok (.istore_n 3, 1) := by decide +kernel
theorem dX12_pairs_16 : decode cX12_pairs 16 = .ok (.iload_n 3, 1) := by decide +kernel
theorem dX12_pairs_17 : decode cX12_pairs 17 = .ok (.iload_n 2, 1) := by decide +kernel
theorem dX12_pairs_18 : decode cX12_pairs 18 = .ok (.if_icmp .ge 63, 3) := by decide +kernel
theorem dX12_pairs_21 : decode cX12_pairs 21 = .ok (.iload_n 1, 1) := by decide +kernel
theorem dX12_pairs_22 : decode cX12_pairs 22 = .ok (.aload_n 0, 1) := by decide +kernel
theorem dX12_pairs_23 : decode cX12_pairs 23 = .ok (.iload_n 2, 1) := by decide +kernel
theorem dX12_pairs_24 : decode cX12_pairs 24 = .ok (.invokevirtual 38, 3) := by decide +kernel
theorem dX12_pairs_27 : decode cX12_pairs 27 = .ok (.ifCond .eq 45, 3) := by decide +kernel
theorem dX12_pairs_30 : decode cX12_pairs 30 = .ok (.aload_n 0, 1) := by decide +kernel
theorem dX12_pairs_31 : decode cX12_pairs 31 = .ok (.iload_n 3, 1) := by decide +kernel
theorem dX12_pairs_32 : decode cX12_pairs 32 = .ok (.invokevirtual 38, 3) := by decide +kernel
theorem dX12_pairs_35 : decode cX12_pairs 35 = .ok (.ifCond .eq 37, 3) := by decide +kernel
theorem dX12_pairs_38 : decode cX12_pairs 38 = .ok (.aload_n 0, 1) := by decide +kernel
theorem dX12_pairs_39 : decode cX12_pairs 39 = .ok (.iload_n 2, 1) := by decide +kernel
theorem dX12_pairs_40 : decode cX12_pairs 40 = .ok (.iconst 2, 1) := by decide +kernel
theorem dX12_pairs_41 : decode cX12_pairs 41 = .ok (.invokevirtual 30, 3) := by decide +kernel
theorem dX12_pairs_44 : decode cX12_pairs 44 = .ok (.aload_n 0, 1) := by decide +kernel
theorem dX12_pairs_45 : decode cX12_pairs 45 = .ok (.iload_n 3, 1) := by decide +kernel
theorem dX12_pairs_46 : decode cX12_pairs 46 = .ok (.iconst 3, 1) := by decide +kernel
theorem dX12_pairs_47 : decode cX12_pairs 47 = .ok (.invokevirtual 30, 3) := by decide +kernel
theorem dX12_pairs_50 : decode cX12_pairs 50 = .ok (.if_icmp .gt 22, 3) := by decide +kernel
theorem dX12_pairs_53 : decode cX12_pairs 53 = .ok (.aload_n 0, 1) := by decide +kernel
theorem dX12_pairs_54 : decode cX12_pairs 54 = .ok (.iload_n 3, 1) := by decide +kernel
theorem dX12_pairs_55 : decode cX12_pairs 55 = .ok (.iconst 2, 1) := by decide +kernel
theorem dX12_pairs_56 : decode cX12_pairs 56 = .ok (.invokevirtual 30, 3) := by decide +kernel
theorem dX12_pairs_59 : decode cX12_pairs 59 = .ok (.aload_n 0, 1) := by decide +kernel
theorem dX12_pairs_60 : decode cX12_pairs 60 = .ok (.iload_n 2, 1) := by decide +kernel
theorem dX12_pairs_61 : decode cX12_pairs 61 = .ok (.iconst 3, 1) := by decide +kernel
theorem dX12_pairs_62 : decode cX12_pairs 62 = .ok (.invokevirtual 30, 3) := by decide +kernel
theorem dX12_pairs_65 : decode cX12_pairs 65 = .ok (.if_icmp .gt 7, 3) := by decide +kernel
theorem dX12_pairs_68 : decode cX12_pairs 68 = .ok (.iconst 1, 1) := by decide +kernel
theorem dX12_pairs_69 : decode cX12_pairs 69 = .ok (.goto 4, 3) := by decide +kernel
theorem dX12_pairs_72 : decode cX12_pairs 72 = .ok (.iconst 0, 1) := by decide +kernel
theorem dX12_pairs_73 : decode cX12_pairs 73 = .ok (.iadd, 1) := by decide +kernel
theorem dX12_pairs_74 : decode cX12_pairs 74 = .ok (.istore_n 1, 1) := by decide +kernel
theorem dX12_pairs_75 : decode cX12_pairs 75 = .ok (.iinc 3 1, 3) := by decide +kernel
theorem dX12_pairs_78 : decode cX12_pairs 78 = .ok (.goto (-62), 3) := by decide +kernel
theorem dX12_pairs_81 : decode cX12_pairs 81 = .ok (.iinc 2 1, 3) := by decide +kernel
theorem dX12_pairs_84 : decode cX12_pairs 84 = .ok (.goto (-80), 3) := by decide +kernel
theorem dX12_pairs_87 : decode cX12_pairs 87 = .ok (.iload_n 1, 1) := by decide +kernel
theorem dX12_pairs_88 : decode cX12_pairs 88 = .ok (.ireturn, 1) := by decide +kernel
set_option maxRecDepth 20000 in
theorem ggX12_visited_X12_guests : GoodIn wsX12_visited wsX12_guests := goodIn_r _ [6, 1, 7, 8, 9, 5, 10, 11, 12, 13, 14, 15, 16, 17, 18, 19, 20, 21, 22, 23, 24, 25, 26, 27, 28] rfl (by decide +kernel)
set_option maxRecDepth 20000 in
theorem gX12_visited_X12_guests : GoodIn wsX12_visited (wsV RX12 159 RX12 yX12_guests wsX12_guests) := goodIn_app (goodIn_of _ (by decide +kernel)) ggX12_visited_X12_guests
theorem dX12_visited_0 : decode cX12_visited 0 = .ok (.iconst 0, 1) := by decide +kernel
theorem dX12_visited_1 : decode cX12_visited 1 = .ok (.istore_n 1, 1) := by decide +kernel
theorem dX12_visited_2 : decode cX12_visited 2 = .ok (.iconst 0, 1) := by decide +kernel
theorem dX12_visited_3 : decode cX12_visited 3 = .ok (.istore_n 2, 1) := by decide +kernel
theorem dX12_visited_4 : decode cX12_visited 4 = .ok (.iload_n 2, 1) := by decide +kernel
theorem dX12_visited_5 : decode cX12_visited 5 = .ok (.aload_n 0, 1) := by decide +kernel
theorem dX12_visited_6 : decode cX12_visited 6 = .ok (.getfield 7, 3) := by decide +kernel
theorem dX12_visited_9 : decode cX12_visited 9 = .ok (.iconst 1, 1) := by decide +kernel
theorem dX12_visited_10 : decode cX12_visited 10 = .ok (.iaload, 1) := by decide +kernel
theorem dX12_visited_11 : decode cX12_visited 11 = .ok (.if_icmp .ge 25, 3) := by decide +kernel
theorem dX12_visited_14 : decode cX12_visited 14 = .ok (.iload_n 1, 1) := by decide +kernel
theorem dX12_visited_15 : decode cX12_visited 15 = .ok (.aload_n 0, 1) := by decide +kernel
theorem dX12_visited_16 : decode cX12_visited 16 = .ok (.iload_n 2, 1) := by decide +kernel
theorem dX12_visited_17 : decode cX12_visited 17 = .ok (.invokevirtual 159, 3) := by decide +kernel
theorem dX12_visited_20 : decode cX12_visited 20 = .ok (.ifCond .le 7, 3) := by decide +kernel
theorem dX12_visited_23 : decode cX12_visited 23 = .ok (.iconst 1, 1) := by decide +kernel
theorem dX12_visited_24 : decode cX12_visited 24 = .ok (.goto 4, 3) := by decide +kernel
theorem dX12_visited_27 : decode cX12_visited 27 = .ok (.iconst 0, 1) := by decide +kernel
theorem dX12_visited_28 : decode cX12_visited 28 = .ok (.iadd, 1) := by decide +kernel
theorem dX12_visited_29 : decode cX12_visited 29 = .ok (.istore_n 1, 1) := by decide +kernel
theorem dX12_visited_30 : decode cX12_visited 30 = .ok (.iinc 2 1, 3) := by decide +kernel
theorem dX12_visited_33 : decode cX12_visited 33 = .ok (.goto (-29), 3) := by decide +kernel
theorem dX12_visited_36 : decode cX12_visited 36 = .ok (.iload_n 1, 1) := by decide +kernel
theorem dX12_visited_37 : decode cX12_visited 37 = .ok (.ireturn, 1) := by decide +kernel
set_option maxRecDepth 20000 in
theorem ggX12_different_X12_isThere : GoodIn wsX12_different wsX12_isThere := goodIn_r _ [6, 7, 8, 9, 5, 10, 1, 11, 12, 13, 14, 15, 16, 17, 18, 19, 20, 21, 22, 23, 24, 25, 26, 27, 28] rfl (by decide +kernel)
set_option maxRecDepth 20000 in
theorem gX12_different_X12_isThere : GoodIn wsX12_different (wsV RX12 38 RX12 yX12_isThere wsX12_isThere) := goodIn_app (goodIn_of _ (by decide +kernel)) ggX12_different_X12_isThere
set_option maxRecDepth 20000 in
theorem ggX12_different_X12_of : GoodIn wsX12_different wsX12_of := goodIn_r _ [10, 1, 11, 12, 13, 14, 15, 16, 17, 18, 19, 20, 21, 22, 23, 24, 25, 26, 27, 28] rfl (by decide +kernel)
set_option maxRecDepth 20000 in
theorem gX12_different_X12_of : GoodIn wsX12_different (wsV RX12 30 RX12 yX12_of wsX12_of) := goodIn_app (goodIn_of _ (by decide +kernel)) ggX12_different_X12_of
theorem dX12_different_0 : decode cX12_different 0 = .ok (.iconst 0, 1) := by decide +kernel
theorem dX12_different_1 : decode cX12_different 1 = .ok (.istore_n 2, 1) := by decide +kernel
theorem dX12_different_2 : decode cX12_different 2 = .ok (.iconst 0, 1) := by decide +kernel
theorem dX12_different_3 : decode cX12_different 3 = .ok (.istore_n 3, 1) := by decide +kernel
theorem dX12_different_4 : decode cX12_different 4 = .ok (.iload_n 3, 1) := by decide +kernel
theorem dX12_different_5 : decode cX12_different 5 = .ok (.aload_n 0, 1) := by decide +kernel
theorem dX12_different_6 : decode cX12_different 6 = .ok (.getfield 7, 3) := by decide +kernel
theorem dX12_different_9 : decode cX12_different 9 = .ok (.iconst 1, 1) := by decide +kernel
theorem dX12_different_10 : decode cX12_different 10 = .ok (.iaload, 1) := by decide +kernel
theorem dX12_different_11 : decode cX12_different 11 = .ok (.if_icmp .ge 81, 3) := by decide +kernel
theorem dX12_different_14 : decode cX12_different 14 = .ok (.aload_n 0, 1) := by decide +kernel
theorem dX12_different_15 : decode cX12_different 15 = .ok (.iload_n 3, 1) := by decide +kernel
theorem dX12_different_16 : decode cX12_different 16 = .ok (.invokevirtual 38, 3) := by decide +kernel
theorem dX12_different_19 : decode cX12_different 19 = .ok (.istore 4, 2) := by decide +kernel
theorem dX12_different_21 : decode cX12_different 21 = .ok (.iconst 0, 1) := by decide +kernel
theorem dX12_different_22 : decode cX12_different 22 = .ok (.istore 5, 2) := by decide +kernel
theorem dX12_different_24 : decode cX12_different 24 = .ok (.iload 5, 2) := by decide +kernel
theorem dX12_different_26 : decode cX12_different 26 = .ok (.iload_n 3, 1) := by decide +kernel
theorem dX12_different_27 : decode cX12_different 27 = .ok (.if_icmp .ge 46, 3) := by decide +kernel
theorem dX12_different_30 : decode cX12_different 30 = .ok (.iload 4, 2) := by decide +kernel
theorem dX12_different_32 : decode cX12_different 32 = .ok (.ifCond .eq 41, 3) := by decide +kernel
theorem dX12_different_35 : decode cX12_different 35 = .ok (.aload_n 0, 1) := by decide +kernel
theorem dX12_different_36 : decode cX12_different 36 = .ok (.iload 5, 2) := by decide +kernel
theorem dX12_different_38 : decode cX12_different 38 = .ok (.invokevirtual 38, 3) := by decide +kernel
theorem dX12_different_41 : decode cX12_different 41 = .ok (.ifCond .eq 19, 3) := by decide +kernel
theorem dX12_different_44 : decode cX12_different 44 = .ok (.aload_n 0, 1) := by decide +kernel
theorem dX12_different_45 : decode cX12_different 45 = .ok (.iload 5, 2) := by decide +kernel
theorem dX12_different_47 : decode cX12_different 47 = .ok (.iload_n 1, 1) := by decide +kernel
theorem dX12_different_48 : decode cX12_different 48 = .ok (.invokevirtual 30, 3) := by decide +kernel
theorem dX12_different_51 : decode cX12_different 51 = .ok (.aload_n 0, 1) := by decide +kernel
theorem dX12_different_52 : decode cX12_different 52 = .ok (.iload_n 3, 1) := by decide +kernel
theorem dX12_different_53 : decode cX12_different 53 = .ok (.iload_n 1, 1) := by decide +kernel
theorem dX12_different_54 : decode cX12_different 54 = .ok (.invokevirtual 30, 3) := by decide +kernel
theorem dX12_different_57 : decode cX12_different 57 = .ok (.if_icmp .eq 7, 3) := by decide +kernel
theorem dX12_different_60 : decode cX12_different 60 = .ok (.iconst 1, 1) := by decide +kernel
theorem dX12_different_61 : decode cX12_different 61 = .ok (.goto 4, 3) := by decide +kernel
theorem dX12_different_64 : decode cX12_different 64 = .ok (.iconst 0, 1) := by decide +kernel
theorem dX12_different_65 : decode cX12_different 65 = .ok (.istore 4, 2) := by decide +kernel
theorem dX12_different_67 : decode cX12_different 67 = .ok (.iinc 5 1, 3) := by decide +kernel
theorem dX12_different_70 : decode cX12_different 70 = .ok (.goto (-46), 3) := by decide +kernel
theorem dX12_different_73 : decode cX12_different 73 = .ok (.iload_n 2, 1) := by decide +kernel
theorem dX12_different_74 : decode cX12_different 74 = .ok (.iload 4, 2) := by decide +kernel
theorem dX12_different_76 : decode cX12_different 76 = .ok (.ifCond .eq 7, 3) := by decide +kernel
theorem dX12_different_79 : decode cX12_different 79 = .ok (.iconst 1, 1) := by decide +kernel
theorem dX12_different_80 : decode cX12_different 80 = .ok (.goto 4, 3) := by decide +kernel
theorem dX12_different_83 : decode cX12_different 83 = .ok (.iconst 0, 1) := by decide +kernel
theorem dX12_different_84 : decode cX12_different 84 = .ok (.iadd, 1) := by decide +kernel
theorem dX12_different_85 : decode cX12_different 85 = .ok (.istore_n 2, 1) := by decide +kernel
theorem dX12_different_86 : decode cX12_different 86 = .ok (.iinc 3 1, 3) := by decide +kernel
theorem dX12_different_89 : decode cX12_different 89 = .ok (.goto (-85), 3) := by decide +kernel
theorem dX12_different_92 : decode cX12_different 92 = .ok (.iload_n 2, 1) := by decide +kernel
theorem dX12_different_93 : decode cX12_different 93 = .ok (.ireturn, 1) := by decide +kernel
set_option maxRecDepth 20000 in
theorem ggX12_count_X12_there : GoodIn wsX12_count wsX12_there := goodIn_r _ [8, 1, 9, 10, 11, 7, 12, 37, 38, 39, 40, 41, 42, 43, 44, 45, 46, 47, 48, 49, 50, 51, 52, 53, 54] rfl (by decide +kernel)
set_option maxRecDepth 20000 in
theorem gX12_count_X12_there : GoodIn wsX12_count (wsV RX12 137 RX12 yX12_there wsX12_there) := goodIn_app (goodIn_of _ (by decide +kernel)) ggX12_count_X12_there
set_option maxRecDepth 20000 in
theorem ggX12_count_X12_pairs : GoodIn wsX12_count wsX12_pairs := goodIn_r _ [16, 1, 17, 18, 19, 7, 20, 9, 10, 11, 12, 37, 38, 39, 40, 41, 42, 43, 44, 45, 46, 47, 48, 49, 50, 51, 52, 53, 54] rfl (by decide +kernel)
set_option maxRecDepth 20000 in
theorem gX12_count_X12_pairs : GoodIn wsX12_count (wsV RX12 181 RX12 yX12_pairs wsX12_pairs) := goodIn_app (goodIn_of _ (by decide +kernel)) ggX12_count_X12_pairs
set_option maxRecDepth 20000 in
theorem ggX12_count_X12_visited : GoodIn wsX12_count wsX12_visited := goodIn_r _ [24, 1, 25, 26, 27, 7, 28, 29, 30, 31, 32, 37, 38, 39, 40, 41, 42, 43, 44, 45, 46, 47, 48, 49, 50, 51, 52, 53, 54] rfl (by decide +kernel)
set_option maxRecDepth 20000 in
theorem gX12_count_X12_visited : GoodIn wsX12_count (wsV RX12 184 RX12 yX12_visited wsX12_visited) := goodIn_app (goodIn_of _ (by decide +kernel)) ggX12_count_X12_visited
set_option maxRecDepth 20000 in
theorem ggX12_count_X12_different : GoodIn wsX12_count wsX12_different := goodIn_r _ [36, 1, 17, 18, 19, 7, 20, 9, 10, 11, 12, 37, 38, 39, 40, 41, 42, 43, 44, 45, 46, 47, 48, 49, 50, 51, 52, 53, 54] rfl (by decide +kernel)
set_option maxRecDepth 20000 in
theorem gX12_count_X12_different : GoodIn wsX12_count (wsV RX12 187 RX12 yX12_different wsX12_different) := goodIn_app (goodIn_of _ (by decide +kernel)) ggX12_count_X12_different
theorem dX12_count_0 : decode cX12_count 0 = .ok (.iload_n 1, 1) := by decide +kernel
theorem dX12_count_1 : decode cX12_count 1 = .ok (.tableswitch 131 0 10 #[59, 66, 73, 78, 85, 92, 99, 104, 109, 121, 126], 59) := by decide +kernel
theorem dX12_count_60 : decode cX12_count 60 = .ok (.aload_n 0, 1) := by decide +kernel
theorem dX12_count_61 : decode cX12_count 61 = .ok (.getfield 7, 3) := by decide +kernel
theorem dX12_count_64 : decode cX12_count 64 = .ok (.iconst 0, 1) := by decide +kernel
theorem dX12_count_65 : decode cX12_count 65 = .ok (.iaload, 1) := by decide +kernel
theorem dX12_count_66 : decode cX12_count 66 = .ok (.ireturn, 1) := by decide +kernel
theorem dX12_count_67 : decode cX12_count 67 = .ok (.aload_n 0, 1) := by decide +kernel
theorem dX12_count_68 : decode cX12_count 68 = .ok (.getfield 7, 3) := by decide +kernel
theorem dX12_count_71 : decode cX12_count 71 = .ok (.iconst 1, 1) := by decide +kernel
theorem dX12_count_72 : decode cX12_count 72 = .ok (.iaload, 1) := by decide +kernel
theorem dX12_count_73 : decode cX12_count 73 = .ok (.ireturn, 1) := by decide +kernel
theorem dX12_count_74 : decode cX12_count 74 = .ok (.aload_n 0, 1) := by decide +kernel
theorem dX12_count_75 : decode cX12_count 75 = .ok (.invokevirtual 137, 3) := by decide +kernel
theorem dX12_count_78 : decode cX12_count 78 = .ok (.ireturn, 1) := by decide +kernel
theorem dX12_count_79 : decode cX12_count 79 = .ok (.aload_n 0, 1) := by decide +kernel
theorem dX12_count_80 : decode cX12_count 80 = .ok (.getfield 7, 3) := by decide +kernel
theorem dX12_count_83 : decode cX12_count 83 = .ok (.iconst 2, 1) := by decide +kernel
theorem dX12_count_84 : decode cX12_count 84 = .ok (.iaload, 1) := by decide +kernel
theorem dX12_count_85 : decode cX12_count 85 = .ok (.ireturn, 1) := by decide +kernel
theorem dX12_count_86 : decode cX12_count 86 = .ok (.aload_n 0, 1) := by decide +kernel
theorem dX12_count_87 : decode cX12_count 87 = .ok (.getfield 7, 3) := by decide +kernel
theorem dX12_count_90 : decode cX12_count 90 = .ok (.iconst 3, 1) := by decide +kernel
theorem dX12_count_91 : decode cX12_count 91 = .ok (.iaload, 1) := by decide +kernel
theorem dX12_count_92 : decode cX12_count 92 = .ok (.ireturn, 1) := by decide +kernel
theorem dX12_count_93 : decode cX12_count 93 = .ok (.aload_n 0, 1) := by decide +kernel
theorem dX12_count_94 : decode cX12_count 94 = .ok (.getfield 7, 3) := by decide +kernel
theorem dX12_count_97 : decode cX12_count 97 = .ok (.iconst 4, 1) := by decide +kernel
theorem dX12_count_98 : decode cX12_count 98 = .ok (.iaload, 1) := by decide +kernel
theorem dX12_count_99 : decode cX12_count 99 = .ok (.ireturn, 1) := by decide +kernel
theorem dX12_count_100 : decode cX12_count 100 = .ok (.aload_n 0, 1) := by decide +kernel
theorem dX12_count_101 : decode cX12_count 101 = .ok (.invokevirtual 181, 3) := by decide +kernel
theorem dX12_count_104 : decode cX12_count 104 = .ok (.ireturn, 1) := by decide +kernel
theorem dX12_count_105 : decode cX12_count 105 = .ok (.aload_n 0, 1) := by decide +kernel
theorem dX12_count_106 : decode cX12_count 106 = .ok (.invokevirtual 184, 3) := by decide +kernel
theorem dX12_count_109 : decode cX12_count 109 = .ok (.ireturn, 1) := by decide +kernel
theorem dX12_count_110 : decode cX12_count 110 = .ok (.aload_n 0, 1) := by decide +kernel
theorem dX12_count_111 : decode cX12_count 111 = .ok (.iconst 2, 1) := by decide +kernel
theorem dX12_count_112 : decode cX12_count 112 = .ok (.invokevirtual 187, 3) := by decide +kernel
theorem dX12_count_115 : decode cX12_count 115 = .ok (.aload_n 0, 1) := by decide +kernel
theorem dX12_count_116 : decode cX12_count 116 = .ok (.iconst 3, 1) := by decide +kernel
theorem dX12_count_117 : decode cX12_count 117 = .ok (.invokevirtual 187, 3) := by decide +kernel
theorem dX12_count_120 : decode cX12_count 120 = .ok (.iadd, 1) := by decide +kernel
theorem dX12_count_121 : decode cX12_count 121 = .ok (.ireturn, 1) := by decide +kernel
theorem dX12_count_122 : decode cX12_count 122 = .ok (.aload_n 0, 1) := by decide +kernel
theorem dX12_count_123 : decode cX12_count 123 = .ok (.getfield 42, 3) := by decide +kernel
theorem dX12_count_126 : decode cX12_count 126 = .ok (.ireturn, 1) := by decide +kernel
theorem dX12_count_127 : decode cX12_count 127 = .ok (.aload_n 0, 1) := by decide +kernel
theorem dX12_count_128 : decode cX12_count 128 = .ok (.getfield 96, 3) := by decide +kernel
theorem dX12_count_131 : decode cX12_count 131 = .ok (.ireturn, 1) := by decide +kernel
theorem dX12_count_132 : decode cX12_count 132 = .ok (.bipush (-2), 2) := by decide +kernel
theorem dX12_count_134 : decode cX12_count 134 = .ok (.ireturn, 1) := by decide +kernel
theorem dJ13_bitCount_95d88_0 : decode cJ13_bitCount_95d88 0 = .ok (.lload_n 0, 1) := by decide +kernel
theorem dJ13_bitCount_95d88_1 : decode cJ13_bitCount_95d88 1 = .ok (.lload_n 0, 1) := by decide +kernel
theorem dJ13_bitCount_95d88_2 : decode cJ13_bitCount_95d88 2 = .ok (.iconst 1, 1) := by decide +kernel
theorem dJ13_bitCount_95d88_3 : decode cJ13_bitCount_95d88 3 = .ok (.lushr, 1) := by decide +kernel
theorem dJ13_bitCount_95d88_4 : decode cJ13_bitCount_95d88 4 = .ok (.ldc2_w 314, 3) := by decide +kernel
theorem dJ13_bitCount_95d88_7 : decode cJ13_bitCount_95d88 7 = .ok (.land, 1) := by decide +kernel
theorem dJ13_bitCount_95d88_8 : decode cJ13_bitCount_95d88 8 = .ok (.lsub, 1) := by decide +kernel
theorem dJ13_bitCount_95d88_9 : decode cJ13_bitCount_95d88 9 = .ok (.lstore_n 0, 1) := by decide +kernel
theorem dJ13_bitCount_95d88_10 : decode cJ13_bitCount_95d88 10 = .ok (.lload_n 0, 1) := by decide +kernel
theorem dJ13_bitCount_95d88_11 : decode cJ13_bitCount_95d88 11 = .ok (.ldc2_w 316, 3) := by decide +kernel
theorem dJ13_bitCount_95d88_14 : decode cJ13_bitCount_95d88 14 = .ok (.land, 1) := by decide +kernel
theorem dJ13_bitCount_95d88_15 : decode cJ13_bitCount_95d88 15 = .ok (.lload_n 0, 1) := by decide +kernel
theorem dJ13_bitCount_95d88_16 : decode cJ13_bitCount_95d88 16 = .ok (.iconst 2, 1) := by decide +kernel
theorem dJ13_bitCount_95d88_17 : decode cJ13_bitCount_95d88 17 = .ok (.lushr, 1) := by decide +kernel
theorem dJ13_bitCount_95d88_18 : decode cJ13_bitCount_95d88 18 = .ok (.ldc2_w 316, 3) := by decide +kernel
theorem dJ13_bitCount_95d88_21 : decode cJ13_bitCount_95d88 21 = .ok (.land, 1) := by decide +kernel
theorem dJ13_bitCount_95d88_22 : decode cJ13_bitCount_95d88 22 = .ok (.ladd, 1) := by decide +kernel
theorem dJ13_bitCount_95d88_23 : decode cJ13_bitCount_95d88 23 = .ok (.lstore_n 0, 1) := by decide +kernel
theorem dJ13_bitCount_95d88_24 : decode cJ13_bitCount_95d88 24 = .ok (.lload_n 0, 1) := by decide +kernel
theorem dJ13_bitCount_95d88_25 : decode cJ13_bitCount_95d88 25 = .ok (.lload_n 0, 1) := by decide +kernel
theorem dJ13_bitCount_95d88_26 : decode cJ13_bitCount_95d88 26 = .ok (.iconst 4, 1) := by decide +kernel
theorem dJ13_bitCount_95d88_27 : decode cJ13_bitCount_95d88 27 = .ok (.lushr, 1) := by decide +kernel
theorem dJ13_bitCount_95d88_28 : decode cJ13_bitCount_95d88 28 = .ok (.ladd, 1) := by decide +kernel
theorem dJ13_bitCount_95d88_29 : decode cJ13_bitCount_95d88 29 = .ok (.ldc2_w 318, 3) := by decide +kernel
theorem dJ13_bitCount_95d88_32 : decode cJ13_bitCount_95d88 32 = .ok (.land, 1) := by decide +kernel
theorem dJ13_bitCount_95d88_33 : decode cJ13_bitCount_95d88 33 = .ok (.lstore_n 0, 1) := by decide +kernel
theorem dJ13_bitCount_95d88_34 : decode cJ13_bitCount_95d88 34 = .ok (.lload_n 0, 1) := by decide +kernel
theorem dJ13_bitCount_95d88_35 : decode cJ13_bitCount_95d88 35 = .ok (.lload_n 0, 1) := by decide +kernel
theorem dJ13_bitCount_95d88_36 : decode cJ13_bitCount_95d88 36 = .ok (.bipush 8, 2) := by decide +kernel
theorem dJ13_bitCount_95d88_38 : decode cJ13_bitCount_95d88 38 = .ok (.lushr, 1) := by decide +kernel
theorem dJ13_bitCount_95d88_39 : decode cJ13_bitCount_95d88 39 = .ok (.ladd, 1) := by decide +kernel
theorem dJ13_bitCount_95d88_40 : decode cJ13_bitCount_95d88 40 = .ok (.lstore_n 0, 1) := by decide +kernel
theorem dJ13_bitCount_95d88_41 : decode cJ13_bitCount_95d88 41 = .ok (.lload_n 0, 1) := by decide +kernel
theorem dJ13_bitCount_95d88_42 : decode cJ13_bitCount_95d88 42 = .ok (.lload_n 0, 1) := by decide +kernel
theorem dJ13_bitCount_95d88_43 : decode cJ13_bitCount_95d88 43 = .ok (.bipush 16, 2) := by decide +kernel
theorem dJ13_bitCount_95d88_45 : decode cJ13_bitCount_95d88 45 = .ok (.lushr, 1) := by decide +kernel
theorem dJ13_bitCount_95d88_46 : decode cJ13_bitCount_95d88 46 = .ok (.ladd, 1) := by decide +kernel
theorem dJ13_bitCount_95d88_47 : decode cJ13_bitCount_95d88 47 = .ok (.lstore_n 0, 1) := by decide +kernel
theorem dJ13_bitCount_95d88_48 : decode cJ13_bitCount_95d88 48 = .ok (.lload_n 0, 1) := by decide +kernel
theorem dJ13_bitCount_95d88_49 : decode cJ13_bitCount_95d88 49 = .ok (.lload_n 0, 1) := by decide +kernel
theorem dJ13_bitCount_95d88_50 : decode cJ13_bitCount_95d88 50 = .ok (.bipush 32, 2) := by decide +kernel
theorem dJ13_bitCount_95d88_52 : decode cJ13_bitCount_95d88 52 = .ok (.lushr, 1) := by decide +kernel
theorem dJ13_bitCount_95d88_53 : decode cJ13_bitCount_95d88 53 = .ok (.ladd, 1) := by decide +kernel
theorem dJ13_bitCount_95d88_54 : decode cJ13_bitCount_95d88 54 = .ok (.lstore_n 0, 1) := by decide +kernel
theorem dJ13_bitCount_95d88_55 : decode cJ13_bitCount_95d88 55 = .ok (.lload_n 0, 1) := by decide +kernel
theorem dJ13_bitCount_95d88_56 : decode cJ13_bitCount_95d88 56 = .ok (.l2i, 1) := by decide +kernel
theorem dJ13_bitCount_95d88_57 : decode cJ13_bitCount_95d88 57 = .ok (.bipush 127, 2) := by decide +kernel
theorem dJ13_bitCount_95d88_59 : decode cJ13_bitCount_95d88 59 = .ok (.iand, 1) := by decide +kernel
theorem dJ13_bitCount_95d88_60 : decode cJ13_bitCount_95d88 60 = .ok (.ireturn, 1) := by decide +kernel
theorem dJ9_floorMod_7cf53_0 : decode cJ9_floorMod_7cf53 0 = .ok (.iload_n 0, 1) := by decide +kernel
theorem dJ9_floorMod_7cf53_1 : decode cJ9_floorMod_7cf53 1 = .ok (.iload_n 1, 1) := by decide +kernel
theorem dJ9_floorMod_7cf53_2 : decode cJ9_floorMod_7cf53 2 = .ok (.irem, 1) := by decide +kernel
theorem dJ9_floorMod_7cf53_3 : decode cJ9_floorMod_7cf53 3 = .ok (.istore_n 2, 1) := by decide +kernel
theorem dJ9_floorMod_7cf53_4 : decode cJ9_floorMod_7cf53 4 = .ok (.iload_n 0, 1) := by decide +kernel
theorem dJ9_floorMod_7cf53_5 : decode cJ9_floorMod_7cf53 5 = .ok (.iload_n 1, 1) := by decide +kernel
theorem dJ9_floorMod_7cf53_6 : decode cJ9_floorMod_7cf53 6 = .ok (.ixor, 1) := by decide +kernel
theorem dJ9_floorMod_7cf53_7 : decode cJ9_floorMod_7cf53 7 = .ok (.ifCond .ge 11, 3) := by decide +kernel
theorem dJ9_floorMod_7cf53_10 : decode cJ9_floorMod_7cf53 10 = .ok (.iload_n 2, 1) := by decide +kernel
theorem dJ9_floorMod_7cf53_11 : decode cJ9_floorMod_7cf53 11 = .ok (.ifCond .eq 7, 3) := by decide +kernel
theorem dJ9_floorMod_7cf53_14 : decode cJ9_floorMod_7cf53 14 = .ok (.iload_n 2, 1) := by decide +kernel
theorem dJ9_floorMod_7cf53_15 : decode cJ9_floorMod_7cf53 15 = .ok (.iload_n 1, 1) := by decide +kernel
theorem dJ9_floorMod_7cf53_16 : decode cJ9_floorMod_7cf53 16 = .ok (.iadd, 1) := by decide +kernel
theorem dJ9_floorMod_7cf53_17 : decode cJ9_floorMod_7cf53 17 = .ok (.ireturn, 1) := by decide +kernel
theorem dJ9_floorMod_7cf53_18 : decode cJ9_floorMod_7cf53 18 = .ok (.iload_n 2, 1) := by decide +kernel
theorem dJ9_floorMod_7cf53_19 : decode cJ9_floorMod_7cf53 19 = .ok (.ireturn, 1) := by decide +kernel
theorem dJ9_abs_0f7a4_0 : decode cJ9_abs_0f7a4 0 = .ok (.iload_n 0, 1) := by decide +kernel
theorem dJ9_abs_0f7a4_1 : decode cJ9_abs_0f7a4 1 = .ok (.ifCond .ge 8, 3) := by decide +kernel
theorem dJ9_abs_0f7a4_4 : decode cJ9_abs_0f7a4 4 = .ok (.iload_n 0, 1) := by decide +kernel
theorem dJ9_abs_0f7a4_5 : decode cJ9_abs_0f7a4 5 = .ok (.ineg, 1) := by decide +kernel
theorem dJ9_abs_0f7a4_6 : decode cJ9_abs_0f7a4 6 = .ok (.goto 4, 3) := by decide +kernel
theorem dJ9_abs_0f7a4_9 : decode cJ9_abs_0f7a4 9 = .ok (.iload_n 0, 1) := by decide +kernel
theorem dJ9_abs_0f7a4_10 : decode cJ9_abs_0f7a4 10 = .ok (.ireturn, 1) := by decide +kernel
theorem dJ9_max_7cf53_0 : decode cJ9_max_7cf53 0 = .ok (.iload_n 0, 1) := by decide +kernel
theorem dJ9_max_7cf53_1 : decode cJ9_max_7cf53 1 = .ok (.iload_n 1, 1) := by decide +kernel
theorem dJ9_max_7cf53_2 : decode cJ9_max_7cf53 2 = .ok (.if_icmp .lt 7, 3) := by decide +kernel
theorem dJ9_max_7cf53_5 : decode cJ9_max_7cf53 5 = .ok (.iload_n 0, 1) := by decide +kernel
theorem dJ9_max_7cf53_6 : decode cJ9_max_7cf53 6 = .ok (.goto 4, 3) := by decide +kernel
theorem dJ9_max_7cf53_9 : decode cJ9_max_7cf53 9 = .ok (.iload_n 1, 1) := by decide +kernel
theorem dJ9_max_7cf53_10 : decode cJ9_max_7cf53 10 = .ok (.ireturn, 1) := by decide +kernel
theorem dJ9_min_7cf53_0 : decode cJ9_min_7cf53 0 = .ok (.iload_n 0, 1) := by decide +kernel
theorem dJ9_min_7cf53_1 : decode cJ9_min_7cf53 1 = .ok (.iload_n 1, 1) := by decide +kernel
theorem dJ9_min_7cf53_2 : decode cJ9_min_7cf53 2 = .ok (.if_icmp .gt 7, 3) := by decide +kernel
theorem dJ9_min_7cf53_5 : decode cJ9_min_7cf53 5 = .ok (.iload_n 0, 1) := by decide +kernel
theorem dJ9_min_7cf53_6 : decode cJ9_min_7cf53 6 = .ok (.goto 4, 3) := by decide +kernel
theorem dJ9_min_7cf53_9 : decode cJ9_min_7cf53 9 = .ok (.iload_n 1, 1) := by decide +kernel
theorem dJ9_min_7cf53_10 : decode cJ9_min_7cf53 10 = .ok (.ireturn, 1) := by decide +kernel
theorem dJ7_fill_d0a16_0 : decode cJ7_fill_d0a16 0 = .ok (.iconst 0, 1) := by decide +kernel
theorem dJ7_fill_d0a16_1 : decode cJ7_fill_d0a16 1 = .ok (.istore_n 3, 1) := by decide +kernel
theorem dJ7_fill_d0a16_2 : decode cJ7_fill_d0a16 2 = .ok (.aload_n 0, 1) := by decide +kernel
theorem dJ7_fill_d0a16_3 : decode cJ7_fill_d0a16 3 = .ok (.arraylength, 1) := by decide +kernel
theorem dJ7_fill_d0a16_4 : decode cJ7_fill_d0a16 4 = .ok (.istore 4, 2) := by decide +kernel
theorem dJ7_fill_d0a16_6 : decode cJ7_fill_d0a16 6 = .ok (.iload_n 3, 1) := by decide +kernel
theorem dJ7_fill_d0a16_7 : decode cJ7_fill_d0a16 7 = .ok (.iload 4, 2) := by decide +kernel
theorem dJ7_fill_d0a16_9 : decode cJ7_fill_d0a16 9 = .ok (.if_icmp .ge 13, 3) := by decide +kernel
theorem dJ7_fill_d0a16_12 : decode cJ7_fill_d0a16 12 = .ok (.aload_n 0, 1) := by decide +kernel
theorem dJ7_fill_d0a16_13 : decode cJ7_fill_d0a16 13 = .ok (.iload_n 3, 1) := by decide +kernel
theorem dJ7_fill_d0a16_14 : decode cJ7_fill_d0a16 14 = .ok (.lload_n 1, 1) := by decide +kernel
theorem dJ7_fill_d0a16_15 : decode cJ7_fill_d0a16 15 = .ok (.lastore, 1) := by decide +kernel
theorem dJ7_fill_d0a16_16 : decode cJ7_fill_d0a16 16 = .ok (.iinc 3 1, 3) := by decide +kernel
theorem dJ7_fill_d0a16_19 : decode cJ7_fill_d0a16 19 = .ok (.goto (-13), 3) := by decide +kernel
theorem dJ7_fill_d0a16_22 : decode cJ7_fill_d0a16 22 = .ok (.return_, 1) := by decide +kernel
theorem dJ7_fill_53178_0 : decode cJ7_fill_53178 0 = .ok (.iconst 0, 1) := by decide +kernel
theorem dJ7_fill_53178_1 : decode cJ7_fill_53178 1 = .ok (.istore_n 2, 1) := by decide +kernel
theorem dJ7_fill_53178_2 : decode cJ7_fill_53178 2 = .ok (.aload_n 0, 1) := by decide +kernel
theorem dJ7_fill_53178_3 : decode cJ7_fill_53178 3 = .ok (.arraylength, 1) := by decide +kernel
theorem dJ7_fill_53178_4 : decode cJ7_fill_53178 4 = .ok (.istore_n 3, 1) := by decide +kernel
theorem dJ7_fill_53178_5 : decode cJ7_fill_53178 5 = .ok (.iload_n 2, 1) := by decide +kernel
theorem dJ7_fill_53178_6 : decode cJ7_fill_53178 6 = .ok (.iload_n 3, 1) := by decide +kernel
theorem dJ7_fill_53178_7 : decode cJ7_fill_53178 7 = .ok (.if_icmp .ge 13, 3) := by decide +kernel
theorem dJ7_fill_53178_10 : decode cJ7_fill_53178 10 = .ok (.aload_n 0, 1) := by decide +kernel
theorem dJ7_fill_53178_11 : decode cJ7_fill_53178 11 = .ok (.iload_n 2, 1) := by decide +kernel
theorem dJ7_fill_53178_12 : decode cJ7_fill_53178 12 = .ok (.iload_n 1, 1) := by decide +kernel
theorem dJ7_fill_53178_13 : decode cJ7_fill_53178 13 = .ok (.iastore, 1) := by decide +kernel
theorem dJ7_fill_53178_14 : decode cJ7_fill_53178 14 = .ok (.iinc 2 1, 3) := by decide +kernel
theorem dJ7_fill_53178_17 : decode cJ7_fill_53178 17 = .ok (.goto (-12), 3) := by decide +kernel
theorem dJ7_fill_53178_20 : decode cJ7_fill_53178 20 = .ok (.return_, 1) := by decide +kernel
