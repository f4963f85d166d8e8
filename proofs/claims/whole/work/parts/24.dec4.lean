theorem dX11_meetIn_14 : decode cX11_meetIn 14 = .ok (.ifCond .eq 20, 3) := by decide +kernel
theorem dX11_meetIn_17 : decode cX11_meetIn 17 = .ok (.aload_n 0, 1) := by decide +kernel
theorem dX11_meetIn_18 : decode cX11_meetIn 18 = .ok (.getfield 12, 3) := by decide +kernel
theorem dX11_meetIn_21 : decode cX11_meetIn 21 = .ok (.getfield 48, 3) := by decide +kernel
theorem dX11_meetIn_24 : decode cX11_meetIn 24 = .ok (.getfield 108, 3) := by decide +kernel
theorem dX11_meetIn_27 : decode cX11_meetIn 27 = .ok (.iload_n 2, 1) := by decide +kernel
theorem dX11_meetIn_28 : decode cX11_meetIn 28 = .ok (.invokevirtual 118, 3) := by decide +kernel
theorem dX11_meetIn_31 : decode cX11_meetIn 31 = .ok (.ifCond .ne 5, 3) := by decide +kernel
theorem dX11_meetIn_34 : decode cX11_meetIn 34 = .ok (.iconst (-1), 1) := by decide +kernel
theorem dX11_meetIn_35 : decode cX11_meetIn 35 = .ok (.ireturn, 1) := by decide +kernel
theorem dX11_meetIn_36 : decode cX11_meetIn 36 = .ok (.iload_n 1, 1) := by decide +kernel
theorem dX11_meetIn_37 : decode cX11_meetIn 37 = .ok (.iload_n 2, 1) := by decide +kernel
theorem dX11_meetIn_38 : decode cX11_meetIn 38 = .ok (.if_icmp .ne 6, 3) := by decide +kernel
theorem dX11_meetIn_41 : decode cX11_meetIn 41 = .ok (.bipush (-2), 2) := by decide +kernel
theorem dX11_meetIn_43 : decode cX11_meetIn 43 = .ok (.ireturn, 1) := by decide +kernel
theorem dX11_meetIn_44 : decode cX11_meetIn 44 = .ok (.aload_n 0, 1) := by decide +kernel
theorem dX11_meetIn_45 : decode cX11_meetIn 45 = .ok (.getfield 12, 3) := by decide +kernel
theorem dX11_meetIn_48 : decode cX11_meetIn 48 = .ok (.getfield 48, 3) := by decide +kernel
theorem dX11_meetIn_51 : decode cX11_meetIn 51 = .ok (.getfield 108, 3) := by decide +kernel
theorem dX11_meetIn_54 : decode cX11_meetIn 54 = .ok (.iload_n 1, 1) := by decide +kernel
theorem dX11_meetIn_55 : decode cX11_meetIn 55 = .ok (.iload_n 2, 1) := by decide +kernel
theorem dX11_meetIn_56 : decode cX11_meetIn 56 = .ok (.invokevirtual 252, 3) := by decide +kernel
theorem dX11_meetIn_59 : decode cX11_meetIn 59 = .ok (.ireturn, 1) := by decide +kernel
set_option maxRecDepth 20000 in
theorem ggX11_index_X5_countThere : GoodIn wsX11_index wsX5_countThere := goodIn_r _ [9, 10, 11, 12, 13, 14, 15, 16, 17, 64, 65, 66, 67, 68, 69, 70, 71] rfl (by decide +kernel)
set_option maxRecDepth 20000 in
theorem gX11_index_X5_countThere : GoodIn wsX11_index (wsV RX11 157 RX5 yX5_countThere wsX5_countThere) := goodIn_app (goodIn_of _ (by decide +kernel)) ggX11_index_X5_countThere
set_option maxRecDepth 20000 in
theorem ggX11_index_X8_countNodes : GoodIn wsX11_index wsX8_countNodes := goodIn_r _ [22, 23, 72, 73, 74, 75, 76] rfl (by decide +kernel)
set_option maxRecDepth 20000 in
theorem gX11_index_X8_countNodes : GoodIn wsX11_index (wsV RX11 255 RX8 yX8_countNodes wsX8_countNodes) := goodIn_app (goodIn_of _ (by decide +kernel)) ggX11_index_X8_countNodes
set_option maxRecDepth 20000 in
theorem ggX11_index_X8_greatestDepth : GoodIn wsX11_index wsX8_greatestDepth := goodIn_r _ [27, 28, 29, 30, 31, 32, 33, 34, 35, 36, 8, 37, 10, 38, 39, 40, 64, 65, 66, 67, 68, 69, 70, 71, 72, 73, 74, 75, 76] rfl (by decide +kernel)
set_option maxRecDepth 20000 in
theorem gX11_index_X8_greatestDepth : GoodIn wsX11_index (wsV RX11 258 RX8 yX8_greatestDepth wsX8_greatestDepth) := goodIn_app (goodIn_of _ (by decide +kernel)) ggX11_index_X8_greatestDepth
set_option maxRecDepth 20000 in
theorem ggX11_index_X8_mostInOneNode : GoodIn wsX11_index wsX8_mostInOneNode := goodIn_r _ [44, 45, 46, 47, 48, 21, 49, 72, 73, 74, 75, 76] rfl (by decide +kernel)
set_option maxRecDepth 20000 in
theorem gX11_index_X8_mostInOneNode : GoodIn wsX11_index (wsV RX11 262 RX8 yX8_mostInOneNode wsX8_mostInOneNode) := goodIn_app (goodIn_of _ (by decide +kernel)) ggX11_index_X8_mostInOneNode
set_option maxRecDepth 20000 in
theorem ggX11_index_X8_fullestMiddle : GoodIn wsX11_index wsX8_fullestMiddle := goodIn_r _ [49, 45, 72, 73, 74, 75, 76] rfl (by decide +kernel)
set_option maxRecDepth 20000 in
theorem gX11_index_X8_fullestMiddle : GoodIn wsX11_index (wsV RX11 265 RX8 yX8_fullestMiddle wsX8_fullestMiddle) := goodIn_app (goodIn_of _ (by decide +kernel)) ggX11_index_X8_fullestMiddle
theorem dX11_index_0 : decode cX11_index 0 = .ok (.iload_n 1, 1) := by decide +kernel
theorem dX11_index_1 : decode cX11_index 1 = .ok (.ifCond .lt 8, 3) := by decide +kernel
theorem dX11_index_4 : decode cX11_index 4 = .ok (.iload_n 1, 1) := by decide +kernel
theorem dX11_index_5 : decode cX11_index 5 = .ok (.iconst 3, 1) := by decide +kernel
theorem dX11_index_6 : decode cX11_index 6 = .ok (.if_icmp .le 6, 3) := by decide +kernel
theorem dX11_index_9 : decode cX11_index 9 = .ok (.bipush (-2), 2) := by decide +kernel
theorem dX11_index_11 : decode cX11_index 11 = .ok (.ireturn, 1) := by decide +kernel
theorem dX11_index_12 : decode cX11_index 12 = .ok (.aload_n 0, 1) := by decide +kernel
theorem dX11_index_13 : decode cX11_index 13 = .ok (.getfield 12, 3) := by decide +kernel
theorem dX11_index_16 : decode cX11_index 16 = .ok (.getfield 48, 3) := by decide +kernel
theorem dX11_index_19 : decode cX11_index 19 = .ok (.getfield 51, 3) := by decide +kernel
theorem dX11_index_22 : decode cX11_index 22 = .ok (.invokevirtual 157, 3) := by decide +kernel
theorem dX11_index_25 : decode cX11_index 25 = .ok (.ifCond .ne 6, 3) := by decide +kernel
theorem dX11_index_28 : decode cX11_index 28 = .ok (.bipush (-5), 2) := by decide +kernel
theorem dX11_index_30 : decode cX11_index 30 = .ok (.ireturn, 1) := by decide +kernel
theorem dX11_index_31 : decode cX11_index 31 = .ok (.iload_n 1, 1) := by decide +kernel
theorem dX11_index_32 : decode cX11_index 32 = .ok (.tableswitch 71 0 2 #[28, 39, 60], 28) := by decide +kernel
theorem dX11_index_60 : decode cX11_index 60 = .ok (.aload_n 0, 1) := by decide +kernel
theorem dX11_index_61 : decode cX11_index 61 = .ok (.getfield 12, 3) := by decide +kernel
theorem dX11_index_64 : decode cX11_index 64 = .ok (.getfield 166, 3) := by decide +kernel
theorem dX11_index_67 : decode cX11_index 67 = .ok (.invokevirtual 255, 3) := by decide +kernel
theorem dX11_index_70 : decode cX11_index 70 = .ok (.ireturn, 1) := by decide +kernel
theorem dX11_index_71 : decode cX11_index 71 = .ok (.aload_n 0, 1) := by decide +kernel
theorem dX11_index_72 : decode cX11_index 72 = .ok (.getfield 12, 3) := by decide +kernel
theorem dX11_index_75 : decode cX11_index 75 = .ok (.getfield 166, 3) := by decide +kernel
theorem dX11_index_78 : decode cX11_index 78 = .ok (.aload_n 0, 1) := by decide +kernel
theorem dX11_index_79 : decode cX11_index 79 = .ok (.getfield 12, 3) := by decide +kernel
theorem dX11_index_82 : decode cX11_index 82 = .ok (.getfield 48, 3) := by decide +kernel
theorem dX11_index_85 : decode cX11_index 85 = .ok (.getfield 51, 3) := by decide +kernel
theorem dX11_index_88 : decode cX11_index 88 = .ok (.invokevirtual 258, 3) := by decide +kernel
theorem dX11_index_91 : decode cX11_index 91 = .ok (.ireturn, 1) := by decide +kernel
theorem dX11_index_92 : decode cX11_index 92 = .ok (.aload_n 0, 1) := by decide +kernel
theorem dX11_index_93 : decode cX11_index 93 = .ok (.getfield 12, 3) := by decide +kernel
theorem dX11_index_96 : decode cX11_index 96 = .ok (.getfield 166, 3) := by decide +kernel
theorem dX11_index_99 : decode cX11_index 99 = .ok (.invokevirtual 262, 3) := by decide +kernel
theorem dX11_index_102 : decode cX11_index 102 = .ok (.ireturn, 1) := by decide +kernel
theorem dX11_index_103 : decode cX11_index 103 = .ok (.aload_n 0, 1) := by decide +kernel
theorem dX11_index_104 : decode cX11_index 104 = .ok (.getfield 12, 3) := by decide +kernel
theorem dX11_index_107 : decode cX11_index 107 = .ok (.getfield 166, 3) := by decide +kernel
theorem dX11_index_110 : decode cX11_index 110 = .ok (.invokevirtual 265, 3) := by decide +kernel
theorem dX11_index_113 : decode cX11_index 113 = .ok (.ireturn, 1) := by decide +kernel
set_option maxRecDepth 20000 in
theorem ggX11_event_X3_slotOf : GoodIn wsX11_event wsX3_slotOf := goodIn_r _ [13, 14, 15, 16, 17, 18, 32, 33, 34, 35, 36, 37] rfl (by decide +kernel)
set_option maxRecDepth 20000 in
theorem gX11_event_X3_slotOf : GoodIn wsX11_event (wsV RX11 275 RX3 yX3_slotOf wsX3_slotOf) := goodIn_app (goodIn_of _ (by decide +kernel)) ggX11_event_X3_slotOf
theorem dX11_event_0 : decode cX11_event 0 = .ok (.iload_n 1, 1) := by decide +kernel
theorem dX11_event_1 : decode cX11_event 1 = .ok (.ifCond .lt 12, 3) := by decide +kernel
theorem dX11_event_4 : decode cX11_event 4 = .ok (.iload_n 2, 1) := by decide +kernel
theorem dX11_event_5 : decode cX11_event 5 = .ok (.ifCond .lt 8, 3) := by decide +kernel
theorem dX11_event_8 : decode cX11_event 8 = .ok (.iload_n 2, 1) := by decide +kernel
theorem dX11_event_9 : decode cX11_event 9 = .ok (.iconst 3, 1) := by decide +kernel
theorem dX11_event_10 : decode cX11_event 10 = .ok (.if_icmp .le 6, 3) := by decide +kernel
theorem dX11_event_13 : decode cX11_event 13 = .ok (.bipush (-2), 2) := by decide +kernel
theorem dX11_event_15 : decode cX11_event 15 = .ok (.ireturn, 1) := by decide +kernel
theorem dX11_event_16 : decode cX11_event 16 = .ok (.aload_n 0, 1) := by decide +kernel
theorem dX11_event_17 : decode cX11_event 17 = .ok (.getfield 12, 3) := by decide +kernel
theorem dX11_event_20 : decode cX11_event 20 = .ok (.getfield 48, 3) := by decide +kernel
theorem dX11_event_23 : decode cX11_event 23 = .ok (.getfield 268, 3) := by decide +kernel
theorem dX11_event_26 : decode cX11_event 26 = .ok (.astore_n 3, 1) := by decide +kernel
theorem dX11_event_27 : decode cX11_event 27 = .ok (.iload_n 1, 1) := by decide +kernel
theorem dX11_event_28 : decode cX11_event 28 = .ok (.aload_n 3, 1) := by decide +kernel
theorem dX11_event_29 : decode cX11_event 29 = .ok (.getfield 272, 3) := by decide +kernel
theorem dX11_event_32 : decode cX11_event 32 = .ok (.if_icmp .lt 6, 3) := by decide +kernel
theorem dX11_event_35 : decode cX11_event 35 = .ok (.bipush (-5), 2) := by decide +kernel
theorem dX11_event_37 : decode cX11_event 37 = .ok (.ireturn, 1) := by decide +kernel
theorem dX11_event_38 : decode cX11_event 38 = .ok (.aload_n 3, 1) := by decide +kernel
theorem dX11_event_39 : decode cX11_event 39 = .ok (.iload_n 1, 1) := by decide +kernel
theorem dX11_event_40 : decode cX11_event 40 = .ok (.invokevirtual 275, 3) := by decide +kernel
theorem dX11_event_43 : decode cX11_event 43 = .ok (.istore 4, 2) := by decide +kernel
theorem dX11_event_45 : decode cX11_event 45 = .ok (.iload_n 2, 1) := by decide +kernel
theorem dX11_event_46 : decode cX11_event 46 = .ok (.tableswitch 50 0 2 #[26, 34, 42], 26) := by decide +kernel
theorem dX11_event_72 : decode cX11_event 72 = .ok (.aload_n 3, 1) := by decide +kernel
theorem dX11_event_73 : decode cX11_event 73 = .ok (.getfield 278, 3) := by decide +kernel
theorem dX11_event_76 : decode cX11_event 76 = .ok (.iload 4, 2) := by decide +kernel
theorem dX11_event_78 : decode cX11_event 78 = .ok (.iaload, 1) := by decide +kernel
theorem dX11_event_79 : decode cX11_event 79 = .ok (.ireturn, 1) := by decide +kernel
theorem dX11_event_80 : decode cX11_event 80 = .ok (.aload_n 3, 1) := by decide +kernel
theorem dX11_event_81 : decode cX11_event 81 = .ok (.getfield 281, 3) := by decide +kernel
theorem dX11_event_84 : decode cX11_event 84 = .ok (.iload 4, 2) := by decide +kernel
theorem dX11_event_86 : decode cX11_event 86 = .ok (.iaload, 1) := by decide +kernel
theorem dX11_event_87 : decode cX11_event 87 = .ok (.ireturn, 1) := by decide +kernel
theorem dX11_event_88 : decode cX11_event 88 = .ok (.aload_n 3, 1) := by decide +kernel
theorem dX11_event_89 : decode cX11_event 89 = .ok (.getfield 284, 3) := by decide +kernel
theorem dX11_event_92 : decode cX11_event 92 = .ok (.iload 4, 2) := by decide +kernel
theorem dX11_event_94 : decode cX11_event 94 = .ok (.iaload, 1) := by decide +kernel
theorem dX11_event_95 : decode cX11_event 95 = .ok (.ireturn, 1) := by decide +kernel
theorem dX11_event_96 : decode cX11_event 96 = .ok (.aload_n 3, 1) := by decide +kernel
theorem dX11_event_97 : decode cX11_event 97 = .ok (.getfield 287, 3) := by decide +kernel
theorem dX11_event_100 : decode cX11_event 100 = .ok (.iload 4, 2) := by decide +kernel
theorem dX11_event_102 : decode cX11_event 102 = .ok (.iaload, 1) := by decide +kernel
theorem dX11_event_103 : decode cX11_event 103 = .ok (.ireturn, 1) := by decide +kernel
set_option maxRecDepth 20000 in
theorem ggX11_count_X5_countThere : GoodIn wsX11_count wsX5_countThere := goodIn_r _ [20, 21, 22, 23, 24, 25, 26, 27, 28, 75, 76, 77, 78, 79, 80, 81, 82] rfl (by decide +kernel)
set_option maxRecDepth 20000 in
theorem gX11_count_X5_countThere : GoodIn wsX11_count (wsV RX11 157 RX5 yX5_countThere wsX5_countThere) := goodIn_app (goodIn_of _ (by decide +kernel)) ggX11_count_X5_countThere
set_option maxRecDepth 20000 in
theorem ggX11_count_X11_sumOf : GoodIn wsX11_count wsX11_sumOf := goodIn_r _ [32] rfl (by decide +kernel)
set_option maxRecDepth 20000 in
theorem gX11_count_X11_sumOf : GoodIn wsX11_count (va_wsS RX11 289 yX11_sumOf wsX11_sumOf) := goodIn_app (goodIn_of _ (by decide +kernel)) ggX11_count_X11_sumOf
set_option maxRecDepth 20000 in
theorem ggX11_count_X5_countPairs : GoodIn wsX11_count wsX5_countPairs := goodIn_r _ [36, 37, 38, 39, 40, 41, 42, 19, 43, 21, 44, 31, 45, 75, 76, 77, 78, 79, 80, 81, 82] rfl (by decide +kernel)
set_option maxRecDepth 20000 in
theorem gX11_count_X5_countPairs : GoodIn wsX11_count (wsV RX11 293 RX5 yX5_countPairs wsX5_countPairs) := goodIn_app (goodIn_of _ (by decide +kernel)) ggX11_count_X5_countPairs
set_option maxRecDepth 20000 in
theorem ggX11_count_X9_insideOfAny : GoodIn wsX11_count wsX9_insideOfAny := goodIn_r _ [50, 51, 52, 83, 84, 85, 86, 87, 88, 89, 90, 91] rfl (by decide +kernel)
set_option maxRecDepth 20000 in
theorem gX11_count_X9_insideOfAny : GoodIn wsX11_count (wsV RX11 296 RX9 yX9_insideOfAny wsX9_insideOfAny) := goodIn_app (goodIn_of _ (by decide +kernel)) ggX11_count_X9_insideOfAny
set_option maxRecDepth 20000 in
theorem ggX11_count_J13_bitCount_95d88 : GoodIn wsX11_count wsJ13_bitCount_95d88 := goodIn_r _ [25, 26, 27, 28] rfl (by decide +kernel)
set_option maxRecDepth 20000 in
theorem gX11_count_J13_bitCount_95d88 : GoodIn wsX11_count (va_wsS RX11 191 yJ13_bitCount_95d88 wsJ13_bitCount_95d88) := goodIn_app (goodIn_of _ (by decide +kernel)) ggX11_count_J13_bitCount_95d88
set_option maxRecDepth 20000 in
theorem ggX11_count_X5_countDifferent : GoodIn wsX11_count wsX5_countDifferent := goodIn_r _ [57, 37, 40, 41, 42, 19, 43, 21, 44, 31, 45, 58, 59, 60, 61, 75, 76, 77, 78, 79, 80, 81, 82] rfl (by decide +kernel)
set_option maxRecDepth 20000 in
theorem gX11_count_X5_countDifferent : GoodIn wsX11_count (wsV RX11 300 RX5 yX5_countDifferent wsX5_countDifferent) := goodIn_app (goodIn_of _ (by decide +kernel)) ggX11_count_X5_countDifferent
theorem dX11_count_0 : decode cX11_count 0 = .ok (.aload_n 0, 1) := by decide +kernel
theorem dX11_count_1 : decode cX11_count 1 = .ok (.getfield 12, 3) := by decide +kernel
theorem dX11_count_4 : decode cX11_count 4 = .ok (.getfield 48, 3) := by decide +kernel
theorem dX11_count_7 : decode cX11_count 7 = .ok (.astore_n 2, 1) := by decide +kernel
theorem dX11_count_8 : decode cX11_count 8 = .ok (.iload_n 1, 1) := by decide +kernel
theorem dX11_count_9 : decode cX11_count 9 = .ok (.tableswitch 189 0 10 #[59, 64, 72, 80, 88, 106, 124, 132, 143, 173, 181], 59) := by decide +kernel
theorem dX11_count_68 : decode cX11_count 68 = .ok (.aload_n 2, 1) := by decide +kernel
theorem dX11_count_69 : decode cX11_count 69 = .ok (.getfield 128, 3) := by decide +kernel
theorem dX11_count_72 : decode cX11_count 72 = .ok (.ireturn, 1) := by decide +kernel
theorem dX11_count_73 : decode cX11_count 73 = .ok (.aload_n 2, 1) := by decide +kernel
theorem dX11_count_74 : decode cX11_count 74 = .ok (.getfield 51, 3) := by decide +kernel
theorem dX11_count_77 : decode cX11_count 77 = .ok (.getfield 55, 3) := by decide +kernel
theorem dX11_count_80 : decode cX11_count 80 = .ok (.ireturn, 1) := by decide +kernel
theorem dX11_count_81 : decode cX11_count 81 = .ok (.aload_n 2, 1) := by decide +kernel
theorem dX11_count_82 : decode cX11_count 82 = .ok (.getfield 51, 3) := by decide +kernel
theorem dX11_count_85 : decode cX11_count 85 = .ok (.invokevirtual 157, 3) := by decide +kernel
theorem dX11_count_88 : decode cX11_count 88 = .ok (.ireturn, 1) := by decide +kernel
theorem dX11_count_89 : decode cX11_count 89 = .ok (.aload_n 2, 1) := by decide +kernel
theorem dX11_count_90 : decode cX11_count 90 = .ok (.getfield 108, 3) := by decide +kernel
theorem dX11_count_93 : decode cX11_count 93 = .ok (.getfield 112, 3) := by decide +kernel
theorem dX11_count_96 : decode cX11_count 96 = .ok (.ireturn, 1) := by decide +kernel
theorem dX11_count_97 : decode cX11_count 97 = .ok (.aload_n 2, 1) := by decide +kernel
theorem dX11_count_98 : decode cX11_count 98 = .ok (.getfield 108, 3) := by decide +kernel
theorem dX11_count_101 : decode cX11_count 101 = .ok (.getfield 197, 3) := by decide +kernel
theorem dX11_count_104 : decode cX11_count 104 = .ok (.aload_n 2, 1) := by decide +kernel
theorem dX11_count_105 : decode cX11_count 105 = .ok (.getfield 108, 3) := by decide +kernel
theorem dX11_count_108 : decode cX11_count 108 = .ok (.getfield 112, 3) := by decide +kernel
theorem dX11_count_111 : decode cX11_count 111 = .ok (.invokestatic 289, 3) := by decide +kernel
theorem dX11_count_114 : decode cX11_count 114 = .ok (.ireturn, 1) := by decide +kernel
theorem dX11_count_115 : decode cX11_count 115 = .ok (.aload_n 2, 1) := by decide +kernel
theorem dX11_count_116 : decode cX11_count 116 = .ok (.getfield 108, 3) := by decide +kernel
theorem dX11_count_119 : decode cX11_count 119 = .ok (.getfield 200, 3) := by decide +kernel
theorem dX11_count_122 : decode cX11_count 122 = .ok (.aload_n 2, 1) := by decide +kernel
theorem dX11_count_123 : decode cX11_count 123 = .ok (.getfield 108, 3) := by decide +kernel
theorem dX11_count_126 : decode cX11_count 126 = .ok (.getfield 112, 3) := by decide +kernel
theorem dX11_count_129 : decode cX11_count 129 = .ok (.invokestatic 289, 3) := by decide +kernel
theorem dX11_count_132 : decode cX11_count 132 = .ok (.ireturn, 1) := by decide +kernel
theorem dX11_count_133 : decode cX11_count 133 = .ok (.aload_n 2, 1) := by decide +kernel
theorem dX11_count_134 : decode cX11_count 134 = .ok (.getfield 51, 3) := by decide +kernel
theorem dX11_count_137 : decode cX11_count 137 = .ok (.invokevirtual 293, 3) := by decide +kernel
theorem dX11_count_140 : decode cX11_count 140 = .ok (.ireturn, 1) := by decide +kernel
theorem dX11_count_141 : decode cX11_count 141 = .ok (.aload_n 2, 1) := by decide +kernel
theorem dX11_count_142 : decode cX11_count 142 = .ok (.getfield 108, 3) := by decide +kernel
theorem dX11_count_145 : decode cX11_count 145 = .ok (.invokevirtual 296, 3) := by decide +kernel
theorem dX11_count_148 : decode cX11_count 148 = .ok (.invokestatic 191, 3) := by decide +kernel
theorem dX11_count_151 : decode cX11_count 151 = .ok (.ireturn, 1) := by decide +kernel
theorem dX11_count_152 : decode cX11_count 152 = .ok (.aload_n 2, 1) := by decide +kernel
theorem dX11_count_153 : decode cX11_count 153 = .ok (.getfield 51, 3) := by decide +kernel
theorem dX11_count_156 : decode cX11_count 156 = .ok (.aload_n 2, 1) := by decide +kernel
theorem dX11_count_157 : decode cX11_count 157 = .ok (.getfield 51, 3) := by decide +kernel
theorem dX11_count_160 : decode cX11_count 160 = .ok (.getfield 160, 3) := by decide +kernel
theorem dX11_count_163 : decode cX11_count 163 = .ok (.invokevirtual 300, 3) := by decide +kernel
theorem dX11_count_166 : decode cX11_count 166 = .ok (.aload_n 2, 1) := by decide +kernel
theorem dX11_count_167 : decode cX11_count 167 = .ok (.getfield 51, 3) := by decide +kernel
theorem dX11_count_170 : decode cX11_count 170 = .ok (.aload_n 2, 1) := by decide +kernel
theorem dX11_count_171 : decode cX11_count 171 = .ok (.getfield 51, 3) := by decide +kernel
theorem dX11_count_174 : decode cX11_count 174 = .ok (.getfield 163, 3) := by decide +kernel
theorem dX11_count_177 : decode cX11_count 177 = .ok (.invokevirtual 300, 3) := by decide +kernel
theorem dX11_count_180 : decode cX11_count 180 = .ok (.iadd, 1) := by decide +kernel
theorem dX11_count_181 : decode cX11_count 181 = .ok (.ireturn, 1) := by decide +kernel
theorem dX11_count_182 : decode cX11_count 182 = .ok (.aload_n 0, 1) := by decide +kernel
theorem dX11_count_183 : decode cX11_count 183 = .ok (.getfield 19, 3) := by decide +kernel
theorem dX11_count_186 : decode cX11_count 186 = .ok (.getfield 149, 3) := by decide +kernel
theorem dX11_count_189 : decode cX11_count 189 = .ok (.ireturn, 1) := by decide +kernel
theorem dX11_count_190 : decode cX11_count 190 = .ok (.aload_n 0, 1) := by decide +kernel
theorem dX11_count_191 : decode cX11_count 191 = .ok (.getfield 33, 3) := by decide +kernel
theorem dX11_count_194 : decode cX11_count 194 = .ok (.getfield 139, 3) := by decide +kernel
theorem dX11_count_197 : decode cX11_count 197 = .ok (.ireturn, 1) := by decide +kernel
theorem dX11_count_198 : decode cX11_count 198 = .ok (.bipush (-2), 2) := by decide +kernel
theorem dX11_count_200 : decode cX11_count 200 = .ok (.ireturn, 1) := by decide +kernel
set_option maxRecDepth 20000 in
theorem ggX11_ticksInOldest_X9_oldestSpan : GoodIn wsX11_ticksInOldest wsX9_oldestSpan := goodIn_r _ [10, 11, 12, 13, 14, 15, 29, 30, 31, 32, 33, 34, 35, 36, 37] rfl (by decide +kernel)
set_option maxRecDepth 20000 in
theorem gX11_ticksInOldest_X9_oldestSpan : GoodIn wsX11_ticksInOldest (wsV RX11 204 RX9 yX9_oldestSpan wsX9_oldestSpan) := goodIn_app (goodIn_of _ (by decide +kernel)) ggX11_ticksInOldest_X9_oldestSpan
theorem dX11_ticksInOldest_0 : decode cX11_ticksInOldest 0 = .ok (.aload_n 0, 1) := by decide +kernel
theorem dX11_ticksInOldest_1 : decode cX11_ticksInOldest 1 = .ok (.getfield 12, 3) := by decide +kernel
theorem dX11_ticksInOldest_4 : decode cX11_ticksInOldest 4 = .ok (.getfield 48, 3) := by decide +kernel
theorem dX11_ticksInOldest_7 : decode cX11_ticksInOldest 7 = .ok (.getfield 108, 3) := by decide +kernel
theorem dX11_ticksInOldest_10 : decode cX11_ticksInOldest 10 = .ok (.astore_n 2, 1) := by decide +kernel
theorem dX11_ticksInOldest_11 : decode cX11_ticksInOldest 11 = .ok (.aload_n 2, 1) := by decide +kernel
theorem dX11_ticksInOldest_12 : decode cX11_ticksInOldest 12 = .ok (.iload_n 1, 1) := by decide +kernel
theorem dX11_ticksInOldest_13 : decode cX11_ticksInOldest 13 = .ok (.invokevirtual 204, 3) := by decide +kernel
theorem dX11_ticksInOldest_16 : decode cX11_ticksInOldest 16 = .ok (.istore_n 3, 1) := by decide +kernel
theorem dX11_ticksInOldest_17 : decode cX11_ticksInOldest 17 = .ok (.iload_n 3, 1) := by decide +kernel
theorem dX11_ticksInOldest_18 : decode cX11_ticksInOldest 18 = .ok (.bipush (-5), 2) := by decide +kernel
theorem dX11_ticksInOldest_20 : decode cX11_ticksInOldest 20 = .ok (.if_icmp .ne 8, 3) := by decide +kernel
theorem dX11_ticksInOldest_23 : decode cX11_ticksInOldest 23 = .ok (.bipush (-5), 2) := by decide +kernel
theorem dX11_ticksInOldest_25 : decode cX11_ticksInOldest 25 = .ok (.goto 22, 3) := by decide +kernel
theorem dX11_ticksInOldest_28 : decode cX11_ticksInOldest 28 = .ok (.aload_n 0, 1) := by decide +kernel
theorem dX11_ticksInOldest_29 : decode cX11_ticksInOldest 29 = .ok (.getfield 12, 3) := by decide +kernel
theorem dX11_ticksInOldest_32 : decode cX11_ticksInOldest 32 = .ok (.getfield 48, 3) := by decide +kernel
theorem dX11_ticksInOldest_35 : decode cX11_ticksInOldest 35 = .ok (.getfield 128, 3) := by decide +kernel
theorem dX11_ticksInOldest_38 : decode cX11_ticksInOldest 38 = .ok (.aload_n 2, 1) := by decide +kernel
theorem dX11_ticksInOldest_39 : decode cX11_ticksInOldest 39 = .ok (.getfield 304, 3) := by decide +kernel
theorem dX11_ticksInOldest_42 : decode cX11_ticksInOldest 42 = .ok (.iload_n 1, 1) := by decide +kernel
theorem dX11_ticksInOldest_43 : decode cX11_ticksInOldest 43 = .ok (.aaload, 1) := by decide +kernel
theorem dX11_ticksInOldest_44 : decode cX11_ticksInOldest 44 = .ok (.iload_n 3, 1) := by decide +kernel
theorem dX11_ticksInOldest_45 : decode cX11_ticksInOldest 45 = .ok (.iaload, 1) := by decide +kernel
theorem dX11_ticksInOldest_46 : decode cX11_ticksInOldest 46 = .ok (.isub, 1) := by decide +kernel
theorem dX11_ticksInOldest_47 : decode cX11_ticksInOldest 47 = .ok (.ireturn, 1) := by decide +kernel
theorem dX11_isPlace_0 : decode cX11_isPlace 0 = .ok (.iload_n 0, 1) := by decide +kernel
theorem dX11_isPlace_1 : decode cX11_isPlace 1 = .ok (.ifCond .lt 14, 3) := by decide +kernel
theorem dX11_isPlace_4 : decode cX11_isPlace 4 = .ok (.iload_n 0, 1) := by decide +kernel
theorem dX11_isPlace_5 : decode cX11_isPlace 5 = .ok (.sipush 1000, 3) := by decide +kernel
theorem dX11_isPlace_8 : decode cX11_isPlace 8 = .ok (.if_icmp .gt 7, 3) := by decide +kernel
theorem dX11_isPlace_11 : decode cX11_isPlace 11 = .ok (.iconst 1, 1) := by decide +kernel
theorem dX11_isPlace_12 : decode cX11_isPlace 12 = .ok (.goto 4, 3) := by decide +kernel
theorem dX11_isPlace_15 : decode cX11_isPlace 15 = .ok (.iconst 0, 1) := by decide +kernel
theorem dX11_isPlace_16 : decode cX11_isPlace 16 = .ok (.ireturn, 1) := by decide +kernel
theorem dX11_isSpeed_0 : decode cX11_isSpeed 0 = .ok (.iload_n 0, 1) := by decide +kernel
theorem dX11_isSpeed_1 : decode cX11_isSpeed 1 = .ok (.bipush (-50), 2) := by decide +kernel
theorem dX11_isSpeed_3 : decode cX11_isSpeed 3 = .ok (.if_icmp .lt 13, 3) := by decide +kernel
theorem dX11_isSpeed_6 : decode cX11_isSpeed 6 = .ok (.iload_n 0, 1) := by decide +kernel
theorem dX11_isSpeed_7 : decode cX11_isSpeed 7 = .ok (.bipush 50, 2) := by decide +kernel
theorem dX11_isSpeed_9 : decode cX11_isSpeed 9 = .ok (.if_icmp .gt 7, 3) := by decide +kernel
theorem dX11_isSpeed_12 : decode cX11_isSpeed 12 = .ok (.iconst 1, 1) := by decide +kernel
theorem dX11_isSpeed_13 : decode cX11_isSpeed 13 = .ok (.goto 4, 3) := by decide +kernel
theorem dX11_isSpeed_16 : decode cX11_isSpeed 16 = .ok (.iconst 0, 1) := by decide +kernel
theorem dX11_isSpeed_17 : decode cX11_isSpeed 17 = .ok (.ireturn, 1) := by decide +kernel
theorem dX11_isMember_0 : decode cX11_isMember 0 = .ok (.lload_n 0, 1) := by decide +kernel
theorem dX11_isMember_1 : decode cX11_isMember 1 = .ok (.iload_n 2, 1) := by decide +kernel
theorem dX11_isMember_2 : decode cX11_isMember 2 = .ok (.lushr, 1) := by decide +kernel
theorem dX11_isMember_3 : decode cX11_isMember 3 = .ok (.lconst 1, 1) := by decide +kernel
theorem dX11_isMember_4 : decode cX11_isMember 4 = .ok (.land, 1) := by decide +kernel
theorem dX11_isMember_5 : decode cX11_isMember 5 = .ok (.lconst 0, 1) := by decide +kernel
theorem dX11_isMember_6 : decode cX11_isMember 6 = .ok (.lcmp, 1) := by decide +kernel
theorem dX11_isMember_7 : decode cX11_isMember 7 = .ok (.ifCond .eq 7, 3) := by decide +kernel
theorem dX11_isMember_10 : decode cX11_isMember 10 = .ok (.iconst 1, 1) := by decide +kernel
theorem dX11_isMember_11 : decode cX11_isMember 11 = .ok (.goto 4, 3) := by decide +kernel
theorem dX11_isMember_14 : decode cX11_isMember 14 = .ok (.iconst 0, 1) := by decide +kernel
theorem dX11_isMember_15 : decode cX11_isMember 15 = .ok (.ireturn, 1) := by decide +kernel
set_option maxRecDepth 20000 in
theorem ggX11_memberAt_X11_isMember : GoodIn wsX11_memberAt wsX11_isMember := goodIn_r _ [4] rfl (by decide +kernel)
set_option maxRecDepth 20000 in
theorem gX11_memberAt_X11_isMember : GoodIn wsX11_memberAt (va_wsS RX11 308 yX11_isMember wsX11_isMember) := goodIn_app (goodIn_of _ (by decide +kernel)) ggX11_memberAt_X11_isMember
theorem dX11_memberAt_0 : decode cX11_memberAt 0 = .ok (.iconst 0, 1) := by decide +kernel
theorem dX11_memberAt_1 : decode cX11_memberAt 1 = .ok (.istore_n 3, 1) := by decide +kernel
theorem dX11_memberAt_2 : decode cX11_memberAt 2 = .ok (.iconst 0, 1) := by decide +kernel
theorem dX11_memberAt_3 : decode cX11_memberAt 3 = .ok (.istore 4, 2) := by decide +kernel
theorem dX11_memberAt_5 : decode cX11_memberAt 5 = .ok (.iload 4, 2) := by decide +kernel
theorem dX11_memberAt_7 : decode cX11_memberAt 7 = .ok (.bipush 60, 2) := by decide +kernel
theorem dX11_memberAt_9 : decode cX11_memberAt 9 = .ok (.if_icmp .ge 29, 3) := by decide +kernel
theorem dX11_memberAt_12 : decode cX11_memberAt 12 = .ok (.lload_n 0, 1) := by decide +kernel
theorem dX11_memberAt_13 : decode cX11_memberAt 13 = .ok (.iload 4, 2) := by decide +kernel
theorem dX11_memberAt_15 : decode cX11_memberAt 15 = .ok (.invokestatic 308, 3) := by decide +kernel
theorem dX11_memberAt_18 : decode cX11_memberAt 18 = .ok (.ifCond .eq 14, 3) := by decide +kernel
theorem dX11_memberAt_21 : decode cX11_memberAt 21 = .ok (.iload_n 3, 1) := by decide +kernel
theorem dX11_memberAt_22 : decode cX11_memberAt 22 = .ok (.iload_n 2, 1) := by decide +kernel
theorem dX11_memberAt_23 : decode cX11_memberAt 23 = .ok (.if_icmp .ne 6, 3) := by decide +kernel
theorem dX11_memberAt_26 : decode cX11_memberAt 26 = .ok (.iload 4, 2) := by decide +kernel
theorem dX11_memberAt_28 : decode cX11_memberAt 28 = .ok (.ireturn, 1) := by decide +kernel
theorem dX11_memberAt_29 : decode cX11_memberAt 29 = .ok (.iinc 3 1, 3) := by decide +kernel
theorem dX11_memberAt_32 : decode cX11_memberAt 32 = .ok (.iinc 4 1, 3) := by decide +kernel
theorem dX11_memberAt_35 : decode cX11_memberAt 35 = .ok (.goto (-30), 3) := by decide +kernel
theorem dX11_memberAt_38 : decode cX11_memberAt 38 = .ok (.bipush (-5), 2) := by decide +kernel
theorem dX11_memberAt_40 : decode cX11_memberAt 40 = .ok (.ireturn, 1) := by decide +kernel
theorem dX11_sumOf_0 : decode cX11_sumOf 0 = .ok (.iconst 0, 1) := by decide +kernel
theorem dX11_sumOf_1 : decode cX11_sumOf 1 = .ok (.istore_n 2, 1) := by decide +kernel
theorem dX11_sumOf_2 : decode cX11_sumOf 2 = .ok (.iconst 0, 1) := by decide +kernel
theorem dX11_sumOf_3 : decode cX11_sumOf 3 = .ok (.istore_n 3, 1) := by decide +kernel
theorem dX11_sumOf_4 : decode cX11_sumOf 4 = .ok (.iload_n 3, 1) := by decide +kernel
theorem dX11_sumOf_5 : decode cX11_sumOf 5 = .ok (.iload_n 1, 1) := by decide +kernel
theorem dX11_sumOf_6 : decode cX11_sumOf 6 = .ok (.if_icmp .ge 21, 3) := by decide +kernel
theorem dX11_sumOf_9 : decode cX11_sumOf 9 = .ok (.iload_n 3, 1) := by decide +kernel
theorem dX11_sumOf_10 : decode cX11_sumOf 10 = .ok (.aload_n 0, 1) := by decide +kernel
theorem dX11_sumOf_11 : decode cX11_sumOf 11 = .ok (.arraylength, 1) := by decide +kernel
theorem dX11_sumOf_12 : decode cX11_sumOf 12 = .ok (.if_icmp .ge 15, 3) := by decide +kernel
theorem dX11_sumOf_15 : decode cX11_sumOf 15 = .ok (.iload_n 2, 1) := by decide +kernel
theorem dX11_sumOf_16 : decode cX11_sumOf 16 = .ok (.aload_n 0, 1) := by decide +kernel
theorem dX11_sumOf_17 : decode cX11_sumOf 17 = .ok (.iload_n 3, 1) := by decide +kernel
theorem dX11_sumOf_18 : decode cX11_sumOf 18 = .ok (.iaload, 1) := by decide +kernel
theorem dX11_sumOf_19 : decode cX11_sumOf 19 = .ok (.iadd, 1) := by decide +kernel
theorem dX11_sumOf_20 : decode cX11_sumOf 20 = .ok (.istore_n 2, 1) := by decide +kernel
theorem dX11_sumOf_21 : decode cX11_sumOf 21 = .ok (.iinc 3 1, 3) := by decide +kernel
theorem dX11_sumOf_24 : decode cX11_sumOf 24 = .ok (.goto (-20), 3) := by decide +kernel
theorem dX11_sumOf_27 : decode cX11_sumOf 27 = .ok (.iload_n 2, 1) := by decide +kernel
theorem dX11_sumOf_28 : decode cX11_sumOf 28 = .ok (.ireturn, 1) := by decide +kernel
set_option maxRecDepth 20000 in
theorem ggX11_turnsNext_X11_isPlace : GoodIn wsX11_turnsNext wsX11_isPlace := goodIn_r _ [4] rfl (by decide +kernel)
set_option maxRecDepth 20000 in
theorem gX11_turnsNext_X11_isPlace : GoodIn wsX11_turnsNext (va_wsS RX11 44 yX11_isPlace wsX11_isPlace) := goodIn_app (goodIn_of _ (by decide +kernel)) ggX11_turnsNext_X11_isPlace
theorem dX11_turnsNext_0 : decode cX11_turnsNext 0 = .ok (.iload_n 0, 1) := by decide +kernel
theorem dX11_turnsNext_1 : decode cX11_turnsNext 1 = .ok (.iload_n 1, 1) := by decide +kernel
theorem dX11_turnsNext_2 : decode cX11_turnsNext 2 = .ok (.iadd, 1) := by decide +kernel
theorem dX11_turnsNext_3 : decode cX11_turnsNext 3 = .ok (.invokestatic 44, 3) := by decide +kernel
theorem dX11_turnsNext_6 : decode cX11_turnsNext 6 = .ok (.ifCond .ne 7, 3) := by decide +kernel
theorem dX11_turnsNext_9 : decode cX11_turnsNext 9 = .ok (.iconst 1, 1) := by decide +kernel
theorem dX11_turnsNext_10 : decode cX11_turnsNext 10 = .ok (.goto 4, 3) := by decide +kernel
theorem dX11_turnsNext_13 : decode cX11_turnsNext 13 = .ok (.iconst 0, 1) := by decide +kernel
theorem dX11_turnsNext_14 : decode cX11_turnsNext 14 = .ok (.ireturn, 1) := by decide +kernel
theorem dX11_nextPlace_0 : decode cX11_nextPlace 0 = .ok (.iload_n 0, 1) := by decide +kernel
theorem dX11_nextPlace_1 : decode cX11_nextPlace 1 = .ok (.iload_n 1, 1) := by decide +kernel
theorem dX11_nextPlace_2 : decode cX11_nextPlace 2 = .ok (.iadd, 1) := by decide +kernel
theorem dX11_nextPlace_3 : decode cX11_nextPlace 3 = .ok (.istore_n 2, 1) := by decide +kernel
theorem dX11_nextPlace_4 : decode cX11_nextPlace 4 = .ok (.iload_n 2, 1) := by decide +kernel
theorem dX11_nextPlace_5 : decode cX11_nextPlace 5 = .ok (.ifCond .ge 6, 3) := by decide +kernel
theorem dX11_nextPlace_8 : decode cX11_nextPlace 8 = .ok (.iload_n 2, 1) := by decide +kernel
theorem dX11_nextPlace_9 : decode cX11_nextPlace 9 = .ok (.ineg, 1) := by decide +kernel
theorem dX11_nextPlace_10 : decode cX11_nextPlace 10 = .ok (.ireturn, 1) := by decide +kernel
theorem dX11_nextPlace_11 : decode cX11_nextPlace 11 = .ok (.iload_n 2, 1) := by decide +kernel
theorem dX11_nextPlace_12 : decode cX11_nextPlace 12 = .ok (.sipush 1000, 3) := by decide +kernel
theorem dX11_nextPlace_15 : decode cX11_nextPlace 15 = .ok (.if_icmp .le 11, 3) := by decide +kernel
theorem dX11_nextPlace_18 : decode cX11_nextPlace 18 = .ok (.sipush 2000, 3) := by decide +kernel
theorem dX11_nextPlace_21 : decode cX11_nextPlace 21 = .ok (.iload_n 2, 1) := by decide +kernel
theorem dX11_nextPlace_22 : decode cX11_nextPlace 22 = .ok (.isub, 1) := by decide +kernel
theorem dX11_nextPlace_23 : decode cX11_nextPlace 23 = .ok (.goto 4, 3) := by decide +kernel
theorem dX11_nextPlace_26 : decode cX11_nextPlace 26 = .ok (.iload_n 2, 1) := by decide +kernel
theorem dX11_nextPlace_27 : decode cX11_nextPlace 27 = .ok (.ireturn, 1) := by decide +kernel
set_option maxRecDepth 20000 in
theorem ggX11_nextSpeed_X11_turnsNext : GoodIn wsX11_nextSpeed wsX11_turnsNext := goodIn_r _ [4, 5, 6, 3, 7] rfl (by decide +kernel)
set_option maxRecDepth 20000 in
theorem gX11_nextSpeed_X11_turnsNext : GoodIn wsX11_nextSpeed (va_wsS RX11 312 yX11_turnsNext wsX11_turnsNext) := goodIn_app (goodIn_of _ (by decide +kernel)) ggX11_nextSpeed_X11_turnsNext
theorem dX11_nextSpeed_0 : decode cX11_nextSpeed 0 = .ok (.iload_n 0, 1) := by decide +kernel
theorem dX11_nextSpeed_1 : decode cX11_nextSpeed 1 = .ok (.iload_n 1, 1) := by decide +kernel
theorem dX11_nextSpeed_2 : decode cX11_nextSpeed 2 = .ok (.invokestatic 312, 3) := by decide +kernel
theorem dX11_nextSpeed_5 : decode cX11_nextSpeed 5 = .ok (.ifCond .eq 8, 3) := by decide +kernel
theorem dX11_nextSpeed_8 : decode cX11_nextSpeed 8 = .ok (.iload_n 1, 1) := by decide +kernel
theorem dX11_nextSpeed_9 : decode cX11_nextSpeed 9 = .ok (.ineg, 1) := by decide +kernel
theorem dX11_nextSpeed_10 : decode cX11_nextSpeed 10 = .ok (.goto 4, 3) := by decide +kernel
theorem dX11_nextSpeed_13 : decode cX11_nextSpeed 13 = .ok (.iload_n 1, 1) := by decide +kernel
theorem dX11_nextSpeed_14 : decode cX11_nextSpeed 14 = .ok (.ireturn, 1) := by decide +kernel
theorem dX12_init_0 : decode cX12_init 0 = .ok (.aload_n 0, 1) := by decide +kernel
theorem dX12_init_1 : decode cX12_init 1 = .ok (.invokespecial 1, 3) := by decide +kernel
theorem dX12_init_4 : decode cX12_init 4 = .ok (.aload_n 0, 1) := by decide +kernel
theorem dX12_init_5 : decode cX12_init 5 = .ok (.sipush 870, 3) := by decide +kernel
theorem dX12_init_8 : decode cX12_init 8 = .ok (.newarray .int, 2) := by decide +kernel
theorem dX12_init_10 : decode cX12_init 10 = .ok (.putfield 7, 3) := by decide +kernel
theorem dX12_init_13 : decode cX12_init 13 = .ok (.aload_n 0, 1) := by decide +kernel
theorem dX12_init_14 : decode cX12_init 14 = .ok (.sipush 3480, 3) := by decide +kernel
theorem dX12_init_17 : decode cX12_init 17 = .ok (.newarray .int, 2) := by decide +kernel
theorem dX12_init_19 : decode cX12_init 19 = .ok (.putfield 13, 3) := by decide +kernel
theorem dX12_init_22 : decode cX12_init 22 = .ok (.aload_n 0, 1) := by decide +kernel
theorem dX12_init_23 : decode cX12_init 23 = .ok (.sipush 870, 3) := by decide +kernel
theorem dX12_init_26 : decode cX12_init 26 = .ok (.newarray .int, 2) := by decide +kernel
theorem dX12_init_28 : decode cX12_init 28 = .ok (.putfield 16, 3) := by decide +kernel
theorem dX12_init_31 : decode cX12_init 31 = .ok (.aload_n 0, 1) := by decide +kernel
theorem dX12_init_32 : decode cX12_init 32 = .ok (.bipush 60, 2) := by decide +kernel
theorem dX12_init_34 : decode cX12_init 34 = .ok (.newarray .char, 2) := by decide +kernel
theorem dX12_init_36 : decode cX12_init 36 = .ok (.putfield 19, 3) := by decide +kernel
theorem dX12_init_39 : decode cX12_init 39 = .ok (.aload_n 0, 1) := by decide +kernel
theorem dX12_init_40 : decode cX12_init 40 = .ok (.sipush 1001, 3) := by decide +kernel
theorem dX12_init_43 : decode cX12_init 43 = .ok (.newarray .boolean, 2) := by decide +kernel
theorem dX12_init_45 : decode cX12_init 45 = .ok (.putfield 23, 3) := by decide +kernel
theorem dX12_init_48 : decode cX12_init 48 = .ok (.aload_n 0, 1) := by decide +kernel
theorem dX12_init_49 : decode cX12_init 49 = .ok (.sipush 1001, 3) := by decide +kernel
theorem dX12_init_52 : decode cX12_init 52 = .ok (.newarray .int, 2) := by decide +kernel
theorem dX12_init_54 : decode cX12_init 54 = .ok (.putfield 27, 3) := by decide +kernel
theorem dX12_init_57 : decode cX12_init 57 = .ok (.return_, 1) := by decide +kernel
theorem dX12_in_0 : decode cX12_in 0 = .ok (.iload_n 0, 1) := by decide +kernel
theorem dX12_in_1 : decode cX12_in 1 = .ok (.iload_n 1, 1) := by decide +kernel
theorem dX12_in_2 : decode cX12_in 2 = .ok (.if_icmp .lt 12, 3) := by decide +kernel
theorem dX12_in_5 : decode cX12_in 5 = .ok (.iload_n 0, 1) := by decide +kernel
theorem dX12_in_6 : decode cX12_in 6 = .ok (.iload_n 2, 1) := by decide +kernel
theorem dX12_in_7 : decode cX12_in 7 = .ok (.if_icmp .gt 7, 3) := by decide +kernel
theorem dX12_in_10 : decode cX12_in 10 = .ok (.iconst 1, 1) := by decide +kernel
theorem dX12_in_11 : decode cX12_in 11 = .ok (.goto 4, 3) := by decide +kernel
theorem dX12_in_14 : decode cX12_in 14 = .ok (.iconst 0, 1) := by decide +kernel
theorem dX12_in_15 : decode cX12_in 15 = .ok (.ireturn, 1) := by decide +kernel
theorem dX12_of_0 : decode cX12_of 0 = .ok (.aload_n 0, 1) := by decide +kernel
theorem dX12_of_1 : decode cX12_of 1 = .ok (.getfield 7, 3) := by decide +kernel
theorem dX12_of_4 : decode cX12_of 4 = .ok (.bipush 6, 2) := by decide +kernel
theorem dX12_of_6 : decode cX12_of 6 = .ok (.bipush 7, 2) := by decide +kernel
theorem dX12_of_8 : decode cX12_of 8 = .ok (.iload_n 1, 1) := by decide +kernel
theorem dX12_of_9 : decode cX12_of 9 = .ok (.imul, 1) := by decide +kernel
theorem dX12_of_10 : decode cX12_of 10 = .ok (.iadd, 1) := by decide +kernel
theorem dX12_of_11 : decode cX12_of 11 = .ok (.iload_n 2, 1) := by decide +kernel
theorem dX12_of_12 : decode cX12_of 12 = .ok (.iadd, 1) := by decide +kernel
theorem dX12_of_13 : decode cX12_of 13 = .ok (.iaload, 1) := by decide +kernel
theorem dX12_of_14 : decode cX12_of 14 = .ok (.ireturn, 1) := by decide +kernel
theorem dX12_puts_0 : decode cX12_puts 0 = .ok (.aload_n 0, 1) := by decide +kernel
theorem dX12_puts_1 : decode cX12_puts 1 = .ok (.getfield 7, 3) := by decide +kernel
theorem dX12_puts_4 : decode cX12_puts 4 = .ok (.bipush 6, 2) := by decide +kernel
theorem dX12_puts_6 : decode cX12_puts 6 = .ok (.bipush 7, 2) := by decide +kernel
theorem dX12_puts_8 : decode cX12_puts 8 = .ok (.iload_n 1, 1) := by decide +kernel
theorem dX12_puts_9 : decode cX12_puts 9 = .ok (.imul, 1) := by decide +kernel
theorem dX12_puts_10 : decode cX12_puts 10 = .ok (.iadd, 1) := by decide +kernel
theorem dX12_puts_11 : decode cX12_puts 11 = .ok (.iload_n 2, 1) := by decide +kernel
theorem dX12_puts_12 : decode cX12_puts 12 = .ok (.iadd, 1) := by decide +kernel
theorem dX12_puts_13 : decode cX12_puts 13 = .ok (.iload_n 3, 1) := by decide +kernel
theorem dX12_puts_14 : decode cX12_puts 14 = .ok (.iastore, 1) := by decide +kernel
theorem dX12_puts_15 : decode cX12_puts 15 = .ok (.return_, 1) := by decide +kernel
set_option maxRecDepth 20000 in
theorem ggX12_isThere_X12_of : GoodIn wsX12_isThere wsX12_of := goodIn_r _ [5, 6, 7, 8, 9, 10, 11, 12, 13, 14, 15, 16, 17, 18, 19, 20, 21, 22, 23, 24] rfl (by decide +kernel)
set_option maxRecDepth 20000 in
theorem gX12_isThere_X12_of : GoodIn wsX12_isThere (wsV RX12 30 RX12 yX12_of wsX12_of) := goodIn_app (goodIn_of _ (by decide +kernel)) ggX12_isThere_X12_of
theorem dX12_isThere_0 : decode cX12_isThere 0 = .ok (.aload_n 0, 1) := by decide +kernel
theorem dX12_isThere_1 : decode cX12_isThere 1 = .ok (.iload_n 1, 1) := by decide +kernel
theorem dX12_isThere_2 : decode cX12_isThere 2 = .ok (.iconst 4, 1) := by decide +kernel
theorem dX12_isThere_3 : decode cX12_isThere 3 = .ok (.invokevirtual 30, 3) := by decide +kernel
theorem dX12_isThere_6 : decode cX12_isThere 6 = .ok (.iconst 1, 1) := by decide +kernel
theorem dX12_isThere_7 : decode cX12_isThere 7 = .ok (.if_icmp .ne 7, 3) := by decide +kernel
theorem dX12_isThere_10 : decode cX12_isThere 10 = .ok (.iconst 1, 1) := by decide +kernel
theorem dX12_isThere_11 : decode cX12_isThere 11 = .ok (.goto 4, 3) := by decide +kernel
theorem dX12_isThere_14 : decode cX12_isThere 14 = .ok (.iconst 0, 1) := by decide +kernel
theorem dX12_isThere_15 : decode cX12_isThere 15 = .ok (.ireturn, 1) := by decide +kernel
set_option maxRecDepth 20000 in
theorem ggX12_noSpan_X12_in : GoodIn wsX12_noSpan wsX12_in := goodIn_r _ [5] rfl (by decide +kernel)
set_option maxRecDepth 20000 in
theorem gX12_noSpan_X12_in : GoodIn wsX12_noSpan (va_wsS RX12 34 yX12_in wsX12_in) := goodIn_app (goodIn_of _ (by decide +kernel)) ggX12_noSpan_X12_in
set_option maxRecDepth 20000 in
theorem ggX12_noSpan_X12_isThere : GoodIn wsX12_noSpan wsX12_isThere := goodIn_r _ [9, 10, 11, 12, 4, 13, 1, 14, 15, 16, 17, 18, 19, 20, 21, 22, 23, 24, 25, 26, 27, 28, 29, 30, 31] rfl (by decide +kernel)
set_option maxRecDepth 20000 in
theorem gX12_noSpan_X12_isThere : GoodIn wsX12_noSpan (wsV RX12 38 RX12 yX12_isThere wsX12_isThere) := goodIn_app (goodIn_of _ (by decide +kernel)) ggX12_noSpan_X12_isThere
theorem dX12_noSpan_0 : decode cX12_noSpan 0 = .ok (.iload_n 1, 1) := by decide +kernel
theorem dX12_noSpan_1 : decode cX12_noSpan 1 = .ok (.iconst 0, 1) := by decide +kernel
theorem dX12_noSpan_2 : decode cX12_noSpan 2 = .ok (.aload_n 0, 1) := by decide +kernel
theorem dX12_noSpan_3 : decode cX12_noSpan 3 = .ok (.getfield 7, 3) := by decide +kernel
theorem dX12_noSpan_6 : decode cX12_noSpan 6 = .ok (.iconst 1, 1) := by decide +kernel
theorem dX12_noSpan_7 : decode cX12_noSpan 7 = .ok (.iaload, 1) := by decide +kernel
theorem dX12_noSpan_8 : decode cX12_noSpan 8 = .ok (.iconst 1, 1) := by decide +kernel
theorem dX12_noSpan_9 : decode cX12_noSpan 9 = .ok (.isub, 1) := by decide +kernel
theorem dX12_noSpan_10 : decode cX12_noSpan 10 = .ok (.invokestatic 34, 3) := by decide +kernel
theorem dX12_noSpan_13 : decode cX12_noSpan 13 = .ok (.ifCond .eq 11, 3) := by decide +kernel
theorem dX12_noSpan_16 : decode cX12_noSpan 16 = .ok (.aload_n 0, 1) := by decide +kernel
theorem dX12_noSpan_17 : decode cX12_noSpan 17 = .ok (.iload_n 1, 1) := by decide +kernel
theorem dX12_noSpan_18 : decode cX12_noSpan 18 = .ok (.invokevirtual 38, 3) := by decide +kernel
theorem dX12_noSpan_21 : decode cX12_noSpan 21 = .ok (.ifCond .ne 7, 3) := by decide +kernel
theorem dX12_noSpan_24 : decode cX12_noSpan 24 = .ok (.iconst 1, 1) := by decide +kernel
theorem dX12_noSpan_25 : decode cX12_noSpan 25 = .ok (.goto 4, 3) := by decide +kernel
theorem dX12_noSpan_28 : decode cX12_noSpan 28 = .ok (.iconst 0, 1) := by decide +kernel
theorem dX12_noSpan_29 : decode cX12_noSpan 29 = .ok (.ireturn, 1) := by decide +kernel
set_option maxRecDepth 20000 in
theorem ggX12_noWalker_X12_in : GoodIn wsX12_noWalker wsX12_in := goodIn_r _ [5] rfl (by decide +kernel)
set_option maxRecDepth 20000 in
theorem gX12_noWalker_X12_in : GoodIn wsX12_noWalker (va_wsS RX12 34 yX12_in wsX12_in) := goodIn_app (goodIn_of _ (by decide +kernel)) ggX12_noWalker_X12_in
theorem dX12_noWalker_0 : decode cX12_noWalker 0 = .ok (.iload_n 1, 1) := by decide +kernel
theorem dX12_noWalker_1 : decode cX12_noWalker 1 = .ok (.iconst 0, 1) := by decide +kernel
theorem dX12_noWalker_2 : decode cX12_noWalker 2 = .ok (.aload_n 0, 1) := by decide +kernel
theorem dX12_noWalker_3 : decode cX12_noWalker 3 = .ok (.getfield 7, 3) := by decide +kernel
theorem dX12_noWalker_6 : decode cX12_noWalker 6 = .ok (.iconst 2, 1) := by decide +kernel
theorem dX12_noWalker_7 : decode cX12_noWalker 7 = .ok (.iaload, 1) := by decide +kernel
theorem dX12_noWalker_8 : decode cX12_noWalker 8 = .ok (.iconst 1, 1) := by decide +kernel
theorem dX12_noWalker_9 : decode cX12_noWalker 9 = .ok (.isub, 1) := by decide +kernel
theorem dX12_noWalker_10 : decode cX12_noWalker 10 = .ok (.invokestatic 34, 3) := by decide +kernel
theorem dX12_noWalker_13 : decode cX12_noWalker 13 = .ok (.ifCond .ne 7, 3) := by decide +kernel
theorem dX12_noWalker_16 : decode cX12_noWalker 16 = .ok (.iconst 1, 1) := by decide +kernel
theorem dX12_noWalker_17 : decode cX12_noWalker 17 = .ok (.goto 4, 3) := by decide +kernel
theorem dX12_noWalker_20 : decode cX12_noWalker 20 = .ok (.iconst 0, 1) := by decide +kernel
theorem dX12_noWalker_21 : decode cX12_noWalker 21 = .ok (.ireturn, 1) := by decide +kernel
theorem dX12_its_0 : decode cX12_its 0 = .ok (.aload_n 0, 1) := by decide +kernel
theorem dX12_its_1 : decode cX12_its 1 = .ok (.getfield 7, 3) := by decide +kernel
theorem dX12_its_4 : decode cX12_its 4 = .ok (.sipush 426, 3) := by decide +kernel
theorem dX12_its_7 : decode cX12_its 7 = .ok (.bipush 6, 2) := by decide +kernel
theorem dX12_its_9 : decode cX12_its 9 = .ok (.iload_n 1, 1) := by decide +kernel
theorem dX12_its_10 : decode cX12_its 10 = .ok (.imul, 1) := by decide +kernel
theorem dX12_its_11 : decode cX12_its 11 = .ok (.iadd, 1) := by decide +kernel
theorem dX12_its_12 : decode cX12_its 12 = .ok (.iload_n 2, 1) := by decide +kernel
theorem dX12_its_13 : decode cX12_its 13 = .ok (.iadd, 1) := by decide +kernel
theorem dX12_its_14 : decode cX12_its 14 = .ok (.iaload, 1) := by decide +kernel
theorem dX12_its_15 : decode cX12_its 15 = .ok (.ireturn, 1) := by decide +kernel
theorem dX12_gives_0 : decode cX12_gives 0 = .ok (.aload_n 0, 1) := by decide +kernel
theorem dX12_gives_1 : decode cX12_gives 1 = .ok (.getfield 7, 3) := by decide +kernel
theorem dX12_gives_4 : decode cX12_gives 4 = .ok (.sipush 426, 3) := by decide +kernel
theorem dX12_gives_7 : decode cX12_gives 7 = .ok (.bipush 6, 2) := by decide +kernel
theorem dX12_gives_9 : decode cX12_gives 9 = .ok (.iload_n 1, 1) := by decide +kernel
theorem dX12_gives_10 : decode cX12_gives 10 = .ok (.imul, 1) := by decide +kernel
theorem dX12_gives_11 : decode cX12_gives 11 = .ok (.iadd, 1) := by decide +kernel
theorem dX12_gives_12 : decode cX12_gives 12 = .ok (.iload_n 2, 1) := by decide +kernel
theorem dX12_gives_13 : decode cX12_gives 13 = .ok (.iadd, 1) := by decide +kernel
theorem dX12_gives_14 : decode cX12_gives 14 = .ok (.iload_n 3, 1) := by decide +kernel
theorem dX12_gives_15 : decode cX12_gives 15 = .ok (.iastore, 1) := by decide +kernel
theorem dX12_gives_16 : decode cX12_gives 16 = .ok (.return_, 1) := by decide +kernel
set_option maxRecDepth 20000 in
theorem ggX12_covers_X12_isThere : GoodIn wsX12_covers wsX12_isThere := goodIn_r _ [5, 6, 7, 8, 4, 9, 10, 14, 15, 16, 17, 18, 19, 20, 21, 22, 23, 24, 25, 26, 27, 28, 29, 30, 31] rfl (by decide +kernel)
set_option maxRecDepth 20000 in
theorem gX12_covers_X12_isThere : GoodIn wsX12_covers (wsV RX12 38 RX12 yX12_isThere wsX12_isThere) := goodIn_app (goodIn_of _ (by decide +kernel)) ggX12_covers_X12_isThere
set_option maxRecDepth 20000 in
theorem ggX12_covers_X12_of : GoodIn wsX12_covers wsX12_of := goodIn_r _ [9, 10, 14, 15, 16, 17, 18, 19, 20, 21, 22, 23, 24, 25, 26, 27, 28, 29, 30, 31] rfl (by decide +kernel)
set_option maxRecDepth 20000 in
theorem gX12_covers_X12_of : GoodIn wsX12_covers (wsV RX12 30 RX12 yX12_of wsX12_of) := goodIn_app (goodIn_of _ (by decide +kernel)) ggX12_covers_X12_of
set_option maxRecDepth 20000 in
theorem ggX12_covers_X12_in : GoodIn wsX12_covers wsX12_in := goodIn_r _ [13] rfl (by decide +kernel)
set_option maxRecDepth 20000 in
theorem gX12_covers_X12_in : GoodIn wsX12_covers (va_wsS RX12 34 yX12_in wsX12_in) := goodIn_app (goodIn_of _ (by decide +kernel)) ggX12_covers_X12_in
theorem dX12_covers_0 : decode cX12_covers 0 = .ok (.aload_n 0, 1) := by decide +kernel
theorem dX12_covers_1 : decode cX12_covers 1 = .ok (.iload_n 1, 1) := by decide +kernel
theorem dX12_covers_2 : decode cX12_covers 2 = .ok (.invokevirtual 38, 3) := by decide +kernel
theorem dX12_covers_5 : decode cX12_covers 5 = .ok (.ifCond .eq 26, 3) := by decide +kernel
theorem dX12_covers_8 : decode cX12_covers 8 = .ok (.iload_n 2, 1) := by decide +kernel
theorem dX12_covers_9 : decode cX12_covers 9 = .ok (.aload_n 0, 1) := by decide +kernel
theorem dX12_covers_10 : decode cX12_covers 10 = .ok (.iload_n 1, 1) := by decide +kernel
theorem dX12_covers_11 : decode cX12_covers 11 = .ok (.iconst 2, 1) := by decide +kernel
theorem dX12_covers_12 : decode cX12_covers 12 = .ok (.invokevirtual 30, 3) := by decide +kernel
theorem dX12_covers_15 : decode cX12_covers 15 = .ok (.aload_n 0, 1) := by decide +kernel
theorem dX12_covers_16 : decode cX12_covers 16 = .ok (.iload_n 1, 1) := by decide +kernel
theorem dX12_covers_17 : decode cX12_covers 17 = .ok (.iconst 3, 1) := by decide +kernel
theorem dX12_covers_18 : decode cX12_covers 18 = .ok (.invokevirtual 30, 3) := by decide +kernel
theorem dX12_covers_21 : decode cX12_covers 21 = .ok (.invokestatic 34, 3) := by decide +kernel
theorem dX12_covers_24 : decode cX12_covers 24 = .ok (.ifCond .eq 7, 3) := by decide +kernel
theorem dX12_covers_27 : decode cX12_covers 27 = .ok (.iconst 1, 1) := by decide +kernel
theorem dX12_covers_28 : decode cX12_covers 28 = .ok (.goto 4, 3) := by decide +kernel
theorem dX12_covers_31 : decode cX12_covers 31 = .ok (.iconst 0, 1) := by decide +kernel
theorem dX12_covers_32 : decode cX12_covers 32 = .ok (.ireturn, 1) := by decide +kernel
theorem dX12_isInside_0 : decode cX12_isInside 0 = .ok (.aload_n 0, 1) := by decide +kernel
theorem dX12_isInside_1 : decode cX12_isInside 1 = .ok (.getfield 7, 3) := by decide +kernel
theorem dX12_isInside_4 : decode cX12_isInside 4 = .ok (.sipush 462, 3) := by decide +kernel
theorem dX12_isInside_7 : decode cX12_isInside 7 = .ok (.bipush 60, 2) := by decide +kernel
theorem dX12_isInside_9 : decode cX12_isInside 9 = .ok (.iload_n 1, 1) := by decide +kernel
theorem dX12_isInside_10 : decode cX12_isInside 10 = .ok (.imul, 1) := by decide +kernel
theorem dX12_isInside_11 : decode cX12_isInside 11 = .ok (.iadd, 1) := by decide +kernel
theorem dX12_isInside_12 : decode cX12_isInside 12 = .ok (.iload_n 2, 1) := by decide +kernel
theorem dX12_isInside_13 : decode cX12_isInside 13 = .ok (.iadd, 1) := by decide +kernel
theorem dX12_isInside_14 : decode cX12_isInside 14 = .ok (.iaload, 1) := by decide +kernel
theorem dX12_isInside_15 : decode cX12_isInside 15 = .ok (.ifCond .le 7, 3) := by decide +kernel
theorem dX12_isInside_18 : decode cX12_isInside 18 = .ok (.iconst 1, 1) := by decide +kernel
theorem dX12_isInside_19 : decode cX12_isInside 19 = .ok (.goto 4, 3) := by decide +kernel
theorem dX12_isInside_22 : decode cX12_isInside 22 = .ok (.iconst 0, 1) := by decide +kernel
theorem dX12_isInside_23 : decode cX12_isInside 23 = .ok (.ireturn, 1) := by decide +kernel
theorem dX12_record_0 : decode cX12_record 0 = .ok (.aload_n 0, 1) := by decide +kernel
theorem dX12_record_1 : decode cX12_record 1 = .ok (.getfield 42, 3) := by decide +kernel
theorem dX12_record_4 : decode cX12_record 4 = .ok (.iconst 4, 1) := by decide +kernel
theorem dX12_record_5 : decode cX12_record 5 = .ok (.if_icmp .ne 44, 3) := by decide +kernel
theorem dX12_record_8 : decode cX12_record 8 = .ok (.iconst 0, 1) := by decide +kernel
theorem dX12_record_9 : decode cX12_record 9 = .ok (.istore_n 1, 1) := by decide +kernel
theorem dX12_record_10 : decode cX12_record 10 = .ok (.iload_n 1, 1) := by decide +kernel
theorem dX12_record_11 : decode cX12_record 11 = .ok (.sipush 2610, 3) := by decide +kernel
theorem dX12_record_14 : decode cX12_record 14 = .ok (.if_icmp .ge 25, 3) := by decide +kernel
theorem dX12_record_17 : decode cX12_record 17 = .ok (.aload_n 0, 1) := by decide +kernel
theorem dX12_record_18 : decode cX12_record 18 = .ok (.getfield 13, 3) := by decide +kernel
theorem dX12_record_21 : decode cX12_record 21 = .ok (.iload_n 1, 1) := by decide +kernel
theorem dX12_record_22 : decode cX12_record 22 = .ok (.aload_n 0, 1) := by decide +kernel
theorem dX12_record_23 : decode cX12_record 23 = .ok (.getfield 13, 3) := by decide +kernel
theorem dX12_record_26 : decode cX12_record 26 = .ok (.iload_n 1, 1) := by decide +kernel
theorem dX12_record_27 : decode cX12_record 27 = .ok (.sipush 870, 3) := by decide +kernel
theorem dX12_record_30 : decode cX12_record 30 = .ok (.iadd, 1) := by decide +kernel
theorem dX12_record_31 : decode cX12_record 31 = .ok (.iaload, 1) := by decide +kernel
theorem dX12_record_32 : decode cX12_record 32 = .ok (.iastore, 1) := by decide +kernel
theorem dX12_record_33 : decode cX12_record 33 = .ok (.iinc 1 1, 3) := by decide +kernel
theorem dX12_record_36 : decode cX12_record 36 = .ok (.goto (-26), 3) := by decide +kernel
theorem dX12_record_39 : decode cX12_record 39 = .ok (.aload_n 0, 1) := by decide +kernel
theorem dX12_record_40 : decode cX12_record 40 = .ok (.dup, 1) := by decide +kernel
theorem dX12_record_41 : decode cX12_record 41 = .ok (.getfield 42, 3) := by decide +kernel
theorem dX12_record_44 : decode cX12_record 44 = .ok (.iconst 1, 1) := by decide +kernel
theorem dX12_record_45 : decode cX12_record 45 = .ok (.isub, 1) := by decide +kernel
theorem dX12_record_46 : decode cX12_record 46 = .ok (.putfield 42, 3) := by decide +kernel
theorem dX12_record_49 : decode cX12_record 49 = .ok (.iconst 0, 1) := by decide +kernel
theorem dX12_record_50 : decode cX12_record 50 = .ok (.istore_n 1, 1) := by decide +kernel
theorem dX12_record_51 : decode cX12_record 51 = .ok (.iload_n 1, 1) := by decide +kernel
theorem dX12_record_52 : decode cX12_record 52 = .ok (.sipush 870, 3) := by decide +kernel
theorem dX12_record_55 : decode cX12_record 55 = .ok (.if_icmp .ge 30, 3) := by decide +kernel
theorem dX12_record_58 : decode cX12_record 58 = .ok (.aload_n 0, 1) := by decide +kernel
theorem dX12_record_59 : decode cX12_record 59 = .ok (.getfield 13, 3) := by decide +kernel
theorem dX12_record_62 : decode cX12_record 62 = .ok (.sipush 870, 3) := by decide +kernel
theorem dX12_record_65 : decode cX12_record 65 = .ok (.aload_n 0, 1) := by decide +kernel
theorem dX12_record_66 : decode cX12_record 66 = .ok (.getfield 42, 3) := by decide +kernel
theorem dX12_record_69 : decode cX12_record 69 = .ok (.imul, 1) := by decide +kernel
theorem dX12_record_70 : decode cX12_record 70 = .ok (.iload_n 1, 1) := by decide +kernel
theorem dX12_record_71 : decode cX12_record 71 = .ok (.iadd, 1) := by decide +kernel
theorem dX12_record_72 : decode cX12_record 72 = .ok (.aload_n 0, 1) := by decide +kernel
theorem dX12_record_73 : decode cX12_record 73 = .ok (.getfield 7, 3) := by decide +kernel
theorem dX12_record_76 : decode cX12_record 76 = .ok (.iload_n 1, 1) := by decide +kernel
theorem dX12_record_77 : decode cX12_record 77 = .ok (.iaload, 1) := by decide +kernel
theorem dX12_record_78 : decode cX12_record 78 = .ok (.iastore, 1) := by decide +kernel
theorem dX12_record_79 : decode cX12_record 79 = .ok (.iinc 1 1, 3) := by decide +kernel
theorem dX12_record_82 : decode cX12_record 82 = .ok (.goto (-31), 3) := by decide +kernel
theorem dX12_record_85 : decode cX12_record 85 = .ok (.aload_n 0, 1) := by decide +kernel
theorem dX12_record_86 : decode cX12_record 86 = .ok (.dup, 1) := by decide +kernel
theorem dX12_record_87 : decode cX12_record 87 = .ok (.getfield 42, 3) := by decide +kernel
theorem dX12_record_90 : decode cX12_record 90 = .ok (.iconst 1, 1) := by decide +kernel
theorem dX12_record_91 : decode cX12_record 91 = .ok (.iadd, 1) := by decide +kernel
theorem dX12_record_92 : decode cX12_record 92 = .ok (.putfield 42, 3) := by decide +kernel
theorem dX12_record_95 : decode cX12_record 95 = .ok (.return_, 1) := by decide +kernel
theorem dX12_tells_0 : decode cX12_tells 0 = .ok (.aload_n 0, 1) := by decide +kernel
theorem dX12_tells_1 : decode cX12_tells 1 = .ok (.getfield 7, 3) := by decide +kernel
theorem dX12_tells_4 : decode cX12_tells 4 = .ok (.iconst 5, 1) := by decide +kernel
theorem dX12_tells_5 : decode cX12_tells 5 = .ok (.iaload, 1) := by decide +kernel
theorem dX12_tells_6 : decode cX12_tells 6 = .ok (.bipush 12, 2) := by decide +kernel
theorem dX12_tells_8 : decode cX12_tells 8 = .ok (.if_icmp .ne 53, 3) := by decide +kernel
theorem dX12_tells_11 : decode cX12_tells 11 = .ok (.iconst 0, 1) := by decide +kernel
theorem dX12_tells_12 : decode cX12_tells 12 = .ok (.istore 4, 2) := by decide +kernel
theorem dX12_tells_14 : decode cX12_tells 14 = .ok (.iload 4, 2) := by decide +kernel
theorem dX12_tells_16 : decode cX12_tells 16 = .ok (.bipush 44, 2) := by decide +kernel
theorem dX12_tells_18 : decode cX12_tells 18 = .ok (.if_icmp .ge 33, 3) := by decide +kernel
theorem dX12_tells_21 : decode cX12_tells 21 = .ok (.aload_n 0, 1) := by decide +kernel
theorem dX12_tells_22 : decode cX12_tells 22 = .ok (.getfield 7, 3) := by decide +kernel
theorem dX12_tells_25 : decode cX12_tells 25 = .ok (.sipush 822, 3) := by decide +kernel
theorem dX12_tells_28 : decode cX12_tells 28 = .ok (.iload 4, 2) := by decide +kernel
theorem dX12_tells_30 : decode cX12_tells 30 = .ok (.iadd, 1) := by decide +kernel
theorem dX12_tells_31 : decode cX12_tells 31 = .ok (.aload_n 0, 1) := by decide +kernel
theorem dX12_tells_32 : decode cX12_tells 32 = .ok (.getfield 7, 3) := by decide +kernel
theorem dX12_tells_35 : decode cX12_tells 35 = .ok (.sipush 822, 3) := by decide +kernel
theorem dX12_tells_38 : decode cX12_tells 38 = .ok (.iload 4, 2) := by decide +kernel
theorem dX12_tells_40 : decode cX12_tells 40 = .ok (.iadd, 1) := by decide +kernel
theorem dX12_tells_41 : decode cX12_tells 41 = .ok (.iconst 4, 1) := by decide +kernel
theorem dX12_tells_42 : decode cX12_tells 42 = .ok (.iadd, 1) := by decide +kernel
theorem dX12_tells_43 : decode cX12_tells 43 = .ok (.iaload, 1) := by decide +kernel
theorem dX12_tells_44 : decode cX12_tells 44 = .ok (.iastore, 1) := by decide +kernel
theorem dX12_tells_45 : decode cX12_tells 45 = .ok (.iinc 4 1, 3) := by decide +kernel
theorem dX12_tells_48 : decode cX12_tells 48 = .ok (.goto (-34), 3) := by decide +kernel
theorem dX12_tells_51 : decode cX12_tells 51 = .ok (.aload_n 0, 1) := by decide +kernel
theorem dX12_tells_52 : decode cX12_tells 52 = .ok (.getfield 7, 3) := by decide +kernel
theorem dX12_tells_55 : decode cX12_tells 55 = .ok (.iconst 5, 1) := by decide +kernel
theorem dX12_tells_56 : decode cX12_tells 56 = .ok (.dup2, 1) := by decide +kernel
theorem dX12_tells_57 : decode cX12_tells 57 = .ok (.iaload, 1) := by decide +kernel
theorem dX12_tells_58 : decode cX12_tells 58 = .ok (.iconst 1, 1) := by decide +kernel
theorem dX12_tells_59 : decode cX12_tells 59 = .ok (.isub, 1) := by decide +kernel
theorem dX12_tells_60 : decode cX12_tells 60 = .ok (.iastore, 1) := by decide +kernel
theorem dX12_tells_61 : decode cX12_tells 61 = .ok (.sipush 822, 3) := by decide +kernel
theorem dX12_tells_64 : decode cX12_tells 64 = .ok (.iconst 4, 1) := by decide +kernel
theorem dX12_tells_65 : decode cX12_tells 65 = .ok (.aload_n 0, 1) := by decide +kernel
theorem dX12_tells_66 : decode cX12_tells 66 = .ok (.getfield 7, 3) := by decide +kernel
theorem dX12_tells_69 : decode cX12_tells 69 = .ok (.iconst 5, 1) := by decide +kernel
theorem dX12_tells_70 : decode cX12_tells 70 = .ok (.iaload, 1) := by decide +kernel
theorem dX12_tells_71 : decode cX12_tells 71 = .ok (.imul, 1) := by decide +kernel
theorem dX12_tells_72 : decode cX12_tells 72 = .ok (.iadd, 1) := by decide +kernel
theorem dX12_tells_73 : decode cX12_tells 73 = .ok (.istore 4, 2) := by decide +kernel
theorem dX12_tells_75 : decode cX12_tells 75 = .ok (.aload_n 0, 1) := by decide +kernel
theorem dX12_tells_76 : decode cX12_tells 76 = .ok (.getfield 7, 3) := by decide +kernel
theorem dX12_tells_79 : decode cX12_tells 79 = .ok (.iload 4, 2) := by decide +kernel
theorem dX12_tells_81 : decode cX12_tells 81 = .ok (.iload_n 1, 1) := by decide +kernel
theorem dX12_tells_82 : decode cX12_tells 82 = .ok (.iastore, 1) := by decide +kernel
theorem dX12_tells_83 : decode cX12_tells 83 = .ok (.aload_n 0, 1) := by decide +kernel
theorem dX12_tells_84 : decode cX12_tells 84 = .ok (.getfield 7, 3) := by decide +kernel
theorem dX12_tells_87 : decode cX12_tells 87 = .ok (.iload 4, 2) := by decide +kernel
theorem dX12_tells_89 : decode cX12_tells 89 = .ok (.iconst 1, 1) := by decide +kernel
theorem dX12_tells_90 : decode cX12_tells 90 = .ok (.iadd, 1) := by decide +kernel
theorem dX12_tells_91 : decode cX12_tells 91 = .ok (.iload_n 2, 1) := by decide +kernel
theorem dX12_tells_92 : decode cX12_tells 92 = .ok (.iastore, 1) := by decide +kernel
theorem dX12_tells_93 : decode cX12_tells 93 = .ok (.aload_n 0, 1) := by decide +kernel
theorem dX12_tells_94 : decode cX12_tells 94 = .ok (.getfield 7, 3) := by decide +kernel
theorem dX12_tells_97 : decode cX12_tells 97 = .ok (.iload 4, 2) := by decide +kernel
theorem dX12_tells_99 : decode cX12_tells 99 = .ok (.iconst 2, 1) := by decide +kernel
theorem dX12_tells_100 : decode cX12_tells 100 = .ok (.iadd, 1) := by decide +kernel
theorem dX12_tells_101 : decode cX12_tells 101 = .ok (.iload_n 3, 1) := by decide +kernel
theorem dX12_tells_102 : decode cX12_tells 102 = .ok (.iastore, 1) := by decide +kernel
theorem dX12_tells_103 : decode cX12_tells 103 = .ok (.aload_n 0, 1) := by decide +kernel
theorem dX12_tells_104 : decode cX12_tells 104 = .ok (.getfield 7, 3) := by decide +kernel
theorem dX12_tells_107 : decode cX12_tells 107 = .ok (.iload 4, 2) := by decide +kernel
theorem dX12_tells_109 : decode cX12_tells 109 = .ok (.iconst 3, 1) := by decide +kernel
theorem dX12_tells_110 : decode cX12_tells 110 = .ok (.iadd, 1) := by decide +kernel
theorem dX12_tells_111 : decode cX12_tells 111 = .ok (.aload_n 0, 1) := by decide +kernel
theorem dX12_tells_112 : decode cX12_tells 112 = .ok (.getfield 7, 3) := by decide +kernel
theorem dX12_tells_115 : decode cX12_tells 115 = .ok (.iconst 0, 1) := by decide +kernel
theorem dX12_tells_116 : decode cX12_tells 116 = .ok (.iaload, 1) := by decide +kernel
theorem dX12_tells_117 : decode cX12_tells 117 = .ok (.iastore, 1) := by decide +kernel
theorem dX12_tells_118 : decode cX12_tells 118 = .ok (.aload_n 0, 1) := by decide +kernel
theorem dX12_tells_119 : decode cX12_tells 119 = .ok (.getfield 7, 3) := by decide +kernel
theorem dX12_tells_122 : decode cX12_tells 122 = .ok (.iconst 5, 1) := by decide +kernel
theorem dX12_tells_123 : decode cX12_tells 123 = .ok (.dup2, 1) := by decide +kernel
theorem dX12_tells_124 : decode cX12_tells 124 = .ok (.iaload, 1) := by decide +kernel
theorem dX12_tells_125 : decode cX12_tells 125 = .ok (.iconst 1, 1) := by decide +kernel
theorem dX12_tells_126 : decode cX12_tells 126 = .ok (.iadd, 1) := by decide +kernel
theorem dX12_tells_127 : decode cX12_tells 127 = .ok (.iastore, 1) := by decide +kernel
theorem dX12_tells_128 : decode cX12_tells 128 = .ok (.return_, 1) := by decide +kernel
set_option maxRecDepth 20000 in
theorem ggX12_changes_X12_its : GoodIn wsX12_changes wsX12_its := goodIn_r _ [6, 1, 38, 39, 40, 41, 42, 43, 44, 45, 46, 47, 48, 49, 50, 51, 52, 53, 54, 55] rfl (by decide +kernel)
set_option maxRecDepth 20000 in
theorem gX12_changes_X12_its : GoodIn wsX12_changes (wsV RX12 46 RX12 yX12_its wsX12_its) := goodIn_app (goodIn_of _ (by decide +kernel)) ggX12_changes_X12_its
set_option maxRecDepth 20000 in
theorem ggX12_changes_X12_isInside : GoodIn wsX12_changes wsX12_isInside := goodIn_r _ [10, 1, 38, 39, 40, 41, 42, 43, 44, 45, 46, 47, 48, 49, 50, 51, 52, 53, 54, 55] rfl (by decide +kernel)
set_option maxRecDepth 20000 in
theorem gX12_changes_X12_isInside : GoodIn wsX12_changes (wsV RX12 49 RX12 yX12_isInside wsX12_isInside) := goodIn_app (goodIn_of _ (by decide +kernel)) ggX12_changes_X12_isInside
set_option maxRecDepth 20000 in
theorem ggX12_changes_X12_covers : GoodIn wsX12_changes wsX12_covers := goodIn_r _ [14, 15, 16, 17, 5, 18, 19, 20, 21, 22, 1, 23, 24, 25, 38, 39, 40, 41, 42, 43, 44, 45, 46, 47, 48, 49, 50, 51, 52, 53, 54, 55] rfl (by decide +kernel)
set_option maxRecDepth 20000 in
theorem gX12_changes_X12_covers : GoodIn wsX12_changes (wsV RX12 53 RX12 yX12_covers wsX12_covers) := goodIn_app (goodIn_of _ (by decide +kernel)) ggX12_changes_X12_covers
set_option maxRecDepth 20000 in
theorem ggX12_changes_X12_gives : GoodIn wsX12_changes wsX12_gives := goodIn_r _ [29, 1, 38, 39, 40, 41, 42, 43, 44, 45, 46, 47, 48, 49, 50, 51, 52, 53, 54, 55] rfl (by decide +kernel)
set_option maxRecDepth 20000 in
theorem gX12_changes_X12_gives : GoodIn wsX12_changes (wsV RX12 56 RX12 yX12_gives wsX12_gives) := goodIn_app (goodIn_of _ (by decide +kernel)) ggX12_changes_X12_gives
set_option maxRecDepth 20000 in
theorem ggX12_changes_X12_tells : GoodIn wsX12_changes wsX12_tells := goodIn_r _ [33, 1, 38, 39, 40, 41, 42, 43, 44, 45, 46, 47, 48, 49, 50, 51, 52, 53, 54, 55] rfl (by decide +kernel)
set_option maxRecDepth 20000 in
theorem gX12_changes_X12_tells : GoodIn wsX12_changes (wsV RX12 60 RX12 yX12_tells wsX12_tells) := goodIn_app (goodIn_of _ (by decide +kernel)) ggX12_changes_X12_tells
set_option maxRecDepth 20000 in
theorem ggX12_changes_X12_of : GoodIn wsX12_changes wsX12_of := goodIn_r _ [22, 1, 38, 39, 40, 41, 42, 43, 44, 45, 46, 47, 48, 49, 50, 51, 52, 53, 54, 55] rfl (by decide +kernel)
set_option maxRecDepth 20000 in
theorem gX12_changes_X12_of : GoodIn wsX12_changes (wsV RX12 30 RX12 yX12_of wsX12_of) := goodIn_app (goodIn_of _ (by decide +kernel)) ggX12_changes_X12_of
set_option maxRecDepth 20000 in
theorem ggX12_changes_X12_puts : GoodIn wsX12_changes wsX12_puts := goodIn_r _ [37, 1, 38, 39, 40, 41, 42, 43, 44, 45, 46, 47, 48, 49, 50, 51, 52, 53, 54, 55] rfl (by decide +kernel)
set_option maxRecDepth 20000 in
theorem gX12_changes_X12_puts : GoodIn wsX12_changes (wsV RX12 63 RX12 yX12_puts wsX12_puts) := goodIn_app (goodIn_of _ (by decide +kernel)) ggX12_changes_X12_puts
theorem dX12_changes_0 : decode cX12_changes 0 = .ok (.aload_n 0, 1) := by decide +kernel
theorem dX12_changes_1 : decode cX12_changes 1 = .ok (.iload_n 1, 1) := by decide +kernel
theorem dX12_changes_2 : decode cX12_changes 2 = .ok (.iconst 0, 1) := by decide +kernel
theorem dX12_changes_3 : decode cX12_changes 3 = .ok (.invokevirtual 46, 3) := by decide +kernel
theorem dX12_changes_6 : decode cX12_changes 6 = .ok (.istore_n 2, 1) := by decide +kernel
theorem dX12_changes_7 : decode cX12_changes 7 = .ok (.iconst 0, 1) := by decide +kernel
theorem dX12_changes_8 : decode cX12_changes 8 = .ok (.istore_n 3, 1) := by decide +kernel
theorem dX12_changes_9 : decode cX12_changes 9 = .ok (.iconst 0, 1) := by decide +kernel
theorem dX12_changes_10 : decode cX12_changes 10 = .ok (.istore 4, 2) := by decide +kernel
theorem dX12_changes_12 : decode cX12_changes 12 = .ok (.iload 4, 2) := by decide +kernel
theorem dX12_changes_14 : decode cX12_changes 14 = .ok (.aload_n 0, 1) := by decide +kernel
theorem dX12_changes_15 : decode cX12_changes 15 = .ok (.getfield 7, 3) := by decide +kernel
theorem dX12_changes_18 : decode cX12_changes 18 = .ok (.iconst 1, 1) := by decide +kernel
theorem dX12_changes_19 : decode cX12_changes 19 = .ok (.iaload, 1) := by decide +kernel
theorem dX12_changes_20 : decode cX12_changes 20 = .ok (.if_icmp .ge 81, 3) := by decide +kernel
theorem dX12_changes_23 : decode cX12_changes 23 = .ok (.aload_n 0, 1) := by decide +kernel
theorem dX12_changes_24 : decode cX12_changes 24 = .ok (.iload_n 1, 1) := by decide +kernel
theorem dX12_changes_25 : decode cX12_changes 25 = .ok (.iload 4, 2) := by decide +kernel
theorem dX12_changes_27 : decode cX12_changes 27 = .ok (.invokevirtual 49, 3) := by decide +kernel
theorem dX12_changes_30 : decode cX12_changes 30 = .ok (.ifCond .eq 65, 3) := by decide +kernel
theorem dX12_changes_33 : decode cX12_changes 33 = .ok (.aload_n 0, 1) := by decide +kernel
theorem dX12_changes_34 : decode cX12_changes 34 = .ok (.iload 4, 2) := by decide +kernel
theorem dX12_changes_36 : decode cX12_changes 36 = .ok (.iload_n 2, 1) := by decide +kernel
theorem dX12_changes_37 : decode cX12_changes 37 = .ok (.invokevirtual 53, 3) := by decide +kernel
theorem dX12_changes_40 : decode cX12_changes 40 = .ok (.ifCond .ne 55, 3) := by decide +kernel
theorem dX12_changes_43 : decode cX12_changes 43 = .ok (.aload_n 0, 1) := by decide +kernel
theorem dX12_changes_44 : decode cX12_changes 44 = .ok (.getfield 7, 3) := by decide +kernel
theorem dX12_changes_47 : decode cX12_changes 47 = .ok (.sipush 462, 3) := by decide +kernel
theorem dX12_changes_50 : decode cX12_changes 50 = .ok (.bipush 60, 2) := by decide +kernel
theorem dX12_changes_52 : decode cX12_changes 52 = .ok (.iload_n 1, 1) := by decide +kernel
theorem dX12_changes_53 : decode cX12_changes 53 = .ok (.imul, 1) := by decide +kernel
theorem dX12_changes_54 : decode cX12_changes 54 = .ok (.iadd, 1) := by decide +kernel
theorem dX12_changes_55 : decode cX12_changes 55 = .ok (.iload 4, 2) := by decide +kernel
theorem dX12_changes_57 : decode cX12_changes 57 = .ok (.iadd, 1) := by decide +kernel
theorem dX12_changes_58 : decode cX12_changes 58 = .ok (.iconst 0, 1) := by decide +kernel
theorem dX12_changes_59 : decode cX12_changes 59 = .ok (.iastore, 1) := by decide +kernel
theorem dX12_changes_60 : decode cX12_changes 60 = .ok (.aload_n 0, 1) := by decide +kernel
theorem dX12_changes_61 : decode cX12_changes 61 = .ok (.iload_n 1, 1) := by decide +kernel
theorem dX12_changes_62 : decode cX12_changes 62 = .ok (.iconst 3, 1) := by decide +kernel
theorem dX12_changes_63 : decode cX12_changes 63 = .ok (.aload_n 0, 1) := by decide +kernel
theorem dX12_changes_64 : decode cX12_changes 64 = .ok (.iload_n 1, 1) := by decide +kernel
theorem dX12_changes_65 : decode cX12_changes 65 = .ok (.iconst 3, 1) := by decide +kernel
theorem dX12_changes_66 : decode cX12_changes 66 = .ok (.invokevirtual 46, 3) := by decide +kernel
theorem dX12_changes_69 : decode cX12_changes 69 = .ok (.iconst 1, 1) := by decide +kernel
theorem dX12_changes_70 : decode cX12_changes 70 = .ok (.iadd, 1) := by decide +kernel
theorem dX12_changes_71 : decode cX12_changes 71 = .ok (.invokevirtual 56, 3) := by decide +kernel
theorem dX12_changes_74 : decode cX12_changes 74 = .ok (.aload_n 0, 1) := by decide +kernel
theorem dX12_changes_75 : decode cX12_changes 75 = .ok (.getfield 7, 3) := by decide +kernel
theorem dX12_changes_78 : decode cX12_changes 78 = .ok (.iconst 4, 1) := by decide +kernel
theorem dX12_changes_79 : decode cX12_changes 79 = .ok (.dup2, 1) := by decide +kernel
theorem dX12_changes_80 : decode cX12_changes 80 = .ok (.iaload, 1) := by decide +kernel
theorem dX12_changes_81 : decode cX12_changes 81 = .ok (.iconst 1, 1) := by decide +kernel
theorem dX12_changes_82 : decode cX12_changes 82 = .ok (.iadd, 1) := by decide +kernel
theorem dX12_changes_83 : decode cX12_changes 83 = .ok (.iastore, 1) := by decide +kernel
theorem dX12_changes_84 : decode cX12_changes 84 = .ok (.aload_n 0, 1) := by decide +kernel
theorem dX12_changes_85 : decode cX12_changes 85 = .ok (.iconst 1, 1) := by decide +kernel
theorem dX12_changes_86 : decode cX12_changes 86 = .ok (.iload_n 1, 1) := by decide +kernel
theorem dX12_changes_87 : decode cX12_changes 87 = .ok (.iload 4, 2) := by decide +kernel
theorem dX12_changes_89 : decode cX12_changes 89 = .ok (.invokevirtual 60, 3) := by decide +kernel
theorem dX12_changes_92 : decode cX12_changes 92 = .ok (.iinc 3 1, 3) := by decide +kernel
theorem dX12_changes_95 : decode cX12_changes 95 = .ok (.iinc 4 1, 3) := by decide +kernel
theorem dX12_changes_98 : decode cX12_changes 98 = .ok (.goto (-86), 3) := by decide +kernel
theorem dX12_changes_101 : decode cX12_changes 101 = .ok (.iconst 0, 1) := by decide +kernel
theorem dX12_changes_102 : decode cX12_changes 102 = .ok (.istore 4, 2) := by decide +kernel
theorem dX12_changes_104 : decode cX12_changes 104 = .ok (.iload 4, 2) := by decide +kernel
theorem dX12_changes_106 : decode cX12_changes 106 = .ok (.aload_n 0, 1) := by decide +kernel
theorem dX12_changes_107 : decode cX12_changes 107 = .ok (.getfield 7, 3) := by decide +kernel
theorem dX12_changes_110 : decode cX12_changes 110 = .ok (.iconst 1, 1) := by decide +kernel
theorem dX12_changes_111 : decode cX12_changes 111 = .ok (.iaload, 1) := by decide +kernel
theorem dX12_changes_112 : decode cX12_changes 112 = .ok (.if_icmp .ge 106, 3) := by decide +kernel
theorem dX12_changes_115 : decode cX12_changes 115 = .ok (.aload_n 0, 1) := by decide +kernel
theorem dX12_changes_116 : decode cX12_changes 116 = .ok (.iload_n 1, 1) := by decide +kernel
theorem dX12_changes_117 : decode cX12_changes 117 = .ok (.iload 4, 2) := by decide +kernel
theorem dX12_changes_119 : decode cX12_changes 119 = .ok (.invokevirtual 49, 3) := by decide +kernel
theorem dX12_changes_122 : decode cX12_changes 122 = .ok (.ifCond .ne 90, 3) := by decide +kernel
theorem dX12_changes_125 : decode cX12_changes 125 = .ok (.aload_n 0, 1) := by decide +kernel
theorem dX12_changes_126 : decode cX12_changes 126 = .ok (.iload 4, 2) := by decide +kernel
theorem dX12_changes_128 : decode cX12_changes 128 = .ok (.iload_n 2, 1) := by decide +kernel
theorem dX12_changes_129 : decode cX12_changes 129 = .ok (.invokevirtual 53, 3) := by decide +kernel
theorem dX12_changes_132 : decode cX12_changes 132 = .ok (.ifCond .eq 80, 3) := by decide +kernel
theorem dX12_changes_135 : decode cX12_changes 135 = .ok (.aload_n 0, 1) := by decide +kernel
theorem dX12_changes_136 : decode cX12_changes 136 = .ok (.getfield 7, 3) := by decide +kernel
theorem dX12_changes_139 : decode cX12_changes 139 = .ok (.sipush 462, 3) := by decide +kernel
theorem dX12_changes_142 : decode cX12_changes 142 = .ok (.bipush 60, 2) := by decide +kernel
theorem dX12_changes_144 : decode cX12_changes 144 = .ok (.iload_n 1, 1) := by decide +kernel
theorem dX12_changes_145 : decode cX12_changes 145 = .ok (.imul, 1) := by decide +kernel
theorem dX12_changes_146 : decode cX12_changes 146 = .ok (.iadd, 1) := by decide +kernel
theorem dX12_changes_147 : decode cX12_changes 147 = .ok (.iload 4, 2) := by decide +kernel
theorem dX12_changes_149 : decode cX12_changes 149 = .ok (.iadd, 1) := by decide +kernel
theorem dX12_changes_150 : decode cX12_changes 150 = .ok (.aload_n 0, 1) := by decide +kernel
theorem dX12_changes_151 : decode cX12_changes 151 = .ok (.getfield 7, 3) := by decide +kernel
theorem dX12_changes_154 : decode cX12_changes 154 = .ok (.iconst 0, 1) := by decide +kernel
theorem dX12_changes_155 : decode cX12_changes 155 = .ok (.iaload, 1) := by decide +kernel
theorem dX12_changes_156 : decode cX12_changes 156 = .ok (.iconst 1, 1) := by decide +kernel
theorem dX12_changes_157 : decode cX12_changes 157 = .ok (.iadd, 1) := by decide +kernel
theorem dX12_changes_158 : decode cX12_changes 158 = .ok (.iastore, 1) := by decide +kernel
theorem dX12_changes_159 : decode cX12_changes 159 = .ok (.aload_n 0, 1) := by decide +kernel
theorem dX12_changes_160 : decode cX12_changes 160 = .ok (.iload_n 1, 1) := by decide +kernel
theorem dX12_changes_161 : decode cX12_changes 161 = .ok (.iconst 2, 1) := by decide +kernel
theorem dX12_changes_162 : decode cX12_changes 162 = .ok (.aload_n 0, 1) := by decide +kernel
theorem dX12_changes_163 : decode cX12_changes 163 = .ok (.iload_n 1, 1) := by decide +kernel
theorem dX12_changes_164 : decode cX12_changes 164 = .ok (.iconst 2, 1) := by decide +kernel
theorem dX12_changes_165 : decode cX12_changes 165 = .ok (.invokevirtual 46, 3) := by decide +kernel
theorem dX12_changes_168 : decode cX12_changes 168 = .ok (.iconst 1, 1) := by decide +kernel
theorem dX12_changes_169 : decode cX12_changes 169 = .ok (.iadd, 1) := by decide +kernel
theorem dX12_changes_170 : decode cX12_changes 170 = .ok (.invokevirtual 56, 3) := by decide +kernel
theorem dX12_changes_173 : decode cX12_changes 173 = .ok (.aload_n 0, 1) := by decide +kernel
theorem dX12_changes_174 : decode cX12_changes 174 = .ok (.iload 4, 2) := by decide +kernel
theorem dX12_changes_176 : decode cX12_changes 176 = .ok (.bipush 6, 2) := by decide +kernel
theorem dX12_changes_178 : decode cX12_changes 178 = .ok (.aload_n 0, 1) := by decide +kernel
theorem dX12_changes_179 : decode cX12_changes 179 = .ok (.iload 4, 2) := by decide +kernel
theorem dX12_changes_181 : decode cX12_changes 181 = .ok (.bipush 6, 2) := by decide +kernel
theorem dX12_changes_183 : decode cX12_changes 183 = .ok (.invokevirtual 30, 3) := by decide +kernel
theorem dX12_changes_186 : decode cX12_changes 186 = .ok (.iconst 1, 1) := by decide +kernel
theorem dX12_changes_187 : decode cX12_changes 187 = .ok (.iadd, 1) := by decide +kernel
theorem dX12_changes_188 : decode cX12_changes 188 = .ok (.invokevirtual 63, 3) := by decide +kernel
theorem dX12_changes_191 : decode cX12_changes 191 = .ok (.aload_n 0, 1) := by decide +kernel
theorem dX12_changes_192 : decode cX12_changes 192 = .ok (.getfield 7, 3) := by decide +kernel
theorem dX12_changes_195 : decode cX12_changes 195 = .ok (.iconst 3, 1) := by decide +kernel
theorem dX12_changes_196 : decode cX12_changes 196 = .ok (.dup2, 1) := by decide +kernel
theorem dX12_changes_197 : decode cX12_changes 197 = .ok (.iaload, 1) := by decide +kernel
theorem dX12_changes_198 : decode cX12_changes 198 = .ok (.iconst 1, 1) := by decide +kernel
theorem dX12_changes_199 : decode cX12_changes 199 = .ok (.iadd, 1) := by decide +kernel
theorem dX12_changes_200 : decode cX12_changes 200 = .ok (.iastore, 1) := by decide +kernel
theorem dX12_changes_201 : decode cX12_changes 201 = .ok (.aload_n 0, 1) := by decide +kernel
theorem dX12_changes_202 : decode cX12_changes 202 = .ok (.iconst 0, 1) := by decide +kernel
theorem dX12_changes_203 : decode cX12_changes 203 = .ok (.iload_n 1, 1) := by decide +kernel
theorem dX12_changes_204 : decode cX12_changes 204 = .ok (.iload 4, 2) := by decide +kernel
theorem dX12_changes_206 : decode cX12_changes 206 = .ok (.invokevirtual 60, 3) := by decide +kernel
theorem dX12_changes_209 : decode cX12_changes 209 = .ok (.iinc 3 1, 3) := by decide +kernel
theorem dX12_changes_212 : decode cX12_changes 212 = .ok (.iinc 4 1, 3) := by decide +kernel
theorem dX12_changes_215 : decode cX12_changes 215 = .ok (.goto (-111), 3) := by decide +kernel
theorem dX12_changes_218 : decode cX12_changes 218 = .ok (.iload_n 3, 1) := by decide +kernel
theorem dX12_changes_219 : decode cX12_changes 219 = .ok (.ireturn, 1) := by decide +kernel
set_option maxRecDepth 20000 in
theorem ggX12_allChanges_X12_changes : GoodIn wsX12_allChanges wsX12_changes := goodIn_r _ [6, 1, 7, 8, 9, 5, 10, 11, 12, 13, 14, 15, 16, 17, 18, 19, 20, 21, 22, 23, 24, 25, 26, 27, 28, 29, 30, 31, 32, 33, 34, 35, 36, 37, 38, 39, 40, 41, 42, 43, 44, 45, 46, 47, 48, 49, 50, 51, 52, 53, 54, 55, 56, 57, 58, 59] rfl (by decide +kernel)
set_option maxRecDepth 20000 in
theorem gX12_allChanges_X12_changes : GoodIn wsX12_allChanges (wsV RX12 66 RX12 yX12_changes wsX12_changes) := goodIn_app (goodIn_of _ (by decide +kernel)) ggX12_allChanges_X12_changes
theorem dX12_allChanges_0 : decode cX12_allChanges 0 = .ok (.iconst 0, 1) := by decide +kernel
theorem dX12_allChanges_1 : decode cX12_allChanges 1 = .ok (.istore_n 1, 1) := by decide +kernel
theorem dX12_allChanges_2 : decode cX12_allChanges 2 = .ok (.iconst 0, 1) := by decide +kernel
theorem dX12_allChanges_3 : decode cX12_allChanges 3 = .ok (.istore_n 2, 1) := by decide +kernel
theorem dX12_allChanges_4 : decode cX12_allChanges 4 = .ok (.iload_n 2, 1) := by decide +kernel
theorem dX12_allChanges_5 : decode cX12_allChanges 5 = .ok (.aload_n 0, 1) := by decide +kernel
theorem dX12_allChanges_6 : decode cX12_allChanges 6 = .ok (.getfield 7, 3) := by decide +kernel
theorem dX12_allChanges_9 : decode cX12_allChanges 9 = .ok (.iconst 2, 1) := by decide +kernel
theorem dX12_allChanges_10 : decode cX12_allChanges 10 = .ok (.iaload, 1) := by decide +kernel
theorem dX12_allChanges_11 : decode cX12_allChanges 11 = .ok (.if_icmp .ge 17, 3) := by decide +kernel
theorem dX12_allChanges_14 : decode cX12_allChanges 14 = .ok (.iload_n 1, 1) := by decide +kernel
theorem dX12_allChanges_15 : decode cX12_allChanges 15 = .ok (.aload_n 0, 1) := by decide +kernel
theorem dX12_allChanges_16 : decode cX12_allChanges 16 = .ok (.iload_n 2, 1) := by decide +kernel
theorem dX12_allChanges_17 : decode cX12_allChanges 17 = .ok (.invokevirtual 66, 3) := by decide +kernel
theorem dX12_allChanges_20 : decode cX12_allChanges 20 = .ok (.iadd, 1) := by decide +kernel
theorem dX12_allChanges_21 : decode cX12_allChanges 21 = .ok (.istore_n 1, 1) := by decide +kernel
theorem dX12_allChanges_22 : decode cX12_allChanges 22 = .ok (.iinc 2 1, 3) := by decide +kernel
theorem dX12_allChanges_25 : decode cX12_allChanges 25 = .ok (.goto (-21), 3) := by decide +kernel
theorem dX12_allChanges_28 : decode cX12_allChanges 28 = .ok (.iload_n 1, 1) := by decide +kernel
theorem dX12_allChanges_29 : decode cX12_allChanges 29 = .ok (.ireturn, 1) := by decide +kernel
set_option maxRecDepth 20000 in
theorem ggX12_adds_X12_puts : GoodIn wsX12_adds wsX12_puts := goodIn_r _ [6, 1, 46, 47, 48, 49, 50, 51, 52, 53, 54, 55, 56, 57, 58, 59, 60, 61, 62, 63] rfl (by decide +kernel)
set_option maxRecDepth 20000 in
theorem gX12_adds_X12_puts : GoodIn wsX12_adds (wsV RX12 63 RX12 yX12_puts wsX12_puts) := goodIn_app (goodIn_of _ (by decide +kernel)) ggX12_adds_X12_puts
set_option maxRecDepth 20000 in
theorem ggX12_adds_X12_allChanges : GoodIn wsX12_adds wsX12_allChanges := goodIn_r _ [10, 1, 11, 12, 13, 5, 14, 15, 16, 17, 18, 19, 20, 21, 22, 23, 24, 25, 26, 27, 28, 29, 30, 31, 32, 33, 34, 35, 36, 37, 38, 39, 40, 41, 42, 43, 44, 45, 2, 3, 4, 6, 46, 47, 48, 49, 50, 51, 52, 53, 54, 55, 56, 57, 58, 59, 60, 61, 62, 63] rfl (by decide +kernel)
set_option maxRecDepth 20000 in
theorem gX12_adds_X12_allChanges : GoodIn wsX12_adds (wsV RX12 70 RX12 yX12_allChanges wsX12_allChanges) := goodIn_app (goodIn_of _ (by decide +kernel)) ggX12_adds_X12_allChanges
theorem dX12_adds_0 : decode cX12_adds 0 = .ok (.aload_n 0, 1) := by decide +kernel
theorem dX12_adds_1 : decode cX12_adds 1 = .ok (.getfield 7, 3) := by decide +kernel
theorem dX12_adds_4 : decode cX12_adds 4 = .ok (.iconst 1, 1) := by decide +kernel
theorem dX12_adds_5 : decode cX12_adds 5 = .ok (.iaload, 1) := by decide +kernel
theorem dX12_adds_6 : decode cX12_adds 6 = .ok (.istore 5, 2) := by decide +kernel
theorem dX12_adds_8 : decode cX12_adds 8 = .ok (.aload_n 0, 1) := by decide +kernel
theorem dX12_adds_9 : decode cX12_adds 9 = .ok (.iload 5, 2) := by decide +kernel
theorem dX12_adds_11 : decode cX12_adds 11 = .ok (.iconst 0, 1) := by decide +kernel
theorem dX12_adds_12 : decode cX12_adds 12 = .ok (.iload_n 1, 1) := by decide +kernel
theorem dX12_adds_13 : decode cX12_adds 13 = .ok (.invokevirtual 63, 3) := by decide +kernel
theorem dX12_adds_16 : decode cX12_adds 16 = .ok (.aload_n 0, 1) := by decide +kernel
theorem dX12_adds_17 : decode cX12_adds 17 = .ok (.iload 5, 2) := by decide +kernel
theorem dX12_adds_19 : decode cX12_adds 19 = .ok (.iconst 1, 1) := by decide +kernel
theorem dX12_adds_20 : decode cX12_adds 20 = .ok (.iload_n 2, 1) := by decide +kernel
theorem dX12_adds_21 : decode cX12_adds 21 = .ok (.invokevirtual 63, 3) := by decide +kernel
theorem dX12_adds_24 : decode cX12_adds 24 = .ok (.aload_n 0, 1) := by decide +kernel
theorem dX12_adds_25 : decode cX12_adds 25 = .ok (.iload 5, 2) := by decide +kernel
theorem dX12_adds_27 : decode cX12_adds 27 = .ok (.iconst 2, 1) := by decide +kernel
theorem dX12_adds_28 : decode cX12_adds 28 = .ok (.iload_n 3, 1) := by decide +kernel
theorem dX12_adds_29 : decode cX12_adds 29 = .ok (.invokevirtual 63, 3) := by decide +kernel
theorem dX12_adds_32 : decode cX12_adds 32 = .ok (.aload_n 0, 1) := by decide +kernel
theorem dX12_adds_33 : decode cX12_adds 33 = .ok (.iload 5, 2) := by decide +kernel
theorem dX12_adds_35 : decode cX12_adds 35 = .ok (.iconst 3, 1) := by decide +kernel
theorem dX12_adds_36 : decode cX12_adds 36 = .ok (.iload 4, 2) := by decide +kernel
theorem dX12_adds_38 : decode cX12_adds 38 = .ok (.invokevirtual 63, 3) := by decide +kernel
theorem dX12_adds_41 : decode cX12_adds 41 = .ok (.aload_n 0, 1) := by decide +kernel
theorem dX12_adds_42 : decode cX12_adds 42 = .ok (.iload 5, 2) := by decide +kernel
theorem dX12_adds_44 : decode cX12_adds 44 = .ok (.iconst 4, 1) := by decide +kernel
theorem dX12_adds_45 : decode cX12_adds 45 = .ok (.iconst 1, 1) := by decide +kernel
theorem dX12_adds_46 : decode cX12_adds 46 = .ok (.invokevirtual 63, 3) := by decide +kernel
theorem dX12_adds_49 : decode cX12_adds 49 = .ok (.aload_n 0, 1) := by decide +kernel
theorem dX12_adds_50 : decode cX12_adds 50 = .ok (.iload 5, 2) := by decide +kernel
theorem dX12_adds_52 : decode cX12_adds 52 = .ok (.iconst 5, 1) := by decide +kernel
theorem dX12_adds_53 : decode cX12_adds 53 = .ok (.iconst 0, 1) := by decide +kernel
theorem dX12_adds_54 : decode cX12_adds 54 = .ok (.invokevirtual 63, 3) := by decide +kernel
theorem dX12_adds_57 : decode cX12_adds 57 = .ok (.aload_n 0, 1) := by decide +kernel
theorem dX12_adds_58 : decode cX12_adds 58 = .ok (.iload 5, 2) := by decide +kernel
theorem dX12_adds_60 : decode cX12_adds 60 = .ok (.bipush 6, 2) := by decide +kernel
theorem dX12_adds_62 : decode cX12_adds 62 = .ok (.iconst 0, 1) := by decide +kernel
theorem dX12_adds_63 : decode cX12_adds 63 = .ok (.invokevirtual 63, 3) := by decide +kernel
theorem dX12_adds_66 : decode cX12_adds 66 = .ok (.aload_n 0, 1) := by decide +kernel
theorem dX12_adds_67 : decode cX12_adds 67 = .ok (.getfield 7, 3) := by decide +kernel
theorem dX12_adds_70 : decode cX12_adds 70 = .ok (.iconst 1, 1) := by decide +kernel
theorem dX12_adds_71 : decode cX12_adds 71 = .ok (.dup2, 1) := by decide +kernel
theorem dX12_adds_72 : decode cX12_adds 72 = .ok (.iaload, 1) := by decide +kernel
theorem dX12_adds_73 : decode cX12_adds 73 = .ok (.iconst 1, 1) := by decide +kernel
theorem dX12_adds_74 : decode cX12_adds 74 = .ok (.iadd, 1) := by decide +kernel
theorem dX12_adds_75 : decode cX12_adds 75 = .ok (.iastore, 1) := by decide +kernel
theorem dX12_adds_76 : decode cX12_adds 76 = .ok (.aload_n 0, 1) := by decide +kernel
theorem dX12_adds_77 : decode cX12_adds 77 = .ok (.invokevirtual 70, 3) := by decide +kernel
theorem dX12_adds_80 : decode cX12_adds 80 = .ok (.pop, 1) := by decide +kernel
theorem dX12_adds_81 : decode cX12_adds 81 = .ok (.iload 5, 2) := by decide +kernel
theorem dX12_adds_83 : decode cX12_adds 83 = .ok (.ireturn, 1) := by decide +kernel
set_option maxRecDepth 20000 in
theorem ggX12_add_X12_in : GoodIn wsX12_add wsX12_in := goodIn_r _ [5] rfl (by decide +kernel)
set_option maxRecDepth 20000 in
theorem gX12_add_X12_in : GoodIn wsX12_add (va_wsS RX12 34 yX12_in wsX12_in) := goodIn_app (goodIn_of _ (by decide +kernel)) ggX12_add_X12_in
set_option maxRecDepth 20000 in
theorem ggX12_add_X12_record : GoodIn wsX12_add wsX12_record := goodIn_r _ [9, 10, 11, 1, 56, 57, 58, 59, 60, 61, 62, 63, 64, 65, 66, 67, 68, 69, 70, 71, 72, 73] rfl (by decide +kernel)
set_option maxRecDepth 20000 in
theorem gX12_add_X12_record : GoodIn wsX12_add (wsV RX12 74 RX12 yX12_record wsX12_record) := goodIn_app (goodIn_of _ (by decide +kernel)) ggX12_add_X12_record
set_option maxRecDepth 20000 in
theorem ggX12_add_X12_adds : GoodIn wsX12_add wsX12_adds := goodIn_r _ [15, 1, 16, 17, 18, 4, 19, 20, 21, 22, 23, 24, 25, 26, 27, 28, 29, 30, 31, 32, 33, 34, 35, 36, 37, 38, 39, 40, 41, 42, 43, 44, 45, 46, 47, 2, 3, 5, 48, 49, 50, 51, 52, 53, 54, 55, 56, 57, 58, 59, 60, 61, 62, 63, 64, 65, 66, 67, 68, 69, 70, 71, 72, 73] rfl (by decide +kernel)
set_option maxRecDepth 20000 in
theorem gX12_add_X12_adds : GoodIn wsX12_add (wsV RX12 77 RX12 yX12_adds wsX12_adds) := goodIn_app (goodIn_of _ (by decide +kernel)) ggX12_add_X12_adds
theorem dX12_add_0 : decode cX12_add 0 = .ok (.iload_n 1, 1) := by decide +kernel
theorem dX12_add_1 : decode cX12_add 1 = .ok (.iconst 0, 1) := by decide +kernel
theorem dX12_add_2 : decode cX12_add 2 = .ok (.sipush 1000, 3) := by decide +kernel
theorem dX12_add_5 : decode cX12_add 5 = .ok (.invokestatic 34, 3) := by decide +kernel
theorem dX12_add_8 : decode cX12_add 8 = .ok (.ifCond .eq 14, 3) := by decide +kernel
theorem dX12_add_11 : decode cX12_add 11 = .ok (.iload_n 2, 1) := by decide +kernel
theorem dX12_add_12 : decode cX12_add 12 = .ok (.iload_n 1, 1) := by decide +kernel
theorem dX12_add_13 : decode cX12_add 13 = .ok (.sipush 1000, 3) := by decide +kernel
theorem dX12_add_16 : decode cX12_add 16 = .ok (.invokestatic 34, 3) := by decide +kernel
theorem dX12_add_19 : decode cX12_add 19 = .ok (.ifCond .ne 6, 3) := by decide +kernel
theorem dX12_add_22 : decode cX12_add 22 = .ok (.bipush (-2), 2) := by decide +kernel
theorem dX12_add_24 : decode cX12_add 24 = .ok (.ireturn, 1) := by decide +kernel
theorem dX12_add_25 : decode cX12_add 25 = .ok (.aload_n 0, 1) := by decide +kernel
theorem dX12_add_26 : decode cX12_add 26 = .ok (.getfield 7, 3) := by decide +kernel
theorem dX12_add_29 : decode cX12_add 29 = .ok (.iconst 1, 1) := by decide +kernel
theorem dX12_add_30 : decode cX12_add 30 = .ok (.iaload, 1) := by decide +kernel
theorem dX12_add_31 : decode cX12_add 31 = .ok (.bipush 60, 2) := by decide +kernel
theorem dX12_add_33 : decode cX12_add 33 = .ok (.if_icmp .ne 6, 3) := by decide +kernel
theorem dX12_add_36 : decode cX12_add 36 = .ok (.bipush (-3), 2) := by decide +kernel
theorem dX12_add_38 : decode cX12_add 38 = .ok (.ireturn, 1) := by decide +kernel
theorem dX12_add_39 : decode cX12_add 39 = .ok (.aload_n 0, 1) := by decide +kernel
theorem dX12_add_40 : decode cX12_add 40 = .ok (.invokevirtual 74, 3) := by decide +kernel
theorem dX12_add_43 : decode cX12_add 43 = .ok (.aload_n 0, 1) := by decide +kernel
theorem dX12_add_44 : decode cX12_add 44 = .ok (.iload_n 1, 1) := by decide +kernel
theorem dX12_add_45 : decode cX12_add 45 = .ok (.iload_n 2, 1) := by decide +kernel
theorem dX12_add_46 : decode cX12_add 46 = .ok (.iload_n 1, 1) := by decide +kernel
theorem dX12_add_47 : decode cX12_add 47 = .ok (.iload_n 2, 1) := by decide +kernel
theorem dX12_add_48 : decode cX12_add 48 = .ok (.invokevirtual 77, 3) := by decide +kernel
theorem dX12_add_51 : decode cX12_add 51 = .ok (.ireturn, 1) := by decide +kernel
set_option maxRecDepth 20000 in
theorem ggX12_remove_X12_noSpan : GoodIn wsX12_remove wsX12_noSpan := goodIn_r _ [5, 6, 7, 8, 4, 9, 10, 11, 12, 13, 14, 15, 16, 17, 56, 57, 58, 59, 60, 61, 62, 63, 64, 65, 66, 67, 68, 69, 70, 71, 72, 73] rfl (by decide +kernel)
set_option maxRecDepth 20000 in
theorem gX12_remove_X12_noSpan : GoodIn wsX12_remove (wsV RX12 81 RX12 yX12_noSpan wsX12_noSpan) := goodIn_app (goodIn_of _ (by decide +kernel)) ggX12_remove_X12_noSpan
set_option maxRecDepth 20000 in
theorem ggX12_remove_X12_record : GoodIn wsX12_remove wsX12_record := goodIn_r _ [21, 22, 23, 6, 56, 57, 58, 59, 60, 61, 62, 63, 64, 65, 66, 67, 68, 69, 70, 71, 72, 73] rfl (by decide +kernel)
set_option maxRecDepth 20000 in
theorem gX12_remove_X12_record : GoodIn wsX12_remove (wsV RX12 74 RX12 yX12_record wsX12_record) := goodIn_app (goodIn_of _ (by decide +kernel)) ggX12_remove_X12_record
set_option maxRecDepth 20000 in
theorem ggX12_remove_X12_puts : GoodIn wsX12_remove wsX12_puts := goodIn_r _ [27, 6, 56, 57, 58, 59, 60, 61, 62, 63, 64, 65, 66, 67, 68, 69, 70, 71, 72, 73] rfl (by decide +kernel)
set_option maxRecDepth 20000 in
theorem gX12_remove_X12_puts : GoodIn wsX12_remove (wsV RX12 63 RX12 yX12_puts wsX12_puts) := goodIn_app (goodIn_of _ (by decide +kernel)) ggX12_remove_X12_puts
set_option maxRecDepth 20000 in
theorem ggX12_remove_X12_allChanges : GoodIn wsX12_remove wsX12_allChanges := goodIn_r _ [31, 6, 32, 33, 34, 4, 35, 36, 37, 38, 39, 40, 41, 42, 43, 44, 45, 46, 47, 10, 11, 12, 13, 14, 15, 16, 17, 7, 8, 9, 48, 49, 50, 51, 52, 53, 54, 55, 24, 25, 26, 27, 56, 57, 58, 59, 60, 61, 62, 63, 64, 65, 66, 67, 68, 69, 70, 71, 72, 73] rfl (by decide +kernel)
set_option maxRecDepth 20000 in
theorem gX12_remove_X12_allChanges : GoodIn wsX12_remove (wsV RX12 70 RX12 yX12_allChanges wsX12_allChanges) := goodIn_app (goodIn_of _ (by decide +kernel)) ggX12_remove_X12_allChanges
theorem dX12_remove_0 : decode cX12_remove 0 = .ok (.aload_n 0, 1) := by decide +kernel
theorem dX12_remove_1 : decode cX12_remove 1 = .ok (.iload_n 1, 1) := by decide +kernel
theorem dX12_remove_2 : decode cX12_remove 2 = .ok (.invokevirtual 81, 3) := by decide +kernel
theorem dX12_remove_5 : decode cX12_remove 5 = .ok (.ifCond .eq 5, 3) := by decide +kernel
theorem dX12_remove_8 : decode cX12_remove 8 = .ok (.iconst (-1), 1) := by decide +kernel
theorem dX12_remove_9 : decode cX12_remove 9 = .ok (.ireturn, 1) := by decide +kernel
theorem dX12_remove_10 : decode cX12_remove 10 = .ok (.aload_n 0, 1) := by decide +kernel
theorem dX12_remove_11 : decode cX12_remove 11 = .ok (.invokevirtual 74, 3) := by decide +kernel
theorem dX12_remove_14 : decode cX12_remove 14 = .ok (.aload_n 0, 1) := by decide +kernel
theorem dX12_remove_15 : decode cX12_remove 15 = .ok (.iload_n 1, 1) := by decide +kernel
theorem dX12_remove_16 : decode cX12_remove 16 = .ok (.iconst 4, 1) := by decide +kernel
theorem dX12_remove_17 : decode cX12_remove 17 = .ok (.iconst 0, 1) := by decide +kernel
theorem dX12_remove_18 : decode cX12_remove 18 = .ok (.invokevirtual 63, 3) := by decide +kernel
theorem dX12_remove_21 : decode cX12_remove 21 = .ok (.aload_n 0, 1) := by decide +kernel
theorem dX12_remove_22 : decode cX12_remove 22 = .ok (.invokevirtual 70, 3) := by decide +kernel
theorem dX12_remove_25 : decode cX12_remove 25 = .ok (.ireturn, 1) := by decide +kernel
set_option maxRecDepth 20000 in
theorem ggX12_move_X12_noSpan : GoodIn wsX12_move wsX12_noSpan := goodIn_r _ [5, 6, 7, 8, 4, 9, 10, 11, 12, 13, 14, 15, 16, 17, 56, 57, 58, 59, 60, 61, 62, 63, 64, 65, 66, 67, 68, 69, 70, 71, 72, 73] rfl (by decide +kernel)
set_option maxRecDepth 20000 in
theorem gX12_move_X12_noSpan : GoodIn wsX12_move (wsV RX12 81 RX12 yX12_noSpan wsX12_noSpan) := goodIn_app (goodIn_of _ (by decide +kernel)) ggX12_move_X12_noSpan
set_option maxRecDepth 20000 in
theorem ggX12_move_X12_in : GoodIn wsX12_move wsX12_in := goodIn_r _ [9] rfl (by decide +kernel)
set_option maxRecDepth 20000 in
theorem gX12_move_X12_in : GoodIn wsX12_move (va_wsS RX12 34 yX12_in wsX12_in) := goodIn_app (goodIn_of _ (by decide +kernel)) ggX12_move_X12_in
set_option maxRecDepth 20000 in
theorem ggX12_move_X12_of : GoodIn wsX12_move wsX12_of := goodIn_r _ [17, 6, 56, 57, 58, 59, 60, 61, 62, 63, 64, 65, 66, 67, 68, 69, 70, 71, 72, 73] rfl (by decide +kernel)
set_option maxRecDepth 20000 in
theorem gX12_move_X12_of : GoodIn wsX12_move (wsV RX12 30 RX12 yX12_of wsX12_of) := goodIn_app (goodIn_of _ (by decide +kernel)) ggX12_move_X12_of
set_option maxRecDepth 20000 in
theorem ggX12_move_X12_record : GoodIn wsX12_move wsX12_record := goodIn_r _ [21, 22, 23, 6, 56, 57, 58, 59, 60, 61, 62, 63, 64, 65, 66, 67, 68, 69, 70, 71, 72, 73] rfl (by decide +kernel)
set_option maxRecDepth 20000 in
theorem gX12_move_X12_record : GoodIn wsX12_move (wsV RX12 74 RX12 yX12_record wsX12_record) := goodIn_app (goodIn_of _ (by decide +kernel)) ggX12_move_X12_record
set_option maxRecDepth 20000 in
theorem ggX12_move_X12_puts : GoodIn wsX12_move wsX12_puts := goodIn_r _ [27, 6, 56, 57, 58, 59, 60, 61, 62, 63, 64, 65, 66, 67, 68, 69, 70, 71, 72, 73] rfl (by decide +kernel)
set_option maxRecDepth 20000 in
theorem gX12_move_X12_puts : GoodIn wsX12_move (wsV RX12 63 RX12 yX12_puts wsX12_puts) := goodIn_app (goodIn_of _ (by decide +kernel)) ggX12_move_X12_puts
set_option maxRecDepth 20000 in
theorem ggX12_move_X12_allChanges : GoodIn wsX12_move wsX12_allChanges := goodIn_r _ [31, 6, 32, 33, 34, 4, 35, 36, 37, 38, 39, 40, 41, 42, 43, 44, 45, 46, 47, 10, 11, 12, 13, 14, 15, 16, 17, 7, 8, 9, 48, 49, 50, 51, 52, 53, 54, 55, 24, 25, 26, 27, 56, 57, 58, 59, 60, 61, 62, 63, 64, 65, 66, 67, 68, 69, 70, 71, 72, 73] rfl (by decide +kernel)
set_option maxRecDepth 20000 in
theorem gX12_move_X12_allChanges : GoodIn wsX12_move (wsV RX12 70 RX12 yX12_allChanges wsX12_allChanges) := goodIn_app (goodIn_of _ (by decide +kernel)) ggX12_move_X12_allChanges
theorem dX12_move_0 : decode cX12_move 0 = .ok (.aload_n 0, 1) := by decide +kernel
theorem dX12_move_1 : decode cX12_move 1 = .ok (.iload_n 1, 1) := by decide +kernel
theorem dX12_move_2 : decode cX12_move 2 = .ok (.invokevirtual 81, 3) := by decide +kernel
theorem dX12_move_5 : decode cX12_move 5 = .ok (.ifCond .eq 5, 3) := by decide +kernel
theorem dX12_move_8 : decode cX12_move 8 = .ok (.iconst (-1), 1) := by decide +kernel
theorem dX12_move_9 : decode cX12_move 9 = .ok (.ireturn, 1) := by decide +kernel
theorem dX12_move_10 : decode cX12_move 10 = .ok (.iload_n 2, 1) := by decide +kernel
theorem dX12_move_11 : decode cX12_move 11 = .ok (.sipush (-1000), 3) := by decide +kernel
theorem dX12_move_14 : decode cX12_move 14 = .ok (.sipush 1000, 3) := by decide +kernel
theorem dX12_move_17 : decode cX12_move 17 = .ok (.invokestatic 34, 3) := by decide +kernel
theorem dX12_move_20 : decode cX12_move 20 = .ok (.ifCond .eq 7, 3) := by decide +kernel
theorem dX12_move_23 : decode cX12_move 23 = .ok (.iload_n 2, 1) := by decide +kernel
theorem dX12_move_24 : decode cX12_move 24 = .ok (.ifCond .ne 6, 3) := by decide +kernel
theorem dX12_move_27 : decode cX12_move 27 = .ok (.bipush (-2), 2) := by decide +kernel
theorem dX12_move_29 : decode cX12_move 29 = .ok (.ireturn, 1) := by decide +kernel
theorem dX12_move_30 : decode cX12_move 30 = .ok (.aload_n 0, 1) := by decide +kernel
theorem dX12_move_31 : decode cX12_move 31 = .ok (.iload_n 1, 1) := by decide +kernel
theorem dX12_move_32 : decode cX12_move 32 = .ok (.iconst 0, 1) := by decide +kernel
theorem dX12_move_33 : decode cX12_move 33 = .ok (.invokevirtual 30, 3) := by decide +kernel
theorem dX12_move_36 : decode cX12_move 36 = .ok (.iload_n 2, 1) := by decide +kernel
theorem dX12_move_37 : decode cX12_move 37 = .ok (.iadd, 1) := by decide +kernel
theorem dX12_move_38 : decode cX12_move 38 = .ok (.ifCond .lt 17, 3) := by decide +kernel
theorem dX12_move_41 : decode cX12_move 41 = .ok (.aload_n 0, 1) := by decide +kernel
theorem dX12_move_42 : decode cX12_move 42 = .ok (.iload_n 1, 1) := by decide +kernel
theorem dX12_move_43 : decode cX12_move 43 = .ok (.iconst 1, 1) := by decide +kernel
theorem dX12_move_44 : decode cX12_move 44 = .ok (.invokevirtual 30, 3) := by decide +kernel
theorem dX12_move_47 : decode cX12_move 47 = .ok (.iload_n 2, 1) := by decide +kernel
theorem dX12_move_48 : decode cX12_move 48 = .ok (.iadd, 1) := by decide +kernel
theorem dX12_move_49 : decode cX12_move 49 = .ok (.sipush 1000, 3) := by decide +kernel
theorem dX12_move_52 : decode cX12_move 52 = .ok (.if_icmp .le 6, 3) := by decide +kernel
theorem dX12_move_55 : decode cX12_move 55 = .ok (.bipush (-4), 2) := by decide +kernel
theorem dX12_move_57 : decode cX12_move 57 = .ok (.ireturn, 1) := by decide +kernel
theorem dX12_move_58 : decode cX12_move 58 = .ok (.aload_n 0, 1) := by decide +kernel
theorem dX12_move_59 : decode cX12_move 59 = .ok (.invokevirtual 74, 3) := by decide +kernel
theorem dX12_move_62 : decode cX12_move 62 = .ok (.iconst 0, 1) := by decide +kernel
theorem dX12_move_63 : decode cX12_move 63 = .ok (.istore_n 3, 1) := by decide +kernel
theorem dX12_move_64 : decode cX12_move 64 = .ok (.iload_n 3, 1) := by decide +kernel
theorem dX12_move_65 : decode cX12_move 65 = .ok (.iconst 4, 1) := by decide +kernel
theorem dX12_move_66 : decode cX12_move 66 = .ok (.if_icmp .ge 23, 3) := by decide +kernel
theorem dX12_move_69 : decode cX12_move 69 = .ok (.aload_n 0, 1) := by decide +kernel
theorem dX12_move_70 : decode cX12_move 70 = .ok (.iload_n 1, 1) := by decide +kernel
theorem dX12_move_71 : decode cX12_move 71 = .ok (.iload_n 3, 1) := by decide +kernel
theorem dX12_move_72 : decode cX12_move 72 = .ok (.aload_n 0, 1) := by decide +kernel
theorem dX12_move_73 : decode cX12_move 73 = .ok (.iload_n 1, 1) := by decide +kernel
theorem dX12_move_74 : decode cX12_move 74 = .ok (.iload_n 3, 1) := by decide +kernel
theorem dX12_move_75 : decode cX12_move 75 = .ok (.invokevirtual 30, 3) := by decide +kernel
theorem dX12_move_78 : decode cX12_move 78 = .ok (.iload_n 2, 1) := by decide +kernel
theorem dX12_move_79 : decode cX12_move 79 = .ok (.iadd, 1) := by decide +kernel
theorem dX12_move_80 : decode cX12_move 80 = .ok (.invokevirtual 63, 3) := by decide +kernel
theorem dX12_move_83 : decode cX12_move 83 = .ok (.iinc 3 1, 3) := by decide +kernel
theorem dX12_move_86 : decode cX12_move 86 = .ok (.goto (-22), 3) := by decide +kernel
theorem dX12_move_89 : decode cX12_move 89 = .ok (.aload_n 0, 1) := by decide +kernel
theorem dX12_move_90 : decode cX12_move 90 = .ok (.invokevirtual 70, 3) := by decide +kernel
theorem dX12_move_93 : decode cX12_move 93 = .ok (.ireturn, 1) := by decide +kernel
set_option maxRecDepth 20000 in
theorem ggX12_come_X12_in : GoodIn wsX12_come wsX12_in := goodIn_r _ [5] rfl (by decide +kernel)
set_option maxRecDepth 20000 in
theorem gX12_come_X12_in : GoodIn wsX12_come (va_wsS RX12 34 yX12_in wsX12_in) := goodIn_app (goodIn_of _ (by decide +kernel)) ggX12_come_X12_in
set_option maxRecDepth 20000 in
theorem ggX12_come_X12_record : GoodIn wsX12_come wsX12_record := goodIn_r _ [9, 10, 11, 1, 48, 49, 50, 51, 52, 53, 54, 55, 56, 57, 58, 59, 60, 61, 62, 63, 64, 65] rfl (by decide +kernel)
set_option maxRecDepth 20000 in
theorem gX12_come_X12_record : GoodIn wsX12_come (wsV RX12 74 RX12 yX12_record wsX12_record) := goodIn_app (goodIn_of _ (by decide +kernel)) ggX12_come_X12_record
set_option maxRecDepth 20000 in
theorem ggX12_come_X12_gives : GoodIn wsX12_come wsX12_gives := goodIn_r _ [15, 1, 48, 49, 50, 51, 52, 53, 54, 55, 56, 57, 58, 59, 60, 61, 62, 63, 64, 65] rfl (by decide +kernel)
set_option maxRecDepth 20000 in
theorem gX12_come_X12_gives : GoodIn wsX12_come (wsV RX12 56 RX12 yX12_gives wsX12_gives) := goodIn_app (goodIn_of _ (by decide +kernel)) ggX12_come_X12_gives
set_option maxRecDepth 20000 in
theorem ggX12_come_X12_changes : GoodIn wsX12_come wsX12_changes := goodIn_r _ [19, 1, 20, 21, 22, 4, 23, 24, 25, 26, 27, 28, 29, 30, 31, 32, 33, 34, 35, 36, 37, 38, 39, 2, 3, 5, 12, 13, 14, 15, 40, 41, 42, 43, 44, 45, 46, 47, 48, 49, 50, 51, 52, 53, 54, 55, 56, 57, 58, 59, 60, 61, 62, 63, 64, 65] rfl (by decide +kernel)
set_option maxRecDepth 20000 in
theorem gX12_come_X12_changes : GoodIn wsX12_come (wsV RX12 66 RX12 yX12_changes wsX12_changes) := goodIn_app (goodIn_of _ (by decide +kernel)) ggX12_come_X12_changes
theorem dX12_come_0 : decode cX12_come 0 = .ok (.iload_n 1, 1) := by decide +kernel
theorem dX12_come_1 : decode cX12_come 1 = .ok (.iconst 0, 1) := by decide +kernel
theorem dX12_come_2 : decode cX12_come 2 = .ok (.sipush 1000, 3) := by decide +kernel
theorem dX12_come_5 : decode cX12_come 5 = .ok (.invokestatic 34, 3) := by decide +kernel
theorem dX12_come_8 : decode cX12_come 8 = .ok (.ifCond .eq 14, 3) := by decide +kernel
theorem dX12_come_11 : decode cX12_come 11 = .ok (.iload_n 2, 1) := by decide +kernel
theorem dX12_come_12 : decode cX12_come 12 = .ok (.bipush (-50), 2) := by decide +kernel
theorem dX12_come_14 : decode cX12_come 14 = .ok (.bipush 50, 2) := by decide +kernel
theorem dX12_come_16 : decode cX12_come 16 = .ok (.invokestatic 34, 3) := by decide +kernel
theorem dX12_come_19 : decode cX12_come 19 = .ok (.ifCond .ne 6, 3) := by decide +kernel
theorem dX12_come_22 : decode cX12_come 22 = .ok (.bipush (-2), 2) := by decide +kernel
theorem dX12_come_24 : decode cX12_come 24 = .ok (.ireturn, 1) := by decide +kernel
theorem dX12_come_25 : decode cX12_come 25 = .ok (.aload_n 0, 1) := by decide +kernel
theorem dX12_come_26 : decode cX12_come 26 = .ok (.getfield 7, 3) := by decide +kernel
theorem dX12_come_29 : decode cX12_come 29 = .ok (.iconst 2, 1) := by decide +kernel
theorem dX12_come_30 : decode cX12_come 30 = .ok (.iaload, 1) := by decide +kernel
theorem dX12_come_31 : decode cX12_come 31 = .ok (.istore_n 3, 1) := by decide +kernel
theorem dX12_come_32 : decode cX12_come 32 = .ok (.iload_n 3, 1) := by decide +kernel
theorem dX12_come_33 : decode cX12_come 33 = .ok (.bipush 6, 2) := by decide +kernel
theorem dX12_come_35 : decode cX12_come 35 = .ok (.if_icmp .ne 6, 3) := by decide +kernel
theorem dX12_come_38 : decode cX12_come 38 = .ok (.bipush (-3), 2) := by decide +kernel
theorem dX12_come_40 : decode cX12_come 40 = .ok (.ireturn, 1) := by decide +kernel
theorem dX12_come_41 : decode cX12_come 41 = .ok (.aload_n 0, 1) := by decide +kernel
theorem dX12_come_42 : decode cX12_come 42 = .ok (.invokevirtual 74, 3) := by decide +kernel
theorem dX12_come_45 : decode cX12_come 45 = .ok (.iconst 0, 1) := by decide +kernel
theorem dX12_come_46 : decode cX12_come 46 = .ok (.istore 4, 2) := by decide +kernel
theorem dX12_come_48 : decode cX12_come 48 = .ok (.iload 4, 2) := by decide +kernel
theorem dX12_come_50 : decode cX12_come 50 = .ok (.bipush 6, 2) := by decide +kernel
theorem dX12_come_52 : decode cX12_come 52 = .ok (.if_icmp .ge 17, 3) := by decide +kernel
theorem dX12_come_55 : decode cX12_come 55 = .ok (.aload_n 0, 1) := by decide +kernel
theorem dX12_come_56 : decode cX12_come 56 = .ok (.iload_n 3, 1) := by decide +kernel
theorem dX12_come_57 : decode cX12_come 57 = .ok (.iload 4, 2) := by decide +kernel
theorem dX12_come_59 : decode cX12_come 59 = .ok (.iconst 0, 1) := by decide +kernel
theorem dX12_come_60 : decode cX12_come 60 = .ok (.invokevirtual 56, 3) := by decide +kernel
theorem dX12_come_63 : decode cX12_come 63 = .ok (.iinc 4 1, 3) := by decide +kernel
theorem dX12_come_66 : decode cX12_come 66 = .ok (.goto (-18), 3) := by decide +kernel
theorem dX12_come_69 : decode cX12_come 69 = .ok (.aload_n 0, 1) := by decide +kernel
theorem dX12_come_70 : decode cX12_come 70 = .ok (.iload_n 3, 1) := by decide +kernel
theorem dX12_come_71 : decode cX12_come 71 = .ok (.iconst 0, 1) := by decide +kernel
theorem dX12_come_72 : decode cX12_come 72 = .ok (.iload_n 1, 1) := by decide +kernel
theorem dX12_come_73 : decode cX12_come 73 = .ok (.invokevirtual 56, 3) := by decide +kernel
theorem dX12_come_76 : decode cX12_come 76 = .ok (.aload_n 0, 1) := by decide +kernel
theorem dX12_come_77 : decode cX12_come 77 = .ok (.iload_n 3, 1) := by decide +kernel
theorem dX12_come_78 : decode cX12_come 78 = .ok (.iconst 1, 1) := by decide +kernel
theorem dX12_come_79 : decode cX12_come 79 = .ok (.iload_n 2, 1) := by decide +kernel
theorem dX12_come_80 : decode cX12_come 80 = .ok (.invokevirtual 56, 3) := by decide +kernel
theorem dX12_come_83 : decode cX12_come 83 = .ok (.iconst 0, 1) := by decide +kernel
theorem dX12_come_84 : decode cX12_come 84 = .ok (.istore 4, 2) := by decide +kernel
theorem dX12_come_86 : decode cX12_come 86 = .ok (.iload 4, 2) := by decide +kernel
theorem dX12_come_88 : decode cX12_come 88 = .ok (.bipush 60, 2) := by decide +kernel
theorem dX12_come_90 : decode cX12_come 90 = .ok (.if_icmp .ge 26, 3) := by decide +kernel
theorem dX12_come_93 : decode cX12_come 93 = .ok (.aload_n 0, 1) := by decide +kernel
theorem dX12_come_94 : decode cX12_come 94 = .ok (.getfield 7, 3) := by decide +kernel
theorem dX12_come_97 : decode cX12_come 97 = .ok (.sipush 462, 3) := by decide +kernel
theorem dX12_come_100 : decode cX12_come 100 = .ok (.bipush 60, 2) := by decide +kernel
theorem dX12_come_102 : decode cX12_come 102 = .ok (.iload_n 3, 1) := by decide +kernel
theorem dX12_come_103 : decode cX12_come 103 = .ok (.imul, 1) := by decide +kernel
theorem dX12_come_104 : decode cX12_come 104 = .ok (.iadd, 1) := by decide +kernel
theorem dX12_come_105 : decode cX12_come 105 = .ok (.iload 4, 2) := by decide +kernel
theorem dX12_come_107 : decode cX12_come 107 = .ok (.iadd, 1) := by decide +kernel
theorem dX12_come_108 : decode cX12_come 108 = .ok (.iconst 0, 1) := by decide +kernel
theorem dX12_come_109 : decode cX12_come 109 = .ok (.iastore, 1) := by decide +kernel
theorem dX12_come_110 : decode cX12_come 110 = .ok (.iinc 4 1, 3) := by decide +kernel
theorem dX12_come_113 : decode cX12_come 113 = .ok (.goto (-27), 3) := by decide +kernel
theorem dX12_come_116 : decode cX12_come 116 = .ok (.aload_n 0, 1) := by decide +kernel
theorem dX12_come_117 : decode cX12_come 117 = .ok (.getfield 7, 3) := by decide +kernel
theorem dX12_come_120 : decode cX12_come 120 = .ok (.iconst 2, 1) := by decide +kernel
theorem dX12_come_121 : decode cX12_come 121 = .ok (.dup2, 1) := by decide +kernel
theorem dX12_come_122 : decode cX12_come 122 = .ok (.iaload, 1) := by decide +kernel
theorem dX12_come_123 : decode cX12_come 123 = .ok (.iconst 1, 1) := by decide +kernel
theorem dX12_come_124 : decode cX12_come 124 = .ok (.iadd, 1) := by decide +kernel
theorem dX12_come_125 : decode cX12_come 125 = .ok (.iastore, 1) := by decide +kernel
theorem dX12_come_126 : decode cX12_come 126 = .ok (.aload_n 0, 1) := by decide +kernel
theorem dX12_come_127 : decode cX12_come 127 = .ok (.iload_n 3, 1) := by decide +kernel
theorem dX12_come_128 : decode cX12_come 128 = .ok (.invokevirtual 66, 3) := by decide +kernel
theorem dX12_come_131 : decode cX12_come 131 = .ok (.pop, 1) := by decide +kernel
theorem dX12_come_132 : decode cX12_come 132 = .ok (.iload_n 3, 1) := by decide +kernel
theorem dX12_come_133 : decode cX12_come 133 = .ok (.ireturn, 1) := by decide +kernel
set_option maxRecDepth 20000 in
theorem ggX12_put_X12_noWalker : GoodIn wsX12_put wsX12_noWalker := goodIn_r _ [5, 6, 7, 8, 4, 9, 52, 53, 54, 55, 56, 57, 58, 59, 60, 61, 62, 63, 64, 65, 66, 67, 68, 69] rfl (by decide +kernel)
set_option maxRecDepth 20000 in
theorem gX12_put_X12_noWalker : GoodIn wsX12_put (wsV RX12 84 RX12 yX12_noWalker wsX12_noWalker) := goodIn_app (goodIn_of _ (by decide +kernel)) ggX12_put_X12_noWalker
set_option maxRecDepth 20000 in
theorem ggX12_put_X12_in : GoodIn wsX12_put wsX12_in := goodIn_r _ [9] rfl (by decide +kernel)
