theorem dX9_oldestSpan_39 : decode cX9_oldestSpan 39 = .ok (.iaload, 1) := by decide +kernel
theorem dX9_oldestSpan_40 : decode cX9_oldestSpan 40 = .ok (.iload_n 3, 1) := by decide +kernel
theorem dX9_oldestSpan_41 : decode cX9_oldestSpan 41 = .ok (.if_icmp .ge 16, 3) := by decide +kernel
theorem dX9_oldestSpan_44 : decode cX9_oldestSpan 44 = .ok (.iload 4, 2) := by decide +kernel
theorem dX9_oldestSpan_46 : decode cX9_oldestSpan 46 = .ok (.istore_n 2, 1) := by decide +kernel
theorem dX9_oldestSpan_47 : decode cX9_oldestSpan 47 = .ok (.aload_n 0, 1) := by decide +kernel
theorem dX9_oldestSpan_48 : decode cX9_oldestSpan 48 = .ok (.getfield 36, 3) := by decide +kernel
theorem dX9_oldestSpan_51 : decode cX9_oldestSpan 51 = .ok (.iload_n 1, 1) := by decide +kernel
theorem dX9_oldestSpan_52 : decode cX9_oldestSpan 52 = .ok (.aaload, 1) := by decide +kernel
theorem dX9_oldestSpan_53 : decode cX9_oldestSpan 53 = .ok (.iload 4, 2) := by decide +kernel
theorem dX9_oldestSpan_55 : decode cX9_oldestSpan 55 = .ok (.iaload, 1) := by decide +kernel
theorem dX9_oldestSpan_56 : decode cX9_oldestSpan 56 = .ok (.istore_n 3, 1) := by decide +kernel
theorem dX9_oldestSpan_57 : decode cX9_oldestSpan 57 = .ok (.iinc 4 1, 3) := by decide +kernel
theorem dX9_oldestSpan_60 : decode cX9_oldestSpan 60 = .ok (.goto (-50), 3) := by decide +kernel
theorem dX9_oldestSpan_63 : decode cX9_oldestSpan 63 = .ok (.iload_n 2, 1) := by decide +kernel
theorem dX9_oldestSpan_64 : decode cX9_oldestSpan 64 = .ok (.ireturn, 1) := by decide +kernel
set_option maxRecDepth 20000 in
theorem ggX9_ticksToMeet_X11_nextPlace : GoodIn wsX9_ticksToMeet wsX11_nextPlace := goodIn_r _ [5] rfl (by decide +kernel)
set_option maxRecDepth 20000 in
theorem gX9_ticksToMeet_X11_nextPlace_n47 : GoodIn wsX9_ticksToMeet (wsX11_nextPlace) := ggX9_ticksToMeet_X11_nextPlace
set_option maxRecDepth 20000 in
theorem ggX9_ticksToMeet_X11_nextSpeed : GoodIn wsX9_ticksToMeet wsX11_nextSpeed := goodIn_r _ [7, 8, 9, 4, 10, 11, 12, 13] rfl (by decide +kernel)
set_option maxRecDepth 20000 in
theorem gX9_ticksToMeet_X11_nextSpeed_n51 : GoodIn wsX9_ticksToMeet (wsX11_nextSpeed) := ggX9_ticksToMeet_X11_nextSpeed
theorem dX9_ticksToMeet_0 : decode cX9_ticksToMeet 0 = .ok (.aload_n 0, 1) := by decide +kernel
theorem dX9_ticksToMeet_1 : decode cX9_ticksToMeet 1 = .ok (.getfield 9, 3) := by decide +kernel
theorem dX9_ticksToMeet_4 : decode cX9_ticksToMeet 4 = .ok (.iload_n 1, 1) := by decide +kernel
theorem dX9_ticksToMeet_5 : decode cX9_ticksToMeet 5 = .ok (.iaload, 1) := by decide +kernel
theorem dX9_ticksToMeet_6 : decode cX9_ticksToMeet 6 = .ok (.istore_n 3, 1) := by decide +kernel
theorem dX9_ticksToMeet_7 : decode cX9_ticksToMeet 7 = .ok (.aload_n 0, 1) := by decide +kernel
theorem dX9_ticksToMeet_8 : decode cX9_ticksToMeet 8 = .ok (.getfield 15, 3) := by decide +kernel
theorem dX9_ticksToMeet_11 : decode cX9_ticksToMeet 11 = .ok (.iload_n 1, 1) := by decide +kernel
theorem dX9_ticksToMeet_12 : decode cX9_ticksToMeet 12 = .ok (.iaload, 1) := by decide +kernel
theorem dX9_ticksToMeet_13 : decode cX9_ticksToMeet 13 = .ok (.istore 4, 2) := by decide +kernel
theorem dX9_ticksToMeet_15 : decode cX9_ticksToMeet 15 = .ok (.aload_n 0, 1) := by decide +kernel
theorem dX9_ticksToMeet_16 : decode cX9_ticksToMeet 16 = .ok (.getfield 9, 3) := by decide +kernel
theorem dX9_ticksToMeet_19 : decode cX9_ticksToMeet 19 = .ok (.iload_n 2, 1) := by decide +kernel
theorem dX9_ticksToMeet_20 : decode cX9_ticksToMeet 20 = .ok (.iaload, 1) := by decide +kernel
theorem dX9_ticksToMeet_21 : decode cX9_ticksToMeet 21 = .ok (.istore 5, 2) := by decide +kernel
theorem dX9_ticksToMeet_23 : decode cX9_ticksToMeet 23 = .ok (.aload_n 0, 1) := by decide +kernel
theorem dX9_ticksToMeet_24 : decode cX9_ticksToMeet 24 = .ok (.getfield 15, 3) := by decide +kernel
theorem dX9_ticksToMeet_27 : decode cX9_ticksToMeet 27 = .ok (.iload_n 2, 1) := by decide +kernel
theorem dX9_ticksToMeet_28 : decode cX9_ticksToMeet 28 = .ok (.iaload, 1) := by decide +kernel
theorem dX9_ticksToMeet_29 : decode cX9_ticksToMeet 29 = .ok (.istore 6, 2) := by decide +kernel
theorem dX9_ticksToMeet_31 : decode cX9_ticksToMeet 31 = .ok (.iconst 0, 1) := by decide +kernel
theorem dX9_ticksToMeet_32 : decode cX9_ticksToMeet 32 = .ok (.istore 7, 2) := by decide +kernel
theorem dX9_ticksToMeet_34 : decode cX9_ticksToMeet 34 = .ok (.iload 7, 2) := by decide +kernel
theorem dX9_ticksToMeet_36 : decode cX9_ticksToMeet 36 = .ok (.sipush 200, 3) := by decide +kernel
theorem dX9_ticksToMeet_39 : decode cX9_ticksToMeet 39 = .ok (.if_icmp .gt 60, 3) := by decide +kernel
theorem dX9_ticksToMeet_42 : decode cX9_ticksToMeet 42 = .ok (.iload_n 3, 1) := by decide +kernel
theorem dX9_ticksToMeet_43 : decode cX9_ticksToMeet 43 = .ok (.iload 5, 2) := by decide +kernel
theorem dX9_ticksToMeet_45 : decode cX9_ticksToMeet 45 = .ok (.if_icmp .ne 6, 3) := by decide +kernel
theorem dX9_ticksToMeet_48 : decode cX9_ticksToMeet 48 = .ok (.iload 7, 2) := by decide +kernel
theorem dX9_ticksToMeet_50 : decode cX9_ticksToMeet 50 = .ok (.ireturn, 1) := by decide +kernel
theorem dX9_ticksToMeet_51 : decode cX9_ticksToMeet 51 = .ok (.iload_n 3, 1) := by decide +kernel
theorem dX9_ticksToMeet_52 : decode cX9_ticksToMeet 52 = .ok (.istore 8, 2) := by decide +kernel
theorem dX9_ticksToMeet_54 : decode cX9_ticksToMeet 54 = .ok (.iload 8, 2) := by decide +kernel
theorem dX9_ticksToMeet_56 : decode cX9_ticksToMeet 56 = .ok (.iload 4, 2) := by decide +kernel
theorem dX9_ticksToMeet_58 : decode cX9_ticksToMeet 58 = .ok (.invokestatic 47, 3) := by decide +kernel
theorem dX9_ticksToMeet_61 : decode cX9_ticksToMeet 61 = .ok (.istore_n 3, 1) := by decide +kernel
theorem dX9_ticksToMeet_62 : decode cX9_ticksToMeet 62 = .ok (.iload 8, 2) := by decide +kernel
theorem dX9_ticksToMeet_64 : decode cX9_ticksToMeet 64 = .ok (.iload 4, 2) := by decide +kernel
theorem dX9_ticksToMeet_66 : decode cX9_ticksToMeet 66 = .ok (.invokestatic 51, 3) := by decide +kernel
theorem dX9_ticksToMeet_69 : decode cX9_ticksToMeet 69 = .ok (.istore 4, 2) := by decide +kernel
theorem dX9_ticksToMeet_71 : decode cX9_ticksToMeet 71 = .ok (.iload 5, 2) := by decide +kernel
theorem dX9_ticksToMeet_73 : decode cX9_ticksToMeet 73 = .ok (.istore 9, 2) := by decide +kernel
theorem dX9_ticksToMeet_75 : decode cX9_ticksToMeet 75 = .ok (.iload 9, 2) := by decide +kernel
theorem dX9_ticksToMeet_77 : decode cX9_ticksToMeet 77 = .ok (.iload 6, 2) := by decide +kernel
theorem dX9_ticksToMeet_79 : decode cX9_ticksToMeet 79 = .ok (.invokestatic 47, 3) := by decide +kernel
theorem dX9_ticksToMeet_82 : decode cX9_ticksToMeet 82 = .ok (.istore 5, 2) := by decide +kernel
theorem dX9_ticksToMeet_84 : decode cX9_ticksToMeet 84 = .ok (.iload 9, 2) := by decide +kernel
theorem dX9_ticksToMeet_86 : decode cX9_ticksToMeet 86 = .ok (.iload 6, 2) := by decide +kernel
theorem dX9_ticksToMeet_88 : decode cX9_ticksToMeet 88 = .ok (.invokestatic 51, 3) := by decide +kernel
theorem dX9_ticksToMeet_91 : decode cX9_ticksToMeet 91 = .ok (.istore 6, 2) := by decide +kernel
theorem dX9_ticksToMeet_93 : decode cX9_ticksToMeet 93 = .ok (.iinc 7 1, 3) := by decide +kernel
theorem dX9_ticksToMeet_96 : decode cX9_ticksToMeet 96 = .ok (.goto (-62), 3) := by decide +kernel
theorem dX9_ticksToMeet_99 : decode cX9_ticksToMeet 99 = .ok (.bipush (-5), 2) := by decide +kernel
theorem dX9_ticksToMeet_101 : decode cX9_ticksToMeet 101 = .ok (.ireturn, 1) := by decide +kernel
theorem dX9_copyFrom_0 : decode cX9_copyFrom 0 = .ok (.aload_n 0, 1) := by decide +kernel
theorem dX9_copyFrom_1 : decode cX9_copyFrom 1 = .ok (.aload_n 1, 1) := by decide +kernel
theorem dX9_copyFrom_2 : decode cX9_copyFrom 2 = .ok (.getfield 39, 3) := by decide +kernel
theorem dX9_copyFrom_5 : decode cX9_copyFrom 5 = .ok (.putfield 39, 3) := by decide +kernel
theorem dX9_copyFrom_8 : decode cX9_copyFrom 8 = .ok (.aload_n 1, 1) := by decide +kernel
theorem dX9_copyFrom_9 : decode cX9_copyFrom 9 = .ok (.getfield 9, 3) := by decide +kernel
theorem dX9_copyFrom_12 : decode cX9_copyFrom 12 = .ok (.iconst 0, 1) := by decide +kernel
theorem dX9_copyFrom_13 : decode cX9_copyFrom 13 = .ok (.aload_n 0, 1) := by decide +kernel
theorem dX9_copyFrom_14 : decode cX9_copyFrom 14 = .ok (.getfield 9, 3) := by decide +kernel
theorem dX9_copyFrom_17 : decode cX9_copyFrom 17 = .ok (.iconst 0, 1) := by decide +kernel
theorem dX9_copyFrom_18 : decode cX9_copyFrom 18 = .ok (.bipush 6, 2) := by decide +kernel
theorem dX9_copyFrom_20 : decode cX9_copyFrom 20 = .ok (.invokestatic 64, 3) := by decide +kernel
theorem dX9_copyFrom_23 : decode cX9_copyFrom 23 = .ok (.aload_n 1, 1) := by decide +kernel
theorem dX9_copyFrom_24 : decode cX9_copyFrom 24 = .ok (.getfield 15, 3) := by decide +kernel
theorem dX9_copyFrom_27 : decode cX9_copyFrom 27 = .ok (.iconst 0, 1) := by decide +kernel
theorem dX9_copyFrom_28 : decode cX9_copyFrom 28 = .ok (.aload_n 0, 1) := by decide +kernel
theorem dX9_copyFrom_29 : decode cX9_copyFrom 29 = .ok (.getfield 15, 3) := by decide +kernel
theorem dX9_copyFrom_32 : decode cX9_copyFrom 32 = .ok (.iconst 0, 1) := by decide +kernel
theorem dX9_copyFrom_33 : decode cX9_copyFrom 33 = .ok (.bipush 6, 2) := by decide +kernel
theorem dX9_copyFrom_35 : decode cX9_copyFrom 35 = .ok (.invokestatic 64, 3) := by decide +kernel
theorem dX9_copyFrom_38 : decode cX9_copyFrom 38 = .ok (.aload_n 1, 1) := by decide +kernel
theorem dX9_copyFrom_39 : decode cX9_copyFrom 39 = .ok (.getfield 18, 3) := by decide +kernel
theorem dX9_copyFrom_42 : decode cX9_copyFrom 42 = .ok (.iconst 0, 1) := by decide +kernel
theorem dX9_copyFrom_43 : decode cX9_copyFrom 43 = .ok (.aload_n 0, 1) := by decide +kernel
theorem dX9_copyFrom_44 : decode cX9_copyFrom 44 = .ok (.getfield 18, 3) := by decide +kernel
theorem dX9_copyFrom_47 : decode cX9_copyFrom 47 = .ok (.iconst 0, 1) := by decide +kernel
theorem dX9_copyFrom_48 : decode cX9_copyFrom 48 = .ok (.bipush 6, 2) := by decide +kernel
theorem dX9_copyFrom_50 : decode cX9_copyFrom 50 = .ok (.invokestatic 64, 3) := by decide +kernel
theorem dX9_copyFrom_53 : decode cX9_copyFrom 53 = .ok (.aload_n 1, 1) := by decide +kernel
theorem dX9_copyFrom_54 : decode cX9_copyFrom 54 = .ok (.getfield 22, 3) := by decide +kernel
theorem dX9_copyFrom_57 : decode cX9_copyFrom 57 = .ok (.iconst 0, 1) := by decide +kernel
theorem dX9_copyFrom_58 : decode cX9_copyFrom 58 = .ok (.aload_n 0, 1) := by decide +kernel
theorem dX9_copyFrom_59 : decode cX9_copyFrom 59 = .ok (.getfield 22, 3) := by decide +kernel
theorem dX9_copyFrom_62 : decode cX9_copyFrom 62 = .ok (.iconst 0, 1) := by decide +kernel
theorem dX9_copyFrom_63 : decode cX9_copyFrom 63 = .ok (.bipush 6, 2) := by decide +kernel
theorem dX9_copyFrom_65 : decode cX9_copyFrom 65 = .ok (.invokestatic 64, 3) := by decide +kernel
theorem dX9_copyFrom_68 : decode cX9_copyFrom 68 = .ok (.aload_n 1, 1) := by decide +kernel
theorem dX9_copyFrom_69 : decode cX9_copyFrom 69 = .ok (.getfield 25, 3) := by decide +kernel
theorem dX9_copyFrom_72 : decode cX9_copyFrom 72 = .ok (.iconst 0, 1) := by decide +kernel
theorem dX9_copyFrom_73 : decode cX9_copyFrom 73 = .ok (.aload_n 0, 1) := by decide +kernel
theorem dX9_copyFrom_74 : decode cX9_copyFrom 74 = .ok (.getfield 25, 3) := by decide +kernel
theorem dX9_copyFrom_77 : decode cX9_copyFrom 77 = .ok (.iconst 0, 1) := by decide +kernel
theorem dX9_copyFrom_78 : decode cX9_copyFrom 78 = .ok (.bipush 6, 2) := by decide +kernel
theorem dX9_copyFrom_80 : decode cX9_copyFrom 80 = .ok (.invokestatic 64, 3) := by decide +kernel
theorem dX9_copyFrom_83 : decode cX9_copyFrom 83 = .ok (.aload_n 1, 1) := by decide +kernel
theorem dX9_copyFrom_84 : decode cX9_copyFrom 84 = .ok (.getfield 28, 3) := by decide +kernel
theorem dX9_copyFrom_87 : decode cX9_copyFrom 87 = .ok (.iconst 0, 1) := by decide +kernel
theorem dX9_copyFrom_88 : decode cX9_copyFrom 88 = .ok (.aload_n 0, 1) := by decide +kernel
theorem dX9_copyFrom_89 : decode cX9_copyFrom 89 = .ok (.getfield 28, 3) := by decide +kernel
theorem dX9_copyFrom_92 : decode cX9_copyFrom 92 = .ok (.iconst 0, 1) := by decide +kernel
theorem dX9_copyFrom_93 : decode cX9_copyFrom 93 = .ok (.bipush 6, 2) := by decide +kernel
theorem dX9_copyFrom_95 : decode cX9_copyFrom 95 = .ok (.invokestatic 64, 3) := by decide +kernel
theorem dX9_copyFrom_98 : decode cX9_copyFrom 98 = .ok (.aload_n 1, 1) := by decide +kernel
theorem dX9_copyFrom_99 : decode cX9_copyFrom 99 = .ok (.getfield 31, 3) := by decide +kernel
theorem dX9_copyFrom_102 : decode cX9_copyFrom 102 = .ok (.iconst 0, 1) := by decide +kernel
theorem dX9_copyFrom_103 : decode cX9_copyFrom 103 = .ok (.aload_n 0, 1) := by decide +kernel
theorem dX9_copyFrom_104 : decode cX9_copyFrom 104 = .ok (.getfield 31, 3) := by decide +kernel
theorem dX9_copyFrom_107 : decode cX9_copyFrom 107 = .ok (.iconst 0, 1) := by decide +kernel
theorem dX9_copyFrom_108 : decode cX9_copyFrom 108 = .ok (.bipush 6, 2) := by decide +kernel
theorem dX9_copyFrom_110 : decode cX9_copyFrom 110 = .ok (.invokestatic 64, 3) := by decide +kernel
theorem dX9_copyFrom_113 : decode cX9_copyFrom 113 = .ok (.iconst 0, 1) := by decide +kernel
theorem dX9_copyFrom_114 : decode cX9_copyFrom 114 = .ok (.istore_n 2, 1) := by decide +kernel
theorem dX9_copyFrom_115 : decode cX9_copyFrom 115 = .ok (.iload_n 2, 1) := by decide +kernel
theorem dX9_copyFrom_116 : decode cX9_copyFrom 116 = .ok (.bipush 6, 2) := by decide +kernel
theorem dX9_copyFrom_118 : decode cX9_copyFrom 118 = .ok (.if_icmp .ge 28, 3) := by decide +kernel
theorem dX9_copyFrom_121 : decode cX9_copyFrom 121 = .ok (.aload_n 1, 1) := by decide +kernel
theorem dX9_copyFrom_122 : decode cX9_copyFrom 122 = .ok (.getfield 36, 3) := by decide +kernel
theorem dX9_copyFrom_125 : decode cX9_copyFrom 125 = .ok (.iload_n 2, 1) := by decide +kernel
theorem dX9_copyFrom_126 : decode cX9_copyFrom 126 = .ok (.aaload, 1) := by decide +kernel
theorem dX9_copyFrom_127 : decode cX9_copyFrom 127 = .ok (.iconst 0, 1) := by decide +kernel
theorem dX9_copyFrom_128 : decode cX9_copyFrom 128 = .ok (.aload_n 0, 1) := by decide +kernel
theorem dX9_copyFrom_129 : decode cX9_copyFrom 129 = .ok (.getfield 36, 3) := by decide +kernel
theorem dX9_copyFrom_132 : decode cX9_copyFrom 132 = .ok (.iload_n 2, 1) := by decide +kernel
theorem dX9_copyFrom_133 : decode cX9_copyFrom 133 = .ok (.aaload, 1) := by decide +kernel
theorem dX9_copyFrom_134 : decode cX9_copyFrom 134 = .ok (.iconst 0, 1) := by decide +kernel
theorem dX9_copyFrom_135 : decode cX9_copyFrom 135 = .ok (.bipush 60, 2) := by decide +kernel
theorem dX9_copyFrom_137 : decode cX9_copyFrom 137 = .ok (.invokestatic 64, 3) := by decide +kernel
theorem dX9_copyFrom_140 : decode cX9_copyFrom 140 = .ok (.iinc 2 1, 3) := by decide +kernel
theorem dX9_copyFrom_143 : decode cX9_copyFrom 143 = .ok (.goto (-28), 3) := by decide +kernel
theorem dX9_copyFrom_146 : decode cX9_copyFrom 146 = .ok (.return_, 1) := by decide +kernel
theorem dX10_init_0 : decode cX10_init 0 = .ok (.aload_n 0, 1) := by decide +kernel
theorem dX10_init_1 : decode cX10_init 1 = .ok (.invokespecial 3, 3) := by decide +kernel
theorem dX10_init_4 : decode cX10_init 4 = .ok (.return_, 1) := by decide +kernel
set_option maxRecDepth 20000 in
theorem ggX10_start_X10_halfway : GoodIn wsX10_start wsX10_halfway := goodIn_r _ [8] rfl (by decide +kernel)
set_option maxRecDepth 20000 in
theorem gX10_start_X10_halfway : GoodIn wsX10_start (va_wsS RX10 18 yX10_halfway wsX10_halfway) := goodIn_app (goodIn_of _ (by decide +kernel)) ggX10_start_X10_halfway
theorem dX10_start_0 : decode cX10_start 0 = .ok (.aload_n 0, 1) := by decide +kernel
theorem dX10_start_1 : decode cX10_start 1 = .ok (.iconst 0, 1) := by decide +kernel
theorem dX10_start_2 : decode cX10_start 2 = .ok (.putfield 9, 3) := by decide +kernel
theorem dX10_start_5 : decode cX10_start 5 = .ok (.aload_n 0, 1) := by decide +kernel
theorem dX10_start_6 : decode cX10_start 6 = .ok (.sipush 1000, 3) := by decide +kernel
theorem dX10_start_9 : decode cX10_start 9 = .ok (.putfield 15, 3) := by decide +kernel
theorem dX10_start_12 : decode cX10_start 12 = .ok (.aload_n 0, 1) := by decide +kernel
theorem dX10_start_13 : decode cX10_start 13 = .ok (.aload_n 0, 1) := by decide +kernel
theorem dX10_start_14 : decode cX10_start 14 = .ok (.getfield 9, 3) := by decide +kernel
theorem dX10_start_17 : decode cX10_start 17 = .ok (.aload_n 0, 1) := by decide +kernel
theorem dX10_start_18 : decode cX10_start 18 = .ok (.getfield 15, 3) := by decide +kernel
theorem dX10_start_21 : decode cX10_start 21 = .ok (.invokestatic 18, 3) := by decide +kernel
theorem dX10_start_24 : decode cX10_start 24 = .ok (.putfield 22, 3) := by decide +kernel
theorem dX10_start_27 : decode cX10_start 27 = .ok (.aload_n 0, 1) := by decide +kernel
theorem dX10_start_28 : decode cX10_start 28 = .ok (.iconst 0, 1) := by decide +kernel
theorem dX10_start_29 : decode cX10_start 29 = .ok (.putfield 25, 3) := by decide +kernel
theorem dX10_start_32 : decode cX10_start 32 = .ok (.return_, 1) := by decide +kernel
set_option maxRecDepth 20000 in
theorem ggX10_goLeft_X10_halfway : GoodIn wsX10_goLeft wsX10_halfway := goodIn_r _ [8] rfl (by decide +kernel)
set_option maxRecDepth 20000 in
theorem gX10_goLeft_X10_halfway : GoodIn wsX10_goLeft (va_wsS RX10 18 yX10_halfway wsX10_halfway) := goodIn_app (goodIn_of _ (by decide +kernel)) ggX10_goLeft_X10_halfway
theorem dX10_goLeft_0 : decode cX10_goLeft 0 = .ok (.aload_n 0, 1) := by decide +kernel
theorem dX10_goLeft_1 : decode cX10_goLeft 1 = .ok (.aload_n 0, 1) := by decide +kernel
theorem dX10_goLeft_2 : decode cX10_goLeft 2 = .ok (.getfield 22, 3) := by decide +kernel
theorem dX10_goLeft_5 : decode cX10_goLeft 5 = .ok (.iconst 1, 1) := by decide +kernel
theorem dX10_goLeft_6 : decode cX10_goLeft 6 = .ok (.isub, 1) := by decide +kernel
theorem dX10_goLeft_7 : decode cX10_goLeft 7 = .ok (.putfield 15, 3) := by decide +kernel
theorem dX10_goLeft_10 : decode cX10_goLeft 10 = .ok (.aload_n 0, 1) := by decide +kernel
theorem dX10_goLeft_11 : decode cX10_goLeft 11 = .ok (.aload_n 0, 1) := by decide +kernel
theorem dX10_goLeft_12 : decode cX10_goLeft 12 = .ok (.getfield 9, 3) := by decide +kernel
theorem dX10_goLeft_15 : decode cX10_goLeft 15 = .ok (.aload_n 0, 1) := by decide +kernel
theorem dX10_goLeft_16 : decode cX10_goLeft 16 = .ok (.getfield 15, 3) := by decide +kernel
theorem dX10_goLeft_19 : decode cX10_goLeft 19 = .ok (.invokestatic 18, 3) := by decide +kernel
theorem dX10_goLeft_22 : decode cX10_goLeft 22 = .ok (.putfield 22, 3) := by decide +kernel
theorem dX10_goLeft_25 : decode cX10_goLeft 25 = .ok (.aload_n 0, 1) := by decide +kernel
theorem dX10_goLeft_26 : decode cX10_goLeft 26 = .ok (.dup, 1) := by decide +kernel
theorem dX10_goLeft_27 : decode cX10_goLeft 27 = .ok (.getfield 25, 3) := by decide +kernel
theorem dX10_goLeft_30 : decode cX10_goLeft 30 = .ok (.iconst 1, 1) := by decide +kernel
theorem dX10_goLeft_31 : decode cX10_goLeft 31 = .ok (.iadd, 1) := by decide +kernel
theorem dX10_goLeft_32 : decode cX10_goLeft 32 = .ok (.putfield 25, 3) := by decide +kernel
theorem dX10_goLeft_35 : decode cX10_goLeft 35 = .ok (.return_, 1) := by decide +kernel
set_option maxRecDepth 20000 in
theorem ggX10_goRight_X10_halfway : GoodIn wsX10_goRight wsX10_halfway := goodIn_r _ [8] rfl (by decide +kernel)
set_option maxRecDepth 20000 in
theorem gX10_goRight_X10_halfway : GoodIn wsX10_goRight (va_wsS RX10 18 yX10_halfway wsX10_halfway) := goodIn_app (goodIn_of _ (by decide +kernel)) ggX10_goRight_X10_halfway
theorem dX10_goRight_0 : decode cX10_goRight 0 = .ok (.aload_n 0, 1) := by decide +kernel
theorem dX10_goRight_1 : decode cX10_goRight 1 = .ok (.aload_n 0, 1) := by decide +kernel
theorem dX10_goRight_2 : decode cX10_goRight 2 = .ok (.getfield 22, 3) := by decide +kernel
theorem dX10_goRight_5 : decode cX10_goRight 5 = .ok (.iconst 1, 1) := by decide +kernel
theorem dX10_goRight_6 : decode cX10_goRight 6 = .ok (.iadd, 1) := by decide +kernel
theorem dX10_goRight_7 : decode cX10_goRight 7 = .ok (.putfield 9, 3) := by decide +kernel
theorem dX10_goRight_10 : decode cX10_goRight 10 = .ok (.aload_n 0, 1) := by decide +kernel
theorem dX10_goRight_11 : decode cX10_goRight 11 = .ok (.aload_n 0, 1) := by decide +kernel
theorem dX10_goRight_12 : decode cX10_goRight 12 = .ok (.getfield 9, 3) := by decide +kernel
theorem dX10_goRight_15 : decode cX10_goRight 15 = .ok (.aload_n 0, 1) := by decide +kernel
theorem dX10_goRight_16 : decode cX10_goRight 16 = .ok (.getfield 15, 3) := by decide +kernel
theorem dX10_goRight_19 : decode cX10_goRight 19 = .ok (.invokestatic 18, 3) := by decide +kernel
theorem dX10_goRight_22 : decode cX10_goRight 22 = .ok (.putfield 22, 3) := by decide +kernel
theorem dX10_goRight_25 : decode cX10_goRight 25 = .ok (.aload_n 0, 1) := by decide +kernel
theorem dX10_goRight_26 : decode cX10_goRight 26 = .ok (.dup, 1) := by decide +kernel
theorem dX10_goRight_27 : decode cX10_goRight 27 = .ok (.getfield 25, 3) := by decide +kernel
theorem dX10_goRight_30 : decode cX10_goRight 30 = .ok (.iconst 1, 1) := by decide +kernel
theorem dX10_goRight_31 : decode cX10_goRight 31 = .ok (.iadd, 1) := by decide +kernel
theorem dX10_goRight_32 : decode cX10_goRight 32 = .ok (.putfield 25, 3) := by decide +kernel
theorem dX10_goRight_35 : decode cX10_goRight 35 = .ok (.return_, 1) := by decide +kernel
theorem dX10_hasPlaces_0 : decode cX10_hasPlaces 0 = .ok (.aload_n 0, 1) := by decide +kernel
theorem dX10_hasPlaces_1 : decode cX10_hasPlaces 1 = .ok (.getfield 9, 3) := by decide +kernel
theorem dX10_hasPlaces_4 : decode cX10_hasPlaces 4 = .ok (.aload_n 0, 1) := by decide +kernel
theorem dX10_hasPlaces_5 : decode cX10_hasPlaces 5 = .ok (.getfield 15, 3) := by decide +kernel
theorem dX10_hasPlaces_8 : decode cX10_hasPlaces 8 = .ok (.if_icmp .gt 7, 3) := by decide +kernel
theorem dX10_hasPlaces_11 : decode cX10_hasPlaces 11 = .ok (.iconst 1, 1) := by decide +kernel
theorem dX10_hasPlaces_12 : decode cX10_hasPlaces 12 = .ok (.goto 4, 3) := by decide +kernel
theorem dX10_hasPlaces_15 : decode cX10_hasPlaces 15 = .ok (.iconst 0, 1) := by decide +kernel
theorem dX10_hasPlaces_16 : decode cX10_hasPlaces 16 = .ok (.ireturn, 1) := by decide +kernel
theorem dX10_halfway_0 : decode cX10_halfway 0 = .ok (.iload_n 0, 1) := by decide +kernel
theorem dX10_halfway_1 : decode cX10_halfway 1 = .ok (.iload_n 1, 1) := by decide +kernel
theorem dX10_halfway_2 : decode cX10_halfway 2 = .ok (.iadd, 1) := by decide +kernel
theorem dX10_halfway_3 : decode cX10_halfway 3 = .ok (.iconst 2, 1) := by decide +kernel
theorem dX10_halfway_4 : decode cX10_halfway 4 = .ok (.idiv, 1) := by decide +kernel
theorem dX10_halfway_5 : decode cX10_halfway 5 = .ok (.ireturn, 1) := by decide +kernel
set_option maxRecDepth 20000 in
theorem ggX11_init_X2_init : GoodIn wsX11_init wsX2_init := goodIn_r _ [25, 26, 2, 3, 27, 13, 14, 28, 29, 30, 31, 32, 33, 34, 35, 36, 37, 38, 39, 40, 41, 42, 43, 44, 45, 46, 47, 48, 49, 50, 51, 52, 53, 54, 55, 56, 57, 58, 59, 60, 61, 62, 63, 64, 65, 66, 67, 68, 69, 70, 71, 72, 73, 74, 75, 76, 77, 78, 79, 80, 81, 82, 83, 84, 85, 86, 87, 88, 89, 90, 91, 92, 93, 94, 95, 96, 97, 98, 99, 130, 131, 132, 133, 119, 120, 121, 142, 143, 144, 145, 146, 147, 148, 149, 150, 151, 152, 153, 154, 155, 156, 157, 158, 159, 160, 161, 162, 163, 164, 165, 166, 167, 168, 169, 170, 171, 172, 173, 174] rfl (by decide +kernel)
set_option maxRecDepth 20000 in
theorem gX11_init_X2_init_n11 : GoodIn wsX11_init (wsX2_init) := ggX11_init_X2_init
set_option maxRecDepth 20000 in
theorem ggX11_init_X1_init : GoodIn wsX11_init wsX1_init := goodIn_r _ [102, 103, 2, 3, 104, 105, 13, 14, 37, 38, 39, 40, 41, 42, 43, 44, 45, 46, 47, 48, 49, 50, 51, 52, 53, 54, 55, 56, 57, 58, 59, 60, 61, 62, 63, 64, 65, 66, 67, 68, 69, 70, 71, 72, 73, 74, 75, 76, 77, 78, 79, 80, 81, 128, 129, 130, 131, 132, 133, 148, 149, 150, 151, 152, 153, 154, 155, 156, 157, 158, 159, 160, 161, 162, 163, 164, 165, 166, 167, 168, 169, 170] rfl (by decide +kernel)
set_option maxRecDepth 20000 in
theorem gX11_init_X1_init : GoodIn wsX11_init (wsX1_init) := ggX11_init_X1_init
set_option maxRecDepth 20000 in
theorem ggX11_init_X6_init : GoodIn wsX11_init wsX6_init := goodIn_r _ [38, 39, 2, 3, 40, 41, 42, 43, 44, 45, 46, 47, 48, 49, 50, 51, 52, 53, 54, 55, 56, 57, 58, 59, 60, 61, 62, 63, 64, 65, 66, 67, 68, 69, 70, 71, 72, 73, 74, 75, 76, 77, 78, 79, 80, 81, 148, 149, 150, 151, 152, 153, 154, 155, 130, 131, 132, 133, 156, 157, 158, 159, 160, 161, 162, 163, 164, 165, 166, 167, 168, 169, 170] rfl (by decide +kernel)
set_option maxRecDepth 20000 in
theorem gX11_init_X6_init_n25 : GoodIn wsX11_init (wsX6_init) := ggX11_init_X6_init
set_option maxRecDepth 20000 in
theorem ggX11_init_X7_init : GoodIn wsX11_init wsX7_init := goodIn_r _ [107, 108, 2, 3, 109, 110, 134, 135] rfl (by decide +kernel)
set_option maxRecDepth 20000 in
theorem gX11_init_X7_init_n32 : GoodIn wsX11_init (wsX7_init) := ggX11_init_X7_init
set_option maxRecDepth 20000 in
theorem ggX11_init_X4_init : GoodIn wsX11_init wsX4_init := goodIn_r _ [112, 113, 2, 3, 55, 114, 115, 116, 117, 118, 136, 137, 138, 139, 140, 141] rfl (by decide +kernel)
set_option maxRecDepth 20000 in
theorem gX11_init_X4_init_n39 : GoodIn wsX11_init (wsX4_init) := ggX11_init_X4_init
theorem dX11_init_0 : decode cX11_init 0 = .ok (.aload_n 0, 1) := by decide +kernel
theorem dX11_init_1 : decode cX11_init 1 = .ok (.invokespecial 3, 3) := by decide +kernel
theorem dX11_init_4 : decode cX11_init 4 = .ok (.aload_n 0, 1) := by decide +kernel
theorem dX11_init_5 : decode cX11_init 5 = .ok (.new 9, 3) := by decide +kernel
theorem dX11_init_8 : decode cX11_init 8 = .ok (.dup, 1) := by decide +kernel
theorem dX11_init_9 : decode cX11_init 9 = .ok (.invokespecial 11, 3) := by decide +kernel
theorem dX11_init_12 : decode cX11_init 12 = .ok (.putfield 12, 3) := by decide +kernel
theorem dX11_init_15 : decode cX11_init 15 = .ok (.aload_n 0, 1) := by decide +kernel
theorem dX11_init_16 : decode cX11_init 16 = .ok (.new 16, 3) := by decide +kernel
theorem dX11_init_19 : decode cX11_init 19 = .ok (.dup, 1) := by decide +kernel
theorem dX11_init_20 : decode cX11_init 20 = .ok (.invokespecial 18, 3) := by decide +kernel
theorem dX11_init_23 : decode cX11_init 23 = .ok (.putfield 19, 3) := by decide +kernel
theorem dX11_init_26 : decode cX11_init 26 = .ok (.aload_n 0, 1) := by decide +kernel
theorem dX11_init_27 : decode cX11_init 27 = .ok (.new 23, 3) := by decide +kernel
theorem dX11_init_30 : decode cX11_init 30 = .ok (.dup, 1) := by decide +kernel
theorem dX11_init_31 : decode cX11_init 31 = .ok (.invokespecial 25, 3) := by decide +kernel
theorem dX11_init_34 : decode cX11_init 34 = .ok (.putfield 26, 3) := by decide +kernel
theorem dX11_init_37 : decode cX11_init 37 = .ok (.aload_n 0, 1) := by decide +kernel
theorem dX11_init_38 : decode cX11_init 38 = .ok (.new 30, 3) := by decide +kernel
theorem dX11_init_41 : decode cX11_init 41 = .ok (.dup, 1) := by decide +kernel
theorem dX11_init_42 : decode cX11_init 42 = .ok (.invokespecial 32, 3) := by decide +kernel
theorem dX11_init_45 : decode cX11_init 45 = .ok (.putfield 33, 3) := by decide +kernel
theorem dX11_init_48 : decode cX11_init 48 = .ok (.aload_n 0, 1) := by decide +kernel
theorem dX11_init_49 : decode cX11_init 49 = .ok (.new 37, 3) := by decide +kernel
theorem dX11_init_52 : decode cX11_init 52 = .ok (.dup, 1) := by decide +kernel
theorem dX11_init_53 : decode cX11_init 53 = .ok (.invokespecial 39, 3) := by decide +kernel
theorem dX11_init_56 : decode cX11_init 56 = .ok (.putfield 40, 3) := by decide +kernel
theorem dX11_init_59 : decode cX11_init 59 = .ok (.return_, 1) := by decide +kernel
set_option maxRecDepth 20000 in
theorem ggX11_add_X11_isPlace : GoodIn wsX11_add wsX11_isPlace := goodIn_r _ [9] rfl (by decide +kernel)
set_option maxRecDepth 20000 in
theorem gX11_add_X11_isPlace : GoodIn wsX11_add (va_wsS RX11 44 yX11_isPlace wsX11_isPlace) := goodIn_app (goodIn_of _ (by decide +kernel)) ggX11_add_X11_isPlace
set_option maxRecDepth 20000 in
theorem ggX11_add_X1_record : GoodIn wsX11_add wsX1_record := goodIn_r _ [14, 15, 16, 17, 18, 19, 13, 20, 21, 22, 23, 24, 25, 26, 27, 28, 29, 30, 31, 32, 33, 34, 35, 36, 37, 38, 39, 40, 41, 42, 43, 44, 45, 46, 47, 48, 49, 50, 51, 52, 53, 54, 55, 56, 57, 58, 59, 60, 61, 62, 63, 64, 65, 66, 67, 68, 69, 70, 71, 72, 73, 229, 230, 217, 218, 219, 220, 221, 222, 223, 224, 225, 226, 227, 228, 231, 232, 233, 234, 235, 236, 237, 238, 239, 240, 241, 242, 243, 244, 245] rfl (by decide +kernel)
set_option maxRecDepth 20000 in
theorem gX11_add_X1_record : GoodIn wsX11_add (wsV RX11 61 RX1 yX1_record wsX1_record) := goodIn_app (goodIn_of _ (by decide +kernel)) ggX11_add_X1_record
set_option maxRecDepth 20000 in
theorem ggX11_add_X2_addSpan : GoodIn wsX11_add wsX2_addSpan := goodIn_r _ [78, 79, 80, 81, 82, 83, 33, 84, 35, 36, 37, 42, 43, 44, 85, 86, 87, 77, 88, 89, 90, 91, 92, 93, 94, 95, 96, 97, 98, 99, 100, 101, 102, 103, 104, 105, 106, 107, 108, 8, 109, 110, 111, 112, 113, 7, 9, 114, 115, 116, 117, 118, 119, 120, 121, 122, 123, 124, 125, 126, 127, 128, 129, 130, 131, 132, 133, 134, 135, 136, 137, 138, 139, 140, 141, 142, 143, 144, 145, 146, 147, 148, 149, 150, 151, 152, 153, 154, 155, 156, 157, 158, 159, 160, 161, 162, 163, 164, 165, 166, 167, 168, 169, 170, 171, 172, 173, 174, 175, 176, 177, 178, 179, 180, 181, 182, 183, 184, 185, 186, 187, 188, 65, 189, 68, 69, 71, 72, 73, 67, 190, 191, 192, 193, 194, 195, 196, 197, 198, 199, 200, 201, 202, 203, 204, 205, 206, 207, 214, 215, 216, 217, 218, 219, 220, 221, 222, 223, 224, 225, 226, 227, 228, 246, 247, 248, 249, 250, 251, 252, 253, 254, 255, 231, 232, 233, 234, 235, 236, 237, 238, 239, 240, 241, 242, 243, 244, 245] rfl (by decide +kernel)
set_option maxRecDepth 20000 in
theorem gX11_add_X2_addSpan : GoodIn wsX11_add (wsV RX11 65 RX2 yX2_addSpan wsX2_addSpan) := goodIn_app (goodIn_of _ (by decide +kernel)) ggX11_add_X2_addSpan
theorem dX11_add_0 : decode cX11_add 0 = .ok (.iload_n 1, 1) := by decide +kernel
theorem dX11_add_1 : decode cX11_add 1 = .ok (.invokestatic 44, 3) := by decide +kernel
theorem dX11_add_4 : decode cX11_add 4 = .ok (.ifCond .eq 15, 3) := by decide +kernel
theorem dX11_add_7 : decode cX11_add 7 = .ok (.iload_n 2, 1) := by decide +kernel
theorem dX11_add_8 : decode cX11_add 8 = .ok (.invokestatic 44, 3) := by decide +kernel
theorem dX11_add_11 : decode cX11_add 11 = .ok (.ifCond .eq 8, 3) := by decide +kernel
theorem dX11_add_14 : decode cX11_add 14 = .ok (.iload_n 2, 1) := by decide +kernel
theorem dX11_add_15 : decode cX11_add 15 = .ok (.iload_n 1, 1) := by decide +kernel
theorem dX11_add_16 : decode cX11_add 16 = .ok (.if_icmp .ge 6, 3) := by decide +kernel
theorem dX11_add_19 : decode cX11_add 19 = .ok (.bipush (-2), 2) := by decide +kernel
theorem dX11_add_21 : decode cX11_add 21 = .ok (.ireturn, 1) := by decide +kernel
theorem dX11_add_22 : decode cX11_add 22 = .ok (.aload_n 0, 1) := by decide +kernel
theorem dX11_add_23 : decode cX11_add 23 = .ok (.getfield 12, 3) := by decide +kernel
theorem dX11_add_26 : decode cX11_add 26 = .ok (.getfield 48, 3) := by decide +kernel
theorem dX11_add_29 : decode cX11_add 29 = .ok (.getfield 51, 3) := by decide +kernel
theorem dX11_add_32 : decode cX11_add 32 = .ok (.getfield 55, 3) := by decide +kernel
theorem dX11_add_35 : decode cX11_add 35 = .ok (.bipush 60, 2) := by decide +kernel
theorem dX11_add_37 : decode cX11_add 37 = .ok (.if_icmp .lt 6, 3) := by decide +kernel
theorem dX11_add_40 : decode cX11_add 40 = .ok (.bipush (-3), 2) := by decide +kernel
theorem dX11_add_42 : decode cX11_add 42 = .ok (.ireturn, 1) := by decide +kernel
theorem dX11_add_43 : decode cX11_add 43 = .ok (.aload_n 0, 1) := by decide +kernel
theorem dX11_add_44 : decode cX11_add 44 = .ok (.getfield 19, 3) := by decide +kernel
theorem dX11_add_47 : decode cX11_add 47 = .ok (.aload_n 0, 1) := by decide +kernel
theorem dX11_add_48 : decode cX11_add 48 = .ok (.getfield 12, 3) := by decide +kernel
theorem dX11_add_51 : decode cX11_add 51 = .ok (.getfield 48, 3) := by decide +kernel
theorem dX11_add_54 : decode cX11_add 54 = .ok (.invokevirtual 61, 3) := by decide +kernel
theorem dX11_add_57 : decode cX11_add 57 = .ok (.aload_n 0, 1) := by decide +kernel
theorem dX11_add_58 : decode cX11_add 58 = .ok (.getfield 12, 3) := by decide +kernel
theorem dX11_add_61 : decode cX11_add 61 = .ok (.iload_n 1, 1) := by decide +kernel
theorem dX11_add_62 : decode cX11_add 62 = .ok (.iload_n 2, 1) := by decide +kernel
theorem dX11_add_63 : decode cX11_add 63 = .ok (.iconst 1, 1) := by decide +kernel
theorem dX11_add_64 : decode cX11_add 64 = .ok (.iconst 1, 1) := by decide +kernel
theorem dX11_add_65 : decode cX11_add 65 = .ok (.invokevirtual 65, 3) := by decide +kernel
theorem dX11_add_68 : decode cX11_add 68 = .ok (.ireturn, 1) := by decide +kernel
set_option maxRecDepth 20000 in
theorem ggX11_readSpans_X4_readRow : GoodIn wsX11_readSpans wsX4_readRow := goodIn_r _ [17, 18, 19, 20, 21, 22, 23, 16, 24, 25, 26, 27, 28, 29, 30, 31, 32, 33, 34, 35, 36, 37, 38, 39, 40, 41, 42, 43, 44, 45, 46, 47, 48, 49, 50, 51, 52, 279, 280, 281, 282, 283, 284, 285, 286] rfl (by decide +kernel)
set_option maxRecDepth 20000 in
theorem gX11_readSpans_X4_readRow : GoodIn wsX11_readSpans (wsV RX11 69 RX4 yX4_readRow wsX4_readRow) := goodIn_app (goodIn_of _ (by decide +kernel)) ggX11_readSpans_X4_readRow
set_option maxRecDepth 20000 in
theorem ggX11_readSpans_X4_allAreSpans : GoodIn wsX11_readSpans wsX4_allAreSpans := goodIn_r _ [56, 18, 25, 26, 28, 27, 279, 280, 281, 282, 283, 284] rfl (by decide +kernel)
set_option maxRecDepth 20000 in
theorem gX11_readSpans_X4_allAreSpans : GoodIn wsX11_readSpans (wsV RX11 73 RX4 yX4_allAreSpans wsX4_allAreSpans) := goodIn_app (goodIn_of _ (by decide +kernel)) ggX11_readSpans_X4_allAreSpans
set_option maxRecDepth 20000 in
theorem ggX11_readSpans_X1_record : GoodIn wsX11_readSpans wsX1_record := goodIn_r _ [61, 62, 63, 64, 65, 66, 60, 67, 68, 69, 70, 71, 72, 73, 74, 75, 76, 77, 78, 79, 80, 81, 82, 83, 84, 85, 86, 87, 88, 89, 90, 91, 92, 93, 94, 95, 96, 97, 98, 99, 100, 101, 102, 103, 104, 105, 106, 107, 108, 109, 110, 111, 112, 113, 114, 115, 116, 117, 118, 119, 120, 287, 288, 267, 268, 269, 270, 271, 272, 273, 274, 275, 276, 277, 278, 289, 290, 291, 292, 293, 294, 295, 296, 297, 298, 299, 300, 301, 302, 303] rfl (by decide +kernel)
set_option maxRecDepth 20000 in
theorem gX11_readSpans_X1_record : GoodIn wsX11_readSpans (wsV RX11 61 RX1 yX1_record wsX1_record) := goodIn_app (goodIn_of _ (by decide +kernel)) ggX11_readSpans_X1_record
set_option maxRecDepth 20000 in
theorem ggX11_readSpans_X2_addSpan : GoodIn wsX11_readSpans wsX2_addSpan := goodIn_r _ [125, 126, 127, 128, 129, 130, 80, 131, 82, 83, 84, 89, 90, 91, 132, 133, 134, 124, 135, 136, 137, 138, 139, 140, 141, 142, 143, 144, 145, 146, 147, 148, 149, 150, 151, 152, 153, 154, 155, 156, 157, 158, 159, 160, 161, 162, 163, 164, 165, 166, 167, 168, 169, 170, 171, 172, 173, 174, 175, 176, 177, 178, 179, 180, 181, 182, 183, 184, 185, 186, 187, 188, 189, 190, 191, 192, 193, 194, 195, 196, 197, 198, 199, 200, 201, 202, 203, 204, 205, 206, 207, 208, 209, 210, 211, 212, 213, 214, 215, 216, 217, 218, 219, 220, 221, 222, 223, 224, 225, 226, 227, 228, 229, 230, 231, 232, 233, 234, 235, 236, 237, 238, 112, 239, 115, 116, 118, 119, 120, 114, 240, 241, 242, 243, 244, 245, 246, 247, 248, 249, 250, 251, 252, 253, 254, 255, 256, 257, 264, 265, 266, 267, 268, 269, 270, 271, 272, 273, 274, 275, 276, 277, 278, 304, 305, 306, 307, 308, 309, 310, 311, 312, 313, 289, 290, 291, 292, 293, 294, 295, 296, 297, 298, 299, 300, 301, 302, 303] rfl (by decide +kernel)
set_option maxRecDepth 20000 in
theorem gX11_readSpans_X2_addSpan : GoodIn wsX11_readSpans (wsV RX11 65 RX2 yX2_addSpan wsX2_addSpan) := goodIn_app (goodIn_of _ (by decide +kernel)) ggX11_readSpans_X2_addSpan
theorem dX11_readSpans_0 : decode cX11_readSpans 0 = .ok (.aload_n 0, 1) := by decide +kernel
theorem dX11_readSpans_1 : decode cX11_readSpans 1 = .ok (.getfield 40, 3) := by decide +kernel
theorem dX11_readSpans_4 : decode cX11_readSpans 4 = .ok (.aload_n 0, 1) := by decide +kernel
theorem dX11_readSpans_5 : decode cX11_readSpans 5 = .ok (.getfield 33, 3) := by decide +kernel
theorem dX11_readSpans_8 : decode cX11_readSpans 8 = .ok (.invokevirtual 69, 3) := by decide +kernel
theorem dX11_readSpans_11 : decode cX11_readSpans 11 = .ok (.istore_n 1, 1) := by decide +kernel
theorem dX11_readSpans_12 : decode cX11_readSpans 12 = .ok (.iload_n 1, 1) := by decide +kernel
theorem dX11_readSpans_13 : decode cX11_readSpans 13 = .ok (.iconst (-1), 1) := by decide +kernel
theorem dX11_readSpans_14 : decode cX11_readSpans 14 = .ok (.if_icmp .eq 8, 3) := by decide +kernel
theorem dX11_readSpans_17 : decode cX11_readSpans 17 = .ok (.bipush (-100), 2) := by decide +kernel
theorem dX11_readSpans_19 : decode cX11_readSpans 19 = .ok (.iload_n 1, 1) := by decide +kernel
theorem dX11_readSpans_20 : decode cX11_readSpans 20 = .ok (.isub, 1) := by decide +kernel
theorem dX11_readSpans_21 : decode cX11_readSpans 21 = .ok (.ireturn, 1) := by decide +kernel
theorem dX11_readSpans_22 : decode cX11_readSpans 22 = .ok (.aload_n 0, 1) := by decide +kernel
theorem dX11_readSpans_23 : decode cX11_readSpans 23 = .ok (.getfield 40, 3) := by decide +kernel
theorem dX11_readSpans_26 : decode cX11_readSpans 26 = .ok (.invokevirtual 73, 3) := by decide +kernel
theorem dX11_readSpans_29 : decode cX11_readSpans 29 = .ok (.ifCond .ne 6, 3) := by decide +kernel
theorem dX11_readSpans_32 : decode cX11_readSpans 32 = .ok (.bipush (-2), 2) := by decide +kernel
theorem dX11_readSpans_34 : decode cX11_readSpans 34 = .ok (.ireturn, 1) := by decide +kernel
theorem dX11_readSpans_35 : decode cX11_readSpans 35 = .ok (.aload_n 0, 1) := by decide +kernel
theorem dX11_readSpans_36 : decode cX11_readSpans 36 = .ok (.getfield 12, 3) := by decide +kernel
theorem dX11_readSpans_39 : decode cX11_readSpans 39 = .ok (.getfield 48, 3) := by decide +kernel
theorem dX11_readSpans_42 : decode cX11_readSpans 42 = .ok (.getfield 51, 3) := by decide +kernel
theorem dX11_readSpans_45 : decode cX11_readSpans 45 = .ok (.getfield 55, 3) := by decide +kernel
theorem dX11_readSpans_48 : decode cX11_readSpans 48 = .ok (.aload_n 0, 1) := by decide +kernel
theorem dX11_readSpans_49 : decode cX11_readSpans 49 = .ok (.getfield 40, 3) := by decide +kernel
theorem dX11_readSpans_52 : decode cX11_readSpans 52 = .ok (.getfield 77, 3) := by decide +kernel
theorem dX11_readSpans_55 : decode cX11_readSpans 55 = .ok (.iadd, 1) := by decide +kernel
theorem dX11_readSpans_56 : decode cX11_readSpans 56 = .ok (.bipush 60, 2) := by decide +kernel
theorem dX11_readSpans_58 : decode cX11_readSpans 58 = .ok (.if_icmp .le 6, 3) := by decide +kernel
theorem dX11_readSpans_61 : decode cX11_readSpans 61 = .ok (.bipush (-3), 2) := by decide +kernel
theorem dX11_readSpans_63 : decode cX11_readSpans 63 = .ok (.ireturn, 1) := by decide +kernel
theorem dX11_readSpans_64 : decode cX11_readSpans 64 = .ok (.aload_n 0, 1) := by decide +kernel
theorem dX11_readSpans_65 : decode cX11_readSpans 65 = .ok (.getfield 19, 3) := by decide +kernel
theorem dX11_readSpans_68 : decode cX11_readSpans 68 = .ok (.aload_n 0, 1) := by decide +kernel
theorem dX11_readSpans_69 : decode cX11_readSpans 69 = .ok (.getfield 12, 3) := by decide +kernel
theorem dX11_readSpans_72 : decode cX11_readSpans 72 = .ok (.getfield 48, 3) := by decide +kernel
theorem dX11_readSpans_75 : decode cX11_readSpans 75 = .ok (.invokevirtual 61, 3) := by decide +kernel
theorem dX11_readSpans_78 : decode cX11_readSpans 78 = .ok (.iconst 0, 1) := by decide +kernel
theorem dX11_readSpans_79 : decode cX11_readSpans 79 = .ok (.istore_n 2, 1) := by decide +kernel
theorem dX11_readSpans_80 : decode cX11_readSpans 80 = .ok (.iload_n 2, 1) := by decide +kernel
theorem dX11_readSpans_81 : decode cX11_readSpans 81 = .ok (.aload_n 0, 1) := by decide +kernel
theorem dX11_readSpans_82 : decode cX11_readSpans 82 = .ok (.getfield 40, 3) := by decide +kernel
theorem dX11_readSpans_85 : decode cX11_readSpans 85 = .ok (.getfield 77, 3) := by decide +kernel
theorem dX11_readSpans_88 : decode cX11_readSpans 88 = .ok (.if_icmp .ge 53, 3) := by decide +kernel
theorem dX11_readSpans_91 : decode cX11_readSpans 91 = .ok (.aload_n 0, 1) := by decide +kernel
theorem dX11_readSpans_92 : decode cX11_readSpans 92 = .ok (.getfield 12, 3) := by decide +kernel
theorem dX11_readSpans_95 : decode cX11_readSpans 95 = .ok (.aload_n 0, 1) := by decide +kernel
theorem dX11_readSpans_96 : decode cX11_readSpans 96 = .ok (.getfield 40, 3) := by decide +kernel
theorem dX11_readSpans_99 : decode cX11_readSpans 99 = .ok (.getfield 78, 3) := by decide +kernel
theorem dX11_readSpans_102 : decode cX11_readSpans 102 = .ok (.iload_n 2, 1) := by decide +kernel
theorem dX11_readSpans_103 : decode cX11_readSpans 103 = .ok (.iaload, 1) := by decide +kernel
theorem dX11_readSpans_104 : decode cX11_readSpans 104 = .ok (.aload_n 0, 1) := by decide +kernel
theorem dX11_readSpans_105 : decode cX11_readSpans 105 = .ok (.getfield 40, 3) := by decide +kernel
theorem dX11_readSpans_108 : decode cX11_readSpans 108 = .ok (.getfield 82, 3) := by decide +kernel
theorem dX11_readSpans_111 : decode cX11_readSpans 111 = .ok (.iload_n 2, 1) := by decide +kernel
theorem dX11_readSpans_112 : decode cX11_readSpans 112 = .ok (.iaload, 1) := by decide +kernel
theorem dX11_readSpans_113 : decode cX11_readSpans 113 = .ok (.aload_n 0, 1) := by decide +kernel
theorem dX11_readSpans_114 : decode cX11_readSpans 114 = .ok (.getfield 40, 3) := by decide +kernel
theorem dX11_readSpans_117 : decode cX11_readSpans 117 = .ok (.getfield 85, 3) := by decide +kernel
theorem dX11_readSpans_120 : decode cX11_readSpans 120 = .ok (.iload_n 2, 1) := by decide +kernel
theorem dX11_readSpans_121 : decode cX11_readSpans 121 = .ok (.baload, 1) := by decide +kernel
theorem dX11_readSpans_122 : decode cX11_readSpans 122 = .ok (.aload_n 0, 1) := by decide +kernel
theorem dX11_readSpans_123 : decode cX11_readSpans 123 = .ok (.getfield 40, 3) := by decide +kernel
theorem dX11_readSpans_126 : decode cX11_readSpans 126 = .ok (.getfield 89, 3) := by decide +kernel
theorem dX11_readSpans_129 : decode cX11_readSpans 129 = .ok (.iload_n 2, 1) := by decide +kernel
theorem dX11_readSpans_130 : decode cX11_readSpans 130 = .ok (.baload, 1) := by decide +kernel
theorem dX11_readSpans_131 : decode cX11_readSpans 131 = .ok (.invokevirtual 65, 3) := by decide +kernel
theorem dX11_readSpans_134 : decode cX11_readSpans 134 = .ok (.pop, 1) := by decide +kernel
theorem dX11_readSpans_135 : decode cX11_readSpans 135 = .ok (.iinc 2 1, 3) := by decide +kernel
theorem dX11_readSpans_138 : decode cX11_readSpans 138 = .ok (.goto (-58), 3) := by decide +kernel
theorem dX11_readSpans_141 : decode cX11_readSpans 141 = .ok (.aload_n 0, 1) := by decide +kernel
theorem dX11_readSpans_142 : decode cX11_readSpans 142 = .ok (.getfield 40, 3) := by decide +kernel
theorem dX11_readSpans_145 : decode cX11_readSpans 145 = .ok (.getfield 77, 3) := by decide +kernel
theorem dX11_readSpans_148 : decode cX11_readSpans 148 = .ok (.ireturn, 1) := by decide +kernel
set_option maxRecDepth 20000 in
theorem ggX11_remove_X5_has : GoodIn wsX11_remove wsX5_has := goodIn_r _ [9, 10, 11, 12, 13, 8, 14, 15, 16, 17, 18, 225, 226, 227, 228, 229, 230, 231, 232] rfl (by decide +kernel)
set_option maxRecDepth 20000 in
theorem gX11_remove_X5_has : GoodIn wsX11_remove (wsV RX11 92 RX5 yX5_has wsX5_has) := goodIn_app (goodIn_of _ (by decide +kernel)) ggX11_remove_X5_has
set_option maxRecDepth 20000 in
theorem ggX11_remove_X1_record : GoodIn wsX11_remove wsX1_record := goodIn_r _ [23, 24, 25, 26, 27, 28, 22, 29, 30, 31, 32, 33, 34, 35, 36, 37, 38, 39, 40, 41, 8, 42, 10, 15, 43, 44, 45, 46, 47, 48, 49, 50, 51, 52, 53, 54, 55, 56, 57, 58, 59, 60, 61, 62, 63, 64, 65, 66, 67, 68, 69, 70, 71, 72, 73, 74, 75, 76, 77, 78, 79, 233, 234, 221, 222, 223, 224, 225, 226, 227, 228, 229, 230, 231, 232, 235, 236, 237, 238, 239, 240, 241, 242, 243, 244, 245, 246, 247, 248, 249] rfl (by decide +kernel)
set_option maxRecDepth 20000 in
theorem gX11_remove_X1_record : GoodIn wsX11_remove (wsV RX11 61 RX1 yX1_record wsX1_record) := goodIn_app (goodIn_of _ (by decide +kernel)) ggX11_remove_X1_record
set_option maxRecDepth 20000 in
theorem ggX11_remove_X2_removeSpan : GoodIn wsX11_remove wsX2_removeSpan := goodIn_r _ [84, 85, 86, 87, 88, 89, 8, 90, 15, 91, 92, 93, 94, 83, 95, 96, 97, 98, 99, 100, 101, 102, 103, 104, 105, 106, 107, 108, 109, 110, 111, 12, 13, 14, 16, 17, 18, 112, 113, 114, 115, 116, 117, 118, 119, 120, 121, 122, 123, 124, 125, 126, 127, 128, 129, 130, 131, 132, 133, 134, 135, 136, 137, 138, 139, 140, 141, 142, 143, 144, 145, 146, 147, 148, 149, 150, 151, 152, 153, 154, 155, 156, 157, 158, 159, 160, 161, 162, 163, 164, 165, 166, 167, 168, 169, 170, 171, 172, 173, 174, 175, 176, 177, 178, 179, 180, 181, 182, 183, 184, 185, 186, 187, 188, 189, 190, 191, 192, 71, 193, 74, 75, 77, 78, 79, 73, 194, 195, 196, 197, 198, 199, 200, 201, 202, 203, 204, 205, 206, 207, 208, 209, 210, 211, 218, 219, 220, 221, 222, 223, 224, 225, 226, 227, 228, 229, 230, 231, 232, 250, 251, 252, 253, 254, 255, 256, 257, 258, 259, 235, 236, 237, 238, 239, 240, 241, 242, 243, 244, 245, 246, 247, 248, 249] rfl (by decide +kernel)
set_option maxRecDepth 20000 in
theorem gX11_remove_X2_removeSpan : GoodIn wsX11_remove (wsV RX11 95 RX2 yX2_removeSpan wsX2_removeSpan) := goodIn_app (goodIn_of _ (by decide +kernel)) ggX11_remove_X2_removeSpan
theorem dX11_remove_0 : decode cX11_remove 0 = .ok (.aload_n 0, 1) := by decide +kernel
theorem dX11_remove_1 : decode cX11_remove 1 = .ok (.getfield 12, 3) := by decide +kernel
theorem dX11_remove_4 : decode cX11_remove 4 = .ok (.getfield 48, 3) := by decide +kernel
theorem dX11_remove_7 : decode cX11_remove 7 = .ok (.getfield 51, 3) := by decide +kernel
theorem dX11_remove_10 : decode cX11_remove 10 = .ok (.iload_n 1, 1) := by decide +kernel
theorem dX11_remove_11 : decode cX11_remove 11 = .ok (.invokevirtual 92, 3) := by decide +kernel
theorem dX11_remove_14 : decode cX11_remove 14 = .ok (.ifCond .ne 5, 3) := by decide +kernel
theorem dX11_remove_17 : decode cX11_remove 17 = .ok (.iconst (-1), 1) := by decide +kernel
theorem dX11_remove_18 : decode cX11_remove 18 = .ok (.ireturn, 1) := by decide +kernel
theorem dX11_remove_19 : decode cX11_remove 19 = .ok (.aload_n 0, 1) := by decide +kernel
theorem dX11_remove_20 : decode cX11_remove 20 = .ok (.getfield 19, 3) := by decide +kernel
theorem dX11_remove_23 : decode cX11_remove 23 = .ok (.aload_n 0, 1) := by decide +kernel
theorem dX11_remove_24 : decode cX11_remove 24 = .ok (.getfield 12, 3) := by decide +kernel
theorem dX11_remove_27 : decode cX11_remove 27 = .ok (.getfield 48, 3) := by decide +kernel
theorem dX11_remove_30 : decode cX11_remove 30 = .ok (.invokevirtual 61, 3) := by decide +kernel
theorem dX11_remove_33 : decode cX11_remove 33 = .ok (.aload_n 0, 1) := by decide +kernel
theorem dX11_remove_34 : decode cX11_remove 34 = .ok (.getfield 12, 3) := by decide +kernel
theorem dX11_remove_37 : decode cX11_remove 37 = .ok (.iload_n 1, 1) := by decide +kernel
theorem dX11_remove_38 : decode cX11_remove 38 = .ok (.invokevirtual 95, 3) := by decide +kernel
theorem dX11_remove_41 : decode cX11_remove 41 = .ok (.ireturn, 1) := by decide +kernel
set_option maxRecDepth 20000 in
theorem ggX11_move_X5_has : GoodIn wsX11_move wsX5_has := goodIn_r _ [11, 12, 13, 14, 15, 10, 16, 17, 18, 19, 20, 227, 228, 229, 230, 231, 232, 233, 234] rfl (by decide +kernel)
set_option maxRecDepth 20000 in
theorem gX11_move_X5_has : GoodIn wsX11_move (wsV RX11 92 RX5 yX5_has wsX5_has) := goodIn_app (goodIn_of _ (by decide +kernel)) ggX11_move_X5_has
set_option maxRecDepth 20000 in
theorem ggX11_move_X11_isPlace : GoodIn wsX11_move wsX11_isPlace := goodIn_r _ [23] rfl (by decide +kernel)
set_option maxRecDepth 20000 in
theorem gX11_move_X11_isPlace : GoodIn wsX11_move (va_wsS RX11 44 yX11_isPlace wsX11_isPlace) := goodIn_app (goodIn_of _ (by decide +kernel)) ggX11_move_X11_isPlace
set_option maxRecDepth 20000 in
theorem ggX11_move_X1_record : GoodIn wsX11_move wsX1_record := goodIn_r _ [28, 29, 30, 31, 32, 33, 27, 34, 35, 36, 37, 38, 39, 40, 41, 42, 43, 44, 45, 46, 10, 47, 12, 17, 48, 49, 50, 51, 52, 53, 54, 55, 56, 57, 58, 59, 60, 61, 62, 63, 64, 65, 66, 67, 68, 69, 70, 71, 72, 73, 74, 75, 76, 77, 78, 79, 80, 81, 82, 83, 84, 235, 236, 223, 224, 225, 226, 227, 228, 229, 230, 231, 232, 233, 234, 237, 238, 239, 240, 241, 242, 243, 244, 245, 246, 247, 248, 249, 250, 251] rfl (by decide +kernel)
set_option maxRecDepth 20000 in
theorem gX11_move_X1_record : GoodIn wsX11_move (wsV RX11 61 RX1 yX1_record wsX1_record) := goodIn_app (goodIn_of _ (by decide +kernel)) ggX11_move_X1_record
set_option maxRecDepth 20000 in
theorem ggX11_move_X2_moveSpan : GoodIn wsX11_move wsX2_moveSpan := goodIn_r _ [89, 90, 91, 92, 93, 94, 10, 95, 48, 53, 54, 55, 96, 97, 98, 88, 99, 100, 101, 102, 103, 104, 105, 106, 107, 108, 109, 110, 111, 112, 113, 114, 115, 14, 15, 16, 17, 18, 19, 20, 116, 117, 118, 119, 22, 23, 120, 121, 122, 123, 124, 125, 126, 127, 128, 129, 130, 131, 132, 133, 134, 135, 136, 137, 138, 139, 140, 141, 142, 143, 144, 145, 146, 147, 148, 149, 150, 151, 152, 153, 154, 155, 156, 157, 158, 159, 160, 161, 162, 163, 164, 165, 166, 167, 168, 169, 170, 171, 172, 173, 174, 175, 176, 177, 178, 179, 180, 181, 182, 183, 184, 185, 186, 187, 188, 189, 190, 191, 192, 193, 194, 76, 195, 79, 80, 82, 83, 84, 78, 196, 197, 198, 199, 200, 201, 202, 203, 204, 205, 206, 207, 208, 209, 210, 211, 212, 213, 220, 221, 222, 223, 224, 225, 226, 227, 228, 229, 230, 231, 232, 233, 234, 252, 253, 254, 255, 256, 257, 258, 259, 260, 261, 237, 238, 239, 240, 241, 242, 243, 244, 245, 246, 247, 248, 249, 250, 251] rfl (by decide +kernel)
set_option maxRecDepth 20000 in
theorem gX11_move_X2_moveSpan : GoodIn wsX11_move (wsV RX11 101 RX2 yX2_moveSpan wsX2_moveSpan) := goodIn_app (goodIn_of _ (by decide +kernel)) ggX11_move_X2_moveSpan
theorem dX11_move_0 : decode cX11_move 0 = .ok (.aload_n 0, 1) := by decide +kernel
theorem dX11_move_1 : decode cX11_move 1 = .ok (.getfield 12, 3) := by decide +kernel
theorem dX11_move_4 : decode cX11_move 4 = .ok (.getfield 48, 3) := by decide +kernel
theorem dX11_move_7 : decode cX11_move 7 = .ok (.getfield 51, 3) := by decide +kernel
theorem dX11_move_10 : decode cX11_move 10 = .ok (.astore_n 3, 1) := by decide +kernel
theorem dX11_move_11 : decode cX11_move 11 = .ok (.aload_n 3, 1) := by decide +kernel
theorem dX11_move_12 : decode cX11_move 12 = .ok (.iload_n 1, 1) := by decide +kernel
theorem dX11_move_13 : decode cX11_move 13 = .ok (.invokevirtual 92, 3) := by decide +kernel
theorem dX11_move_16 : decode cX11_move 16 = .ok (.ifCond .ne 5, 3) := by decide +kernel
theorem dX11_move_19 : decode cX11_move 19 = .ok (.iconst (-1), 1) := by decide +kernel
theorem dX11_move_20 : decode cX11_move 20 = .ok (.ireturn, 1) := by decide +kernel
theorem dX11_move_21 : decode cX11_move 21 = .ok (.iload_n 2, 1) := by decide +kernel
theorem dX11_move_22 : decode cX11_move 22 = .ok (.sipush (-1000), 3) := by decide +kernel
theorem dX11_move_25 : decode cX11_move 25 = .ok (.if_icmp .lt 14, 3) := by decide +kernel
theorem dX11_move_28 : decode cX11_move 28 = .ok (.iload_n 2, 1) := by decide +kernel
theorem dX11_move_29 : decode cX11_move 29 = .ok (.sipush 1000, 3) := by decide +kernel
theorem dX11_move_32 : decode cX11_move 32 = .ok (.if_icmp .gt 7, 3) := by decide +kernel
theorem dX11_move_35 : decode cX11_move 35 = .ok (.iload_n 2, 1) := by decide +kernel
theorem dX11_move_36 : decode cX11_move 36 = .ok (.ifCond .ne 6, 3) := by decide +kernel
theorem dX11_move_39 : decode cX11_move 39 = .ok (.bipush (-2), 2) := by decide +kernel
theorem dX11_move_41 : decode cX11_move 41 = .ok (.ireturn, 1) := by decide +kernel
theorem dX11_move_42 : decode cX11_move 42 = .ok (.aload_n 3, 1) := by decide +kernel
theorem dX11_move_43 : decode cX11_move 43 = .ok (.getfield 99, 3) := by decide +kernel
theorem dX11_move_46 : decode cX11_move 46 = .ok (.iload_n 1, 1) := by decide +kernel
theorem dX11_move_47 : decode cX11_move 47 = .ok (.iaload, 1) := by decide +kernel
theorem dX11_move_48 : decode cX11_move 48 = .ok (.iload_n 2, 1) := by decide +kernel
theorem dX11_move_49 : decode cX11_move 49 = .ok (.iadd, 1) := by decide +kernel
theorem dX11_move_50 : decode cX11_move 50 = .ok (.invokestatic 44, 3) := by decide +kernel
theorem dX11_move_53 : decode cX11_move 53 = .ok (.ifCond .eq 17, 3) := by decide +kernel
theorem dX11_move_56 : decode cX11_move 56 = .ok (.aload_n 3, 1) := by decide +kernel
theorem dX11_move_57 : decode cX11_move 57 = .ok (.getfield 100, 3) := by decide +kernel
theorem dX11_move_60 : decode cX11_move 60 = .ok (.iload_n 1, 1) := by decide +kernel
theorem dX11_move_61 : decode cX11_move 61 = .ok (.iaload, 1) := by decide +kernel
theorem dX11_move_62 : decode cX11_move 62 = .ok (.iload_n 2, 1) := by decide +kernel
theorem dX11_move_63 : decode cX11_move 63 = .ok (.iadd, 1) := by decide +kernel
theorem dX11_move_64 : decode cX11_move 64 = .ok (.invokestatic 44, 3) := by decide +kernel
theorem dX11_move_67 : decode cX11_move 67 = .ok (.ifCond .ne 6, 3) := by decide +kernel
theorem dX11_move_70 : decode cX11_move 70 = .ok (.bipush (-4), 2) := by decide +kernel
theorem dX11_move_72 : decode cX11_move 72 = .ok (.ireturn, 1) := by decide +kernel
theorem dX11_move_73 : decode cX11_move 73 = .ok (.aload_n 0, 1) := by decide +kernel
theorem dX11_move_74 : decode cX11_move 74 = .ok (.getfield 19, 3) := by decide +kernel
theorem dX11_move_77 : decode cX11_move 77 = .ok (.aload_n 0, 1) := by decide +kernel
theorem dX11_move_78 : decode cX11_move 78 = .ok (.getfield 12, 3) := by decide +kernel
theorem dX11_move_81 : decode cX11_move 81 = .ok (.getfield 48, 3) := by decide +kernel
theorem dX11_move_84 : decode cX11_move 84 = .ok (.invokevirtual 61, 3) := by decide +kernel
theorem dX11_move_87 : decode cX11_move 87 = .ok (.aload_n 0, 1) := by decide +kernel
theorem dX11_move_88 : decode cX11_move 88 = .ok (.getfield 12, 3) := by decide +kernel
theorem dX11_move_91 : decode cX11_move 91 = .ok (.iload_n 1, 1) := by decide +kernel
theorem dX11_move_92 : decode cX11_move 92 = .ok (.iload_n 2, 1) := by decide +kernel
theorem dX11_move_93 : decode cX11_move 93 = .ok (.invokevirtual 101, 3) := by decide +kernel
theorem dX11_move_96 : decode cX11_move 96 = .ok (.ireturn, 1) := by decide +kernel
set_option maxRecDepth 20000 in
theorem ggX11_come_X11_isPlace : GoodIn wsX11_come wsX11_isPlace := goodIn_r _ [9] rfl (by decide +kernel)
set_option maxRecDepth 20000 in
theorem gX11_come_X11_isPlace : GoodIn wsX11_come (va_wsS RX11 44 yX11_isPlace wsX11_isPlace) := goodIn_app (goodIn_of _ (by decide +kernel)) ggX11_come_X11_isPlace
set_option maxRecDepth 20000 in
theorem ggX11_come_X11_isSpeed : GoodIn wsX11_come wsX11_isSpeed := goodIn_r _ [12] rfl (by decide +kernel)
set_option maxRecDepth 20000 in
theorem gX11_come_X11_isSpeed : GoodIn wsX11_come (va_wsS RX11 105 yX11_isSpeed wsX11_isSpeed) := goodIn_app (goodIn_of _ (by decide +kernel)) ggX11_come_X11_isSpeed
set_option maxRecDepth 20000 in
theorem ggX11_come_X1_record : GoodIn wsX11_come wsX1_record := goodIn_r _ [17, 18, 19, 20, 21, 22, 16, 23, 24, 25, 26, 27, 28, 29, 30, 31, 32, 33, 34, 35, 36, 37, 38, 39, 40, 41, 42, 43, 44, 45, 46, 47, 48, 49, 50, 51, 52, 53, 54, 55, 56, 57, 58, 59, 60, 61, 62, 63, 64, 65, 66, 67, 68, 69, 70, 71, 72, 73, 74, 75, 76, 162, 163, 149, 150, 151, 152, 164, 165, 166, 167, 168, 169, 170, 171, 153, 154, 155, 156, 157, 158, 159, 160, 161, 172, 173, 174, 175, 176, 177] rfl (by decide +kernel)
set_option maxRecDepth 20000 in
theorem gX11_come_X1_record : GoodIn wsX11_come (wsV RX11 61 RX1 yX1_record wsX1_record) := goodIn_app (goodIn_of _ (by decide +kernel)) ggX11_come_X1_record
set_option maxRecDepth 20000 in
theorem ggX11_come_X2_addWalker : GoodIn wsX11_come wsX2_addWalker := goodIn_r _ [81, 82, 83, 84, 85, 86, 53, 87, 55, 56, 58, 88, 89, 90, 80, 91, 92, 93, 94, 95, 96, 97, 98, 99, 100, 101, 102, 103, 104, 105, 106, 107, 108, 7, 8, 9, 109, 110, 111, 112, 113, 114, 115, 116, 117, 118, 119, 120, 68, 121, 71, 72, 74, 75, 76, 70, 122, 123, 124, 125, 126, 127, 128, 129, 130, 131, 132, 133, 134, 135, 136, 137, 138, 139, 146, 147, 148, 149, 150, 151, 152, 153, 154, 155, 156, 157, 158, 159, 160, 161, 164, 165, 166, 167, 168, 169, 170, 171, 178, 172, 173, 174, 175, 176, 177] rfl (by decide +kernel)
set_option maxRecDepth 20000 in
theorem gX11_come_X2_addWalker : GoodIn wsX11_come (wsV RX11 115 RX2 yX2_addWalker wsX2_addWalker) := goodIn_app (goodIn_of _ (by decide +kernel)) ggX11_come_X2_addWalker
theorem dX11_come_0 : decode cX11_come 0 = .ok (.iload_n 1, 1) := by decide +kernel
theorem dX11_come_1 : decode cX11_come 1 = .ok (.invokestatic 44, 3) := by decide +kernel
theorem dX11_come_4 : decode cX11_come 4 = .ok (.ifCond .eq 10, 3) := by decide +kernel
theorem dX11_come_7 : decode cX11_come 7 = .ok (.iload_n 2, 1) := by decide +kernel
theorem dX11_come_8 : decode cX11_come 8 = .ok (.invokestatic 105, 3) := by decide +kernel
theorem dX11_come_11 : decode cX11_come 11 = .ok (.ifCond .ne 6, 3) := by decide +kernel
theorem dX11_come_14 : decode cX11_come 14 = .ok (.bipush (-2), 2) := by decide +kernel
theorem dX11_come_16 : decode cX11_come 16 = .ok (.ireturn, 1) := by decide +kernel
theorem dX11_come_17 : decode cX11_come 17 = .ok (.aload_n 0, 1) := by decide +kernel
theorem dX11_come_18 : decode cX11_come 18 = .ok (.getfield 12, 3) := by decide +kernel
theorem dX11_come_21 : decode cX11_come 21 = .ok (.getfield 48, 3) := by decide +kernel
theorem dX11_come_24 : decode cX11_come 24 = .ok (.getfield 108, 3) := by decide +kernel
theorem dX11_come_27 : decode cX11_come 27 = .ok (.getfield 112, 3) := by decide +kernel
theorem dX11_come_30 : decode cX11_come 30 = .ok (.bipush 6, 2) := by decide +kernel
theorem dX11_come_32 : decode cX11_come 32 = .ok (.if_icmp .lt 6, 3) := by decide +kernel
theorem dX11_come_35 : decode cX11_come 35 = .ok (.bipush (-3), 2) := by decide +kernel
theorem dX11_come_37 : decode cX11_come 37 = .ok (.ireturn, 1) := by decide +kernel
theorem dX11_come_38 : decode cX11_come 38 = .ok (.aload_n 0, 1) := by decide +kernel
theorem dX11_come_39 : decode cX11_come 39 = .ok (.getfield 19, 3) := by decide +kernel
theorem dX11_come_42 : decode cX11_come 42 = .ok (.aload_n 0, 1) := by decide +kernel
theorem dX11_come_43 : decode cX11_come 43 = .ok (.getfield 12, 3) := by decide +kernel
theorem dX11_come_46 : decode cX11_come 46 = .ok (.getfield 48, 3) := by decide +kernel
theorem dX11_come_49 : decode cX11_come 49 = .ok (.invokevirtual 61, 3) := by decide +kernel
theorem dX11_come_52 : decode cX11_come 52 = .ok (.aload_n 0, 1) := by decide +kernel
theorem dX11_come_53 : decode cX11_come 53 = .ok (.getfield 12, 3) := by decide +kernel
theorem dX11_come_56 : decode cX11_come 56 = .ok (.iload_n 1, 1) := by decide +kernel
theorem dX11_come_57 : decode cX11_come 57 = .ok (.iload_n 2, 1) := by decide +kernel
theorem dX11_come_58 : decode cX11_come 58 = .ok (.invokevirtual 115, 3) := by decide +kernel
theorem dX11_come_61 : decode cX11_come 61 = .ok (.ireturn, 1) := by decide +kernel
set_option maxRecDepth 20000 in
theorem ggX11_put_X9_has : GoodIn wsX11_put wsX9_has := goodIn_r _ [10, 11, 145, 146, 147, 148, 149, 150, 151, 152, 153] rfl (by decide +kernel)
set_option maxRecDepth 20000 in
theorem gX11_put_X9_has : GoodIn wsX11_put (wsV RX11 118 RX9 yX9_has wsX9_has) := goodIn_app (goodIn_of _ (by decide +kernel)) ggX11_put_X9_has
set_option maxRecDepth 20000 in
theorem ggX11_put_X11_isPlace : GoodIn wsX11_put wsX11_isPlace := goodIn_r _ [15] rfl (by decide +kernel)
set_option maxRecDepth 20000 in
theorem gX11_put_X11_isPlace : GoodIn wsX11_put (va_wsS RX11 44 yX11_isPlace wsX11_isPlace) := goodIn_app (goodIn_of _ (by decide +kernel)) ggX11_put_X11_isPlace
set_option maxRecDepth 20000 in
theorem ggX11_put_X1_record : GoodIn wsX11_put wsX1_record := goodIn_r _ [20, 21, 22, 23, 24, 25, 19, 26, 27, 28, 29, 30, 31, 32, 33, 34, 35, 36, 37, 38, 39, 40, 41, 42, 43, 44, 45, 46, 47, 48, 49, 50, 51, 52, 53, 54, 55, 9, 56, 11, 57, 58, 59, 60, 61, 62, 63, 64, 65, 66, 67, 68, 69, 70, 71, 72, 73, 74, 75, 76, 77, 154, 155, 141, 142, 143, 144, 156, 157, 158, 159, 160, 161, 162, 163, 145, 146, 147, 148, 149, 150, 151, 152, 153, 164, 165, 166, 167, 168, 169] rfl (by decide +kernel)
set_option maxRecDepth 20000 in
theorem gX11_put_X1_record : GoodIn wsX11_put (wsV RX11 61 RX1 yX1_record wsX1_record) := goodIn_app (goodIn_of _ (by decide +kernel)) ggX11_put_X1_record
set_option maxRecDepth 20000 in
theorem ggX11_put_X2_putWalker : GoodIn wsX11_put wsX2_putWalker := goodIn_r _ [82, 83, 84, 85, 86, 87, 88, 81, 89, 90, 91, 92, 93, 94, 95, 96, 97, 98, 99, 100, 13, 14, 15, 101, 102, 103, 104, 105, 106, 107, 108, 109, 110, 111, 112, 69, 113, 72, 73, 75, 76, 77, 71, 114, 115, 116, 117, 118, 119, 120, 121, 122, 123, 124, 125, 126, 127, 128, 129, 130, 131, 138, 139, 140, 141, 142, 143, 144, 145, 146, 147, 148, 149, 150, 151, 152, 153, 156, 157, 158, 159, 160, 161, 162, 163, 170, 164, 165, 166, 167, 168, 169] rfl (by decide +kernel)
set_option maxRecDepth 20000 in
theorem gX11_put_X2_putWalker : GoodIn wsX11_put (wsV RX11 122 RX2 yX2_putWalker wsX2_putWalker) := goodIn_app (goodIn_of _ (by decide +kernel)) ggX11_put_X2_putWalker
theorem dX11_put_0 : decode cX11_put 0 = .ok (.aload_n 0, 1) := by decide +kernel
theorem dX11_put_1 : decode cX11_put 1 = .ok (.getfield 12, 3) := by decide +kernel
theorem dX11_put_4 : decode cX11_put 4 = .ok (.getfield 48, 3) := by decide +kernel
theorem dX11_put_7 : decode cX11_put 7 = .ok (.getfield 108, 3) := by decide +kernel
theorem dX11_put_10 : decode cX11_put 10 = .ok (.astore_n 3, 1) := by decide +kernel
theorem dX11_put_11 : decode cX11_put 11 = .ok (.aload_n 3, 1) := by decide +kernel
theorem dX11_put_12 : decode cX11_put 12 = .ok (.iload_n 1, 1) := by decide +kernel
theorem dX11_put_13 : decode cX11_put 13 = .ok (.invokevirtual 118, 3) := by decide +kernel
theorem dX11_put_16 : decode cX11_put 16 = .ok (.ifCond .ne 5, 3) := by decide +kernel
theorem dX11_put_19 : decode cX11_put 19 = .ok (.iconst (-1), 1) := by decide +kernel
theorem dX11_put_20 : decode cX11_put 20 = .ok (.ireturn, 1) := by decide +kernel
theorem dX11_put_21 : decode cX11_put 21 = .ok (.iload_n 2, 1) := by decide +kernel
theorem dX11_put_22 : decode cX11_put 22 = .ok (.invokestatic 44, 3) := by decide +kernel
theorem dX11_put_25 : decode cX11_put 25 = .ok (.ifCond .ne 6, 3) := by decide +kernel
theorem dX11_put_28 : decode cX11_put 28 = .ok (.bipush (-2), 2) := by decide +kernel
theorem dX11_put_30 : decode cX11_put 30 = .ok (.ireturn, 1) := by decide +kernel
theorem dX11_put_31 : decode cX11_put 31 = .ok (.aload_n 3, 1) := by decide +kernel
theorem dX11_put_32 : decode cX11_put 32 = .ok (.getfield 119, 3) := by decide +kernel
theorem dX11_put_35 : decode cX11_put 35 = .ok (.iload_n 1, 1) := by decide +kernel
theorem dX11_put_36 : decode cX11_put 36 = .ok (.iaload, 1) := by decide +kernel
theorem dX11_put_37 : decode cX11_put 37 = .ok (.iload_n 2, 1) := by decide +kernel
theorem dX11_put_38 : decode cX11_put 38 = .ok (.if_icmp .ne 6, 3) := by decide +kernel
theorem dX11_put_41 : decode cX11_put 41 = .ok (.bipush (-5), 2) := by decide +kernel
theorem dX11_put_43 : decode cX11_put 43 = .ok (.ireturn, 1) := by decide +kernel
theorem dX11_put_44 : decode cX11_put 44 = .ok (.aload_n 0, 1) := by decide +kernel
theorem dX11_put_45 : decode cX11_put 45 = .ok (.getfield 19, 3) := by decide +kernel
theorem dX11_put_48 : decode cX11_put 48 = .ok (.aload_n 0, 1) := by decide +kernel
theorem dX11_put_49 : decode cX11_put 49 = .ok (.getfield 12, 3) := by decide +kernel
theorem dX11_put_52 : decode cX11_put 52 = .ok (.getfield 48, 3) := by decide +kernel
theorem dX11_put_55 : decode cX11_put 55 = .ok (.invokevirtual 61, 3) := by decide +kernel
theorem dX11_put_58 : decode cX11_put 58 = .ok (.aload_n 0, 1) := by decide +kernel
theorem dX11_put_59 : decode cX11_put 59 = .ok (.getfield 12, 3) := by decide +kernel
theorem dX11_put_62 : decode cX11_put 62 = .ok (.iload_n 1, 1) := by decide +kernel
theorem dX11_put_63 : decode cX11_put 63 = .ok (.iload_n 2, 1) := by decide +kernel
theorem dX11_put_64 : decode cX11_put 64 = .ok (.invokevirtual 122, 3) := by decide +kernel
theorem dX11_put_67 : decode cX11_put 67 = .ok (.ireturn, 1) := by decide +kernel
set_option maxRecDepth 20000 in
theorem ggX11_speed_X9_has : GoodIn wsX11_speed wsX9_has := goodIn_r _ [10, 11, 91, 92, 93, 94, 95, 96, 97, 98, 99] rfl (by decide +kernel)
set_option maxRecDepth 20000 in
theorem gX11_speed_X9_has : GoodIn wsX11_speed (wsV RX11 118 RX9 yX9_has wsX9_has) := goodIn_app (goodIn_of _ (by decide +kernel)) ggX11_speed_X9_has
set_option maxRecDepth 20000 in
theorem ggX11_speed_X11_isSpeed : GoodIn wsX11_speed wsX11_isSpeed := goodIn_r _ [15] rfl (by decide +kernel)
set_option maxRecDepth 20000 in
theorem gX11_speed_X11_isSpeed : GoodIn wsX11_speed (va_wsS RX11 105 yX11_isSpeed wsX11_isSpeed) := goodIn_app (goodIn_of _ (by decide +kernel)) ggX11_speed_X11_isSpeed
set_option maxRecDepth 20000 in
theorem ggX11_speed_X1_record : GoodIn wsX11_speed wsX1_record := goodIn_r _ [20, 21, 22, 23, 24, 25, 19, 26, 27, 28, 29, 30, 31, 32, 33, 34, 35, 36, 37, 38, 39, 40, 41, 42, 43, 44, 45, 46, 47, 48, 49, 50, 51, 52, 53, 54, 55, 9, 56, 11, 57, 58, 59, 60, 61, 62, 63, 64, 65, 66, 67, 68, 69, 70, 71, 72, 73, 74, 75, 76, 77, 100, 101, 87, 88, 89, 90, 102, 103, 104, 105, 106, 107, 108, 109, 91, 92, 93, 94, 95, 96, 97, 98, 99, 110, 111, 112, 113, 114, 115] rfl (by decide +kernel)
set_option maxRecDepth 20000 in
theorem gX11_speed_X1_record : GoodIn wsX11_speed (wsV RX11 61 RX1 yX1_record wsX1_record) := goodIn_app (goodIn_of _ (by decide +kernel)) ggX11_speed_X1_record
theorem dX11_speed_0 : decode cX11_speed 0 = .ok (.aload_n 0, 1) := by decide +kernel
theorem dX11_speed_1 : decode cX11_speed 1 = .ok (.getfield 12, 3) := by decide +kernel
theorem dX11_speed_4 : decode cX11_speed 4 = .ok (.getfield 48, 3) := by decide +kernel
theorem dX11_speed_7 : decode cX11_speed 7 = .ok (.getfield 108, 3) := by decide +kernel
theorem dX11_speed_10 : decode cX11_speed 10 = .ok (.astore_n 3, 1) := by decide +kernel
theorem dX11_speed_11 : decode cX11_speed 11 = .ok (.aload_n 3, 1) := by decide +kernel
theorem dX11_speed_12 : decode cX11_speed 12 = .ok (.iload_n 1, 1) := by decide +kernel
theorem dX11_speed_13 : decode cX11_speed 13 = .ok (.invokevirtual 118, 3) := by decide +kernel
theorem dX11_speed_16 : decode cX11_speed 16 = .ok (.ifCond .ne 5, 3) := by decide +kernel
theorem dX11_speed_19 : decode cX11_speed 19 = .ok (.iconst (-1), 1) := by decide +kernel
theorem dX11_speed_20 : decode cX11_speed 20 = .ok (.ireturn, 1) := by decide +kernel
theorem dX11_speed_21 : decode cX11_speed 21 = .ok (.iload_n 2, 1) := by decide +kernel
theorem dX11_speed_22 : decode cX11_speed 22 = .ok (.invokestatic 105, 3) := by decide +kernel
theorem dX11_speed_25 : decode cX11_speed 25 = .ok (.ifCond .ne 6, 3) := by decide +kernel
theorem dX11_speed_28 : decode cX11_speed 28 = .ok (.bipush (-2), 2) := by decide +kernel
theorem dX11_speed_30 : decode cX11_speed 30 = .ok (.ireturn, 1) := by decide +kernel
theorem dX11_speed_31 : decode cX11_speed 31 = .ok (.aload_n 3, 1) := by decide +kernel
theorem dX11_speed_32 : decode cX11_speed 32 = .ok (.getfield 125, 3) := by decide +kernel
theorem dX11_speed_35 : decode cX11_speed 35 = .ok (.iload_n 1, 1) := by decide +kernel
theorem dX11_speed_36 : decode cX11_speed 36 = .ok (.iaload, 1) := by decide +kernel
theorem dX11_speed_37 : decode cX11_speed 37 = .ok (.istore 4, 2) := by decide +kernel
theorem dX11_speed_39 : decode cX11_speed 39 = .ok (.iload 4, 2) := by decide +kernel
theorem dX11_speed_41 : decode cX11_speed 41 = .ok (.iload_n 2, 1) := by decide +kernel
theorem dX11_speed_42 : decode cX11_speed 42 = .ok (.if_icmp .ne 6, 3) := by decide +kernel
theorem dX11_speed_45 : decode cX11_speed 45 = .ok (.bipush (-5), 2) := by decide +kernel
theorem dX11_speed_47 : decode cX11_speed 47 = .ok (.ireturn, 1) := by decide +kernel
theorem dX11_speed_48 : decode cX11_speed 48 = .ok (.aload_n 0, 1) := by decide +kernel
theorem dX11_speed_49 : decode cX11_speed 49 = .ok (.getfield 19, 3) := by decide +kernel
theorem dX11_speed_52 : decode cX11_speed 52 = .ok (.aload_n 0, 1) := by decide +kernel
theorem dX11_speed_53 : decode cX11_speed 53 = .ok (.getfield 12, 3) := by decide +kernel
theorem dX11_speed_56 : decode cX11_speed 56 = .ok (.getfield 48, 3) := by decide +kernel
theorem dX11_speed_59 : decode cX11_speed 59 = .ok (.invokevirtual 61, 3) := by decide +kernel
theorem dX11_speed_62 : decode cX11_speed 62 = .ok (.aload_n 3, 1) := by decide +kernel
theorem dX11_speed_63 : decode cX11_speed 63 = .ok (.getfield 125, 3) := by decide +kernel
theorem dX11_speed_66 : decode cX11_speed 66 = .ok (.iload_n 1, 1) := by decide +kernel
theorem dX11_speed_67 : decode cX11_speed 67 = .ok (.iload_n 2, 1) := by decide +kernel
theorem dX11_speed_68 : decode cX11_speed 68 = .ok (.iastore, 1) := by decide +kernel
theorem dX11_speed_69 : decode cX11_speed 69 = .ok (.sipush 1000, 3) := by decide +kernel
theorem dX11_speed_72 : decode cX11_speed 72 = .ok (.iload 4, 2) := by decide +kernel
theorem dX11_speed_74 : decode cX11_speed 74 = .ok (.iadd, 1) := by decide +kernel
theorem dX11_speed_75 : decode cX11_speed 75 = .ok (.ireturn, 1) := by decide +kernel
set_option maxRecDepth 20000 in
theorem ggX11_pass_X1_record : GoodIn wsX11_pass wsX1_record := goodIn_r _ [9, 10, 11, 12, 13, 14, 8, 15, 16, 17, 18, 19, 20, 21, 22, 23, 24, 25, 26, 27, 28, 29, 30, 31, 32, 33, 34, 35, 36, 37, 38, 39, 40, 41, 42, 43, 44, 45, 46, 47, 48, 49, 50, 51, 52, 53, 54, 55, 56, 57, 58, 59, 60, 61, 62, 63, 64, 65, 66, 67, 68, 161, 162, 157, 158, 159, 160, 163, 164, 165, 166, 167, 168, 169, 170, 171, 172, 173, 174, 175, 176, 177, 178, 179, 180, 181, 182, 183, 184, 185] rfl (by decide +kernel)
set_option maxRecDepth 20000 in
theorem gX11_pass_X1_record : GoodIn wsX11_pass (wsV RX11 61 RX1 yX1_record wsX1_record) := goodIn_app (goodIn_of _ (by decide +kernel)) ggX11_pass_X1_record
set_option maxRecDepth 20000 in
theorem ggX11_pass_X2_passTick : GoodIn wsX11_pass wsX2_passTick := goodIn_r _ [73, 74, 75, 76, 77, 78, 79, 80, 81, 82, 45, 83, 48, 50, 54, 84, 85, 86, 87, 55, 88, 89, 90, 91, 92, 93, 94, 95, 96, 97, 98, 99, 100, 101, 60, 102, 63, 64, 66, 67, 68, 62, 103, 104, 105, 106, 107, 108, 109, 72, 110, 111, 112, 113, 114, 115, 116, 117, 118, 119, 120, 121, 122, 123, 124, 125, 126, 127, 128, 129, 130, 131, 132, 133, 134, 135, 136, 137, 138, 139, 140, 141, 142, 143, 144, 145, 146, 147, 154, 155, 156, 157, 158, 159, 160, 171, 172, 173, 174, 175, 176, 177, 178, 179, 180, 181, 182, 183, 184, 185, 163, 164, 165, 166, 167, 168, 169, 170, 186] rfl (by decide +kernel)
set_option maxRecDepth 20000 in
theorem gX11_pass_X2_passTick : GoodIn wsX11_pass (wsV RX11 131 RX2 yX2_passTick wsX2_passTick) := goodIn_app (goodIn_of _ (by decide +kernel)) ggX11_pass_X2_passTick
theorem dX11_pass_0 : decode cX11_pass 0 = .ok (.iload_n 1, 1) := by decide +kernel
theorem dX11_pass_1 : decode cX11_pass 1 = .ok (.iconst 1, 1) := by decide +kernel
theorem dX11_pass_2 : decode cX11_pass 2 = .ok (.if_icmp .lt 9, 3) := by decide +kernel
theorem dX11_pass_5 : decode cX11_pass 5 = .ok (.iload_n 1, 1) := by decide +kernel
theorem dX11_pass_6 : decode cX11_pass 6 = .ok (.bipush 100, 2) := by decide +kernel
theorem dX11_pass_8 : decode cX11_pass 8 = .ok (.if_icmp .le 6, 3) := by decide +kernel
theorem dX11_pass_11 : decode cX11_pass 11 = .ok (.bipush (-2), 2) := by decide +kernel
theorem dX11_pass_13 : decode cX11_pass 13 = .ok (.ireturn, 1) := by decide +kernel
theorem dX11_pass_14 : decode cX11_pass 14 = .ok (.aload_n 0, 1) := by decide +kernel
theorem dX11_pass_15 : decode cX11_pass 15 = .ok (.getfield 12, 3) := by decide +kernel
theorem dX11_pass_18 : decode cX11_pass 18 = .ok (.getfield 48, 3) := by decide +kernel
theorem dX11_pass_21 : decode cX11_pass 21 = .ok (.getfield 128, 3) := by decide +kernel
theorem dX11_pass_24 : decode cX11_pass 24 = .ok (.iload_n 1, 1) := by decide +kernel
theorem dX11_pass_25 : decode cX11_pass 25 = .ok (.iadd, 1) := by decide +kernel
theorem dX11_pass_26 : decode cX11_pass 26 = .ok (.sipush 9999, 3) := by decide +kernel
theorem dX11_pass_29 : decode cX11_pass 29 = .ok (.if_icmp .le 6, 3) := by decide +kernel
theorem dX11_pass_32 : decode cX11_pass 32 = .ok (.bipush (-4), 2) := by decide +kernel
theorem dX11_pass_34 : decode cX11_pass 34 = .ok (.ireturn, 1) := by decide +kernel
theorem dX11_pass_35 : decode cX11_pass 35 = .ok (.aload_n 0, 1) := by decide +kernel
theorem dX11_pass_36 : decode cX11_pass 36 = .ok (.getfield 19, 3) := by decide +kernel
theorem dX11_pass_39 : decode cX11_pass 39 = .ok (.aload_n 0, 1) := by decide +kernel
theorem dX11_pass_40 : decode cX11_pass 40 = .ok (.getfield 12, 3) := by decide +kernel
theorem dX11_pass_43 : decode cX11_pass 43 = .ok (.getfield 48, 3) := by decide +kernel
theorem dX11_pass_46 : decode cX11_pass 46 = .ok (.invokevirtual 61, 3) := by decide +kernel
theorem dX11_pass_49 : decode cX11_pass 49 = .ok (.iconst 0, 1) := by decide +kernel
theorem dX11_pass_50 : decode cX11_pass 50 = .ok (.istore_n 2, 1) := by decide +kernel
theorem dX11_pass_51 : decode cX11_pass 51 = .ok (.iconst 0, 1) := by decide +kernel
theorem dX11_pass_52 : decode cX11_pass 52 = .ok (.istore_n 3, 1) := by decide +kernel
theorem dX11_pass_53 : decode cX11_pass 53 = .ok (.iload_n 3, 1) := by decide +kernel
theorem dX11_pass_54 : decode cX11_pass 54 = .ok (.iload_n 1, 1) := by decide +kernel
theorem dX11_pass_55 : decode cX11_pass 55 = .ok (.if_icmp .ge 19, 3) := by decide +kernel
theorem dX11_pass_58 : decode cX11_pass 58 = .ok (.iload_n 2, 1) := by decide +kernel
theorem dX11_pass_59 : decode cX11_pass 59 = .ok (.aload_n 0, 1) := by decide +kernel
theorem dX11_pass_60 : decode cX11_pass 60 = .ok (.getfield 12, 3) := by decide +kernel
theorem dX11_pass_63 : decode cX11_pass 63 = .ok (.invokevirtual 131, 3) := by decide +kernel
theorem dX11_pass_66 : decode cX11_pass 66 = .ok (.iadd, 1) := by decide +kernel
theorem dX11_pass_67 : decode cX11_pass 67 = .ok (.istore_n 2, 1) := by decide +kernel
theorem dX11_pass_68 : decode cX11_pass 68 = .ok (.iinc 3 1, 3) := by decide +kernel
theorem dX11_pass_71 : decode cX11_pass 71 = .ok (.goto (-18), 3) := by decide +kernel
theorem dX11_pass_74 : decode cX11_pass 74 = .ok (.iload_n 2, 1) := by decide +kernel
theorem dX11_pass_75 : decode cX11_pass 75 = .ok (.ireturn, 1) := by decide +kernel
set_option maxRecDepth 20000 in
theorem ggX11_type_X7_append : GoodIn wsX11_type wsX7_append := goodIn_r _ [7, 8, 9, 16, 17] rfl (by decide +kernel)
set_option maxRecDepth 20000 in
theorem gX11_type_X7_append : GoodIn wsX11_type (wsV RX11 135 RX7 yX7_append wsX7_append) := goodIn_app (goodIn_of _ (by decide +kernel)) ggX11_type_X7_append
theorem dX11_type_0 : decode cX11_type 0 = .ok (.aload_n 0, 1) := by decide +kernel
theorem dX11_type_1 : decode cX11_type 1 = .ok (.getfield 33, 3) := by decide +kernel
theorem dX11_type_4 : decode cX11_type 4 = .ok (.iload_n 1, 1) := by decide +kernel
theorem dX11_type_5 : decode cX11_type 5 = .ok (.invokevirtual 135, 3) := by decide +kernel
theorem dX11_type_8 : decode cX11_type 8 = .ok (.ifCond .eq 13, 3) := by decide +kernel
theorem dX11_type_11 : decode cX11_type 11 = .ok (.aload_n 0, 1) := by decide +kernel
theorem dX11_type_12 : decode cX11_type 12 = .ok (.getfield 33, 3) := by decide +kernel
theorem dX11_type_15 : decode cX11_type 15 = .ok (.getfield 139, 3) := by decide +kernel
theorem dX11_type_18 : decode cX11_type 18 = .ok (.goto 5, 3) := by decide +kernel
theorem dX11_type_21 : decode cX11_type 21 = .ok (.bipush (-3), 2) := by decide +kernel
theorem dX11_type_23 : decode cX11_type 23 = .ok (.ireturn, 1) := by decide +kernel
theorem dX11_clearText_0 : decode cX11_clearText 0 = .ok (.aload_n 0, 1) := by decide +kernel
theorem dX11_clearText_1 : decode cX11_clearText 1 = .ok (.getfield 33, 3) := by decide +kernel
theorem dX11_clearText_4 : decode cX11_clearText 4 = .ok (.getfield 139, 3) := by decide +kernel
theorem dX11_clearText_7 : decode cX11_clearText 7 = .ok (.istore_n 1, 1) := by decide +kernel
theorem dX11_clearText_8 : decode cX11_clearText 8 = .ok (.aload_n 0, 1) := by decide +kernel
theorem dX11_clearText_9 : decode cX11_clearText 9 = .ok (.getfield 33, 3) := by decide +kernel
theorem dX11_clearText_12 : decode cX11_clearText 12 = .ok (.iconst 0, 1) := by decide +kernel
theorem dX11_clearText_13 : decode cX11_clearText 13 = .ok (.putfield 139, 3) := by decide +kernel
theorem dX11_clearText_16 : decode cX11_clearText 16 = .ok (.iload_n 1, 1) := by decide +kernel
theorem dX11_clearText_17 : decode cX11_clearText 17 = .ok (.ireturn, 1) := by decide +kernel
set_option maxRecDepth 20000 in
theorem ggX11_undo_X1_takeLatest : GoodIn wsX11_undo wsX1_takeLatest := goodIn_r _ [8, 9, 10, 156, 157] rfl (by decide +kernel)
set_option maxRecDepth 20000 in
theorem gX11_undo_X1_takeLatest : GoodIn wsX11_undo (wsV RX11 142 RX1 yX1_takeLatest wsX1_takeLatest) := goodIn_app (goodIn_of _ (by decide +kernel)) ggX11_undo_X1_takeLatest
set_option maxRecDepth 20000 in
theorem ggX11_undo_X2_become : GoodIn wsX11_undo wsX2_become := goodIn_r _ [15, 16, 17, 18, 19, 20, 21, 22, 23, 24, 25, 26, 27, 28, 29, 30, 31, 32, 33, 34, 35, 36, 37, 38, 39, 40, 41, 42, 43, 44, 45, 46, 47, 48, 49, 50, 51, 52, 53, 54, 55, 56, 57, 58, 59, 60, 61, 62, 63, 64, 65, 66, 67, 68, 69, 70, 71, 72, 14, 73, 74, 75, 76, 77, 78, 79, 80, 81, 82, 83, 84, 85, 86, 87, 88, 89, 90, 91, 92, 93, 94, 95, 96, 97, 98, 99, 100, 101, 102, 103, 104, 105, 106, 107, 108, 109, 110, 111, 112, 113, 114, 115, 116, 117, 118, 119, 120, 121, 122, 123, 124, 125, 126, 127, 128, 129, 130, 131, 132, 133, 134, 135, 136, 137, 138, 139, 140, 141, 142, 143, 144, 145, 146, 147, 148, 149, 158, 159, 160, 161, 162, 163, 164, 165, 166, 167, 168, 169, 170, 171, 172, 173, 174, 175, 176, 177, 178, 179, 180, 181, 182, 183, 184, 185, 186, 187, 188, 189, 190, 191, 192, 193, 194, 195, 196, 197] rfl (by decide +kernel)
set_option maxRecDepth 20000 in
theorem gX11_undo_X2_become : GoodIn wsX11_undo (wsV RX11 146 RX2 yX2_become wsX2_become) := goodIn_app (goodIn_of _ (by decide +kernel)) ggX11_undo_X2_become
theorem dX11_undo_0 : decode cX11_undo 0 = .ok (.aload_n 0, 1) := by decide +kernel
theorem dX11_undo_1 : decode cX11_undo 1 = .ok (.getfield 19, 3) := by decide +kernel
theorem dX11_undo_4 : decode cX11_undo 4 = .ok (.invokevirtual 142, 3) := by decide +kernel
theorem dX11_undo_7 : decode cX11_undo 7 = .ok (.astore_n 1, 1) := by decide +kernel
theorem dX11_undo_8 : decode cX11_undo 8 = .ok (.aload_n 1, 1) := by decide +kernel
theorem dX11_undo_9 : decode cX11_undo 9 = .ok (.ifnonnull 6, 3) := by decide +kernel
theorem dX11_undo_12 : decode cX11_undo 12 = .ok (.bipush (-5), 2) := by decide +kernel
theorem dX11_undo_14 : decode cX11_undo 14 = .ok (.ireturn, 1) := by decide +kernel
theorem dX11_undo_15 : decode cX11_undo 15 = .ok (.aload_n 0, 1) := by decide +kernel
theorem dX11_undo_16 : decode cX11_undo 16 = .ok (.getfield 12, 3) := by decide +kernel
theorem dX11_undo_19 : decode cX11_undo 19 = .ok (.aload_n 1, 1) := by decide +kernel
theorem dX11_undo_20 : decode cX11_undo 20 = .ok (.invokevirtual 146, 3) := by decide +kernel
theorem dX11_undo_23 : decode cX11_undo 23 = .ok (.aload_n 0, 1) := by decide +kernel
theorem dX11_undo_24 : decode cX11_undo 24 = .ok (.getfield 19, 3) := by decide +kernel
theorem dX11_undo_27 : decode cX11_undo 27 = .ok (.getfield 149, 3) := by decide +kernel
theorem dX11_undo_30 : decode cX11_undo 30 = .ok (.ireturn, 1) := by decide +kernel
set_option maxRecDepth 20000 in
theorem ggX11_keep_X6_copyFrom : GoodIn wsX11_keep wsX6_copyFrom := goodIn_r _ [10, 11, 12, 13, 14, 15, 16, 17, 18, 19, 20, 21, 22, 23, 24, 25, 26, 27, 28, 29, 30, 31, 32, 33, 34, 35, 36, 37, 38, 39, 40, 41, 42, 43, 44, 45, 46, 47, 48, 49, 50, 51, 52, 53, 54, 55, 56, 57, 58, 79, 80, 81, 82, 83, 84, 85, 86, 87, 88, 89, 90, 91, 92, 93, 94, 95, 96, 97, 98, 99, 100, 101, 102, 103, 104, 105] rfl (by decide +kernel)
set_option maxRecDepth 20000 in
theorem gX11_keep_X6_copyFrom : GoodIn wsX11_keep (wsV RX11 150 RX6 yX6_copyFrom wsX6_copyFrom) := goodIn_app (goodIn_of _ (by decide +kernel)) ggX11_keep_X6_copyFrom
set_option maxRecDepth 20000 in
theorem ggX11_keep_X5_countThere : GoodIn wsX11_keep wsX5_countThere := goodIn_r _ [62, 21, 63, 64, 65, 66, 67, 68, 69, 83, 84, 85, 86, 87, 88, 89, 90] rfl (by decide +kernel)
set_option maxRecDepth 20000 in
theorem gX11_keep_X5_countThere : GoodIn wsX11_keep (wsV RX11 157 RX5 yX5_countThere wsX5_countThere) := goodIn_app (goodIn_of _ (by decide +kernel)) ggX11_keep_X5_countThere
theorem dX11_keep_0 : decode cX11_keep 0 = .ok (.aload_n 0, 1) := by decide +kernel
theorem dX11_keep_1 : decode cX11_keep 1 = .ok (.getfield 26, 3) := by decide +kernel
theorem dX11_keep_4 : decode cX11_keep 4 = .ok (.aload_n 0, 1) := by decide +kernel
theorem dX11_keep_5 : decode cX11_keep 5 = .ok (.getfield 12, 3) := by decide +kernel
theorem dX11_keep_8 : decode cX11_keep 8 = .ok (.getfield 48, 3) := by decide +kernel
theorem dX11_keep_11 : decode cX11_keep 11 = .ok (.invokevirtual 150, 3) := by decide +kernel
theorem dX11_keep_14 : decode cX11_keep 14 = .ok (.aload_n 0, 1) := by decide +kernel
theorem dX11_keep_15 : decode cX11_keep 15 = .ok (.iconst 1, 1) := by decide +kernel
theorem dX11_keep_16 : decode cX11_keep 16 = .ok (.putfield 153, 3) := by decide +kernel
theorem dX11_keep_19 : decode cX11_keep 19 = .ok (.aload_n 0, 1) := by decide +kernel
theorem dX11_keep_20 : decode cX11_keep 20 = .ok (.getfield 26, 3) := by decide +kernel
theorem dX11_keep_23 : decode cX11_keep 23 = .ok (.getfield 51, 3) := by decide +kernel
theorem dX11_keep_26 : decode cX11_keep 26 = .ok (.invokevirtual 157, 3) := by decide +kernel
theorem dX11_keep_29 : decode cX11_keep 29 = .ok (.ireturn, 1) := by decide +kernel
set_option maxRecDepth 20000 in
theorem ggX11_restore_X1_record : GoodIn wsX11_restore wsX1_record := goodIn_r _ [11, 12, 13, 14, 15, 16, 10, 17, 18, 19, 20, 21, 22, 23, 24, 25, 26, 27, 28, 29, 30, 31, 32, 33, 34, 35, 36, 37, 38, 39, 40, 41, 42, 43, 44, 45, 46, 47, 48, 49, 50, 51, 52, 53, 54, 55, 56, 57, 58, 59, 60, 61, 62, 63, 64, 65, 66, 67, 68, 69, 70, 182, 183, 178, 179, 180, 181, 184, 185, 186, 187, 188, 189, 190, 191, 192, 193, 194, 195, 196, 197, 198, 199, 200, 201, 202, 203, 204, 205, 206] rfl (by decide +kernel)
set_option maxRecDepth 20000 in
theorem gX11_restore_X1_record : GoodIn wsX11_restore (wsV RX11 61 RX1 yX1_record wsX1_record) := goodIn_app (goodIn_of _ (by decide +kernel)) ggX11_restore_X1_record
set_option maxRecDepth 20000 in
theorem ggX11_restore_X2_become : GoodIn wsX11_restore wsX2_become := goodIn_r _ [75, 76, 77, 19, 20, 21, 22, 23, 24, 25, 26, 27, 28, 29, 30, 31, 32, 33, 34, 35, 36, 37, 38, 39, 40, 41, 42, 43, 44, 45, 46, 47, 48, 49, 50, 51, 52, 53, 54, 55, 56, 57, 58, 59, 60, 61, 62, 63, 64, 65, 66, 67, 68, 69, 70, 78, 79, 80, 74, 81, 82, 83, 84, 85, 86, 87, 88, 89, 90, 91, 92, 93, 94, 95, 96, 97, 98, 99, 100, 101, 102, 103, 104, 105, 106, 107, 108, 109, 110, 111, 112, 113, 114, 115, 116, 117, 118, 119, 120, 121, 122, 123, 124, 125, 126, 127, 128, 129, 130, 131, 132, 133, 134, 135, 136, 137, 138, 139, 140, 141, 142, 143, 144, 145, 146, 147, 148, 149, 150, 151, 152, 153, 154, 155, 156, 157, 175, 176, 177, 178, 179, 180, 181, 184, 185, 186, 187, 188, 189, 190, 191, 192, 193, 194, 195, 196, 197, 198, 199, 200, 201, 202, 203, 204, 205, 206, 207, 208, 209, 210, 211, 212, 213, 214, 215, 216] rfl (by decide +kernel)
set_option maxRecDepth 20000 in
theorem gX11_restore_X2_become : GoodIn wsX11_restore (wsV RX11 146 RX2 yX2_become wsX2_become) := goodIn_app (goodIn_of _ (by decide +kernel)) ggX11_restore_X2_become
set_option maxRecDepth 20000 in
theorem ggX11_restore_X5_countThere : GoodIn wsX11_restore wsX5_countThere := goodIn_r _ [161, 33, 162, 163, 164, 165, 166, 167, 168, 184, 185, 186, 187, 188, 189, 190, 191] rfl (by decide +kernel)
set_option maxRecDepth 20000 in
theorem gX11_restore_X5_countThere : GoodIn wsX11_restore (wsV RX11 157 RX5 yX5_countThere wsX5_countThere) := goodIn_app (goodIn_of _ (by decide +kernel)) ggX11_restore_X5_countThere
theorem dX11_restore_0 : decode cX11_restore 0 = .ok (.aload_n 0, 1) := by decide +kernel
theorem dX11_restore_1 : decode cX11_restore 1 = .ok (.getfield 153, 3) := by decide +kernel
theorem dX11_restore_4 : decode cX11_restore 4 = .ok (.ifCond .ne 6, 3) := by decide +kernel
theorem dX11_restore_7 : decode cX11_restore 7 = .ok (.bipush (-5), 2) := by decide +kernel
theorem dX11_restore_9 : decode cX11_restore 9 = .ok (.ireturn, 1) := by decide +kernel
theorem dX11_restore_10 : decode cX11_restore 10 = .ok (.aload_n 0, 1) := by decide +kernel
theorem dX11_restore_11 : decode cX11_restore 11 = .ok (.getfield 19, 3) := by decide +kernel
theorem dX11_restore_14 : decode cX11_restore 14 = .ok (.aload_n 0, 1) := by decide +kernel
theorem dX11_restore_15 : decode cX11_restore 15 = .ok (.getfield 12, 3) := by decide +kernel
theorem dX11_restore_18 : decode cX11_restore 18 = .ok (.getfield 48, 3) := by decide +kernel
theorem dX11_restore_21 : decode cX11_restore 21 = .ok (.invokevirtual 61, 3) := by decide +kernel
theorem dX11_restore_24 : decode cX11_restore 24 = .ok (.aload_n 0, 1) := by decide +kernel
theorem dX11_restore_25 : decode cX11_restore 25 = .ok (.getfield 12, 3) := by decide +kernel
theorem dX11_restore_28 : decode cX11_restore 28 = .ok (.aload_n 0, 1) := by decide +kernel
theorem dX11_restore_29 : decode cX11_restore 29 = .ok (.getfield 26, 3) := by decide +kernel
theorem dX11_restore_32 : decode cX11_restore 32 = .ok (.invokevirtual 146, 3) := by decide +kernel
theorem dX11_restore_35 : decode cX11_restore 35 = .ok (.aload_n 0, 1) := by decide +kernel
theorem dX11_restore_36 : decode cX11_restore 36 = .ok (.getfield 12, 3) := by decide +kernel
theorem dX11_restore_39 : decode cX11_restore 39 = .ok (.getfield 48, 3) := by decide +kernel
theorem dX11_restore_42 : decode cX11_restore 42 = .ok (.getfield 51, 3) := by decide +kernel
theorem dX11_restore_45 : decode cX11_restore 45 = .ok (.invokevirtual 157, 3) := by decide +kernel
theorem dX11_restore_48 : decode cX11_restore 48 = .ok (.ireturn, 1) := by decide +kernel
set_option maxRecDepth 20000 in
theorem ggX11_span_X5_has : GoodIn wsX11_span wsX5_has := goodIn_r _ [18, 19, 20, 21, 22, 17, 23, 24, 25, 26, 27, 48, 49, 50, 51, 52, 53, 54, 55] rfl (by decide +kernel)
set_option maxRecDepth 20000 in
theorem gX11_span_X5_has : GoodIn wsX11_span (wsV RX11 92 RX5 yX5_has wsX5_has) := goodIn_app (goodIn_of _ (by decide +kernel)) ggX11_span_X5_has
set_option maxRecDepth 20000 in
theorem ggX11_span_X9_countInside : GoodIn wsX11_span wsX9_countInside := goodIn_r _ [32, 33, 34, 25, 26, 27, 61, 62, 63, 64, 65, 66, 67, 68, 69] rfl (by decide +kernel)
set_option maxRecDepth 20000 in
theorem gX11_span_X9_countInside : GoodIn wsX11_span (wsV RX11 178 RX9 yX9_countInside wsX9_countInside) := goodIn_app (goodIn_of _ (by decide +kernel)) ggX11_span_X9_countInside
theorem dX11_span_0 : decode cX11_span 0 = .ok (.aload_n 0, 1) := by decide +kernel
theorem dX11_span_1 : decode cX11_span 1 = .ok (.getfield 12, 3) := by decide +kernel
theorem dX11_span_4 : decode cX11_span 4 = .ok (.getfield 48, 3) := by decide +kernel
theorem dX11_span_7 : decode cX11_span 7 = .ok (.getfield 51, 3) := by decide +kernel
theorem dX11_span_10 : decode cX11_span 10 = .ok (.astore_n 3, 1) := by decide +kernel
theorem dX11_span_11 : decode cX11_span 11 = .ok (.aload_n 3, 1) := by decide +kernel
theorem dX11_span_12 : decode cX11_span 12 = .ok (.iload_n 1, 1) := by decide +kernel
theorem dX11_span_13 : decode cX11_span 13 = .ok (.invokevirtual 92, 3) := by decide +kernel
theorem dX11_span_16 : decode cX11_span 16 = .ok (.ifCond .ne 5, 3) := by decide +kernel
theorem dX11_span_19 : decode cX11_span 19 = .ok (.iconst (-1), 1) := by decide +kernel
theorem dX11_span_20 : decode cX11_span 20 = .ok (.ireturn, 1) := by decide +kernel
theorem dX11_span_21 : decode cX11_span 21 = .ok (.iload_n 2, 1) := by decide +kernel
theorem dX11_span_22 : decode cX11_span 22 = .ok (.tableswitch 133 0 8 #[50, 57, 64, 71, 78, 91, 104, 119, 126], 50) := by decide +kernel
theorem dX11_span_72 : decode cX11_span 72 = .ok (.aload_n 3, 1) := by decide +kernel
theorem dX11_span_73 : decode cX11_span 73 = .ok (.getfield 99, 3) := by decide +kernel
theorem dX11_span_76 : decode cX11_span 76 = .ok (.iload_n 1, 1) := by decide +kernel
theorem dX11_span_77 : decode cX11_span 77 = .ok (.iaload, 1) := by decide +kernel
theorem dX11_span_78 : decode cX11_span 78 = .ok (.ireturn, 1) := by decide +kernel
theorem dX11_span_79 : decode cX11_span 79 = .ok (.aload_n 3, 1) := by decide +kernel
theorem dX11_span_80 : decode cX11_span 80 = .ok (.getfield 100, 3) := by decide +kernel
theorem dX11_span_83 : decode cX11_span 83 = .ok (.iload_n 1, 1) := by decide +kernel
theorem dX11_span_84 : decode cX11_span 84 = .ok (.iaload, 1) := by decide +kernel
theorem dX11_span_85 : decode cX11_span 85 = .ok (.ireturn, 1) := by decide +kernel
theorem dX11_span_86 : decode cX11_span 86 = .ok (.aload_n 3, 1) := by decide +kernel
theorem dX11_span_87 : decode cX11_span 87 = .ok (.getfield 160, 3) := by decide +kernel
theorem dX11_span_90 : decode cX11_span 90 = .ok (.iload_n 1, 1) := by decide +kernel
theorem dX11_span_91 : decode cX11_span 91 = .ok (.iaload, 1) := by decide +kernel
theorem dX11_span_92 : decode cX11_span 92 = .ok (.ireturn, 1) := by decide +kernel
theorem dX11_span_93 : decode cX11_span 93 = .ok (.aload_n 3, 1) := by decide +kernel
theorem dX11_span_94 : decode cX11_span 94 = .ok (.getfield 163, 3) := by decide +kernel
theorem dX11_span_97 : decode cX11_span 97 = .ok (.iload_n 1, 1) := by decide +kernel
theorem dX11_span_98 : decode cX11_span 98 = .ok (.iaload, 1) := by decide +kernel
theorem dX11_span_99 : decode cX11_span 99 = .ok (.ireturn, 1) := by decide +kernel
theorem dX11_span_100 : decode cX11_span 100 = .ok (.aload_n 0, 1) := by decide +kernel
theorem dX11_span_101 : decode cX11_span 101 = .ok (.getfield 12, 3) := by decide +kernel
theorem dX11_span_104 : decode cX11_span 104 = .ok (.getfield 166, 3) := by decide +kernel
theorem dX11_span_107 : decode cX11_span 107 = .ok (.getfield 170, 3) := by decide +kernel
theorem dX11_span_110 : decode cX11_span 110 = .ok (.iload_n 1, 1) := by decide +kernel
theorem dX11_span_111 : decode cX11_span 111 = .ok (.iaload, 1) := by decide +kernel
theorem dX11_span_112 : decode cX11_span 112 = .ok (.ireturn, 1) := by decide +kernel
theorem dX11_span_113 : decode cX11_span 113 = .ok (.aload_n 0, 1) := by decide +kernel
theorem dX11_span_114 : decode cX11_span 114 = .ok (.getfield 12, 3) := by decide +kernel
theorem dX11_span_117 : decode cX11_span 117 = .ok (.getfield 166, 3) := by decide +kernel
theorem dX11_span_120 : decode cX11_span 120 = .ok (.getfield 175, 3) := by decide +kernel
theorem dX11_span_123 : decode cX11_span 123 = .ok (.iload_n 1, 1) := by decide +kernel
theorem dX11_span_124 : decode cX11_span 124 = .ok (.iaload, 1) := by decide +kernel
theorem dX11_span_125 : decode cX11_span 125 = .ok (.ireturn, 1) := by decide +kernel
theorem dX11_span_126 : decode cX11_span 126 = .ok (.aload_n 0, 1) := by decide +kernel
theorem dX11_span_127 : decode cX11_span 127 = .ok (.getfield 12, 3) := by decide +kernel
theorem dX11_span_130 : decode cX11_span 130 = .ok (.getfield 48, 3) := by decide +kernel
theorem dX11_span_133 : decode cX11_span 133 = .ok (.getfield 108, 3) := by decide +kernel
theorem dX11_span_136 : decode cX11_span 136 = .ok (.iload_n 1, 1) := by decide +kernel
theorem dX11_span_137 : decode cX11_span 137 = .ok (.invokevirtual 178, 3) := by decide +kernel
theorem dX11_span_140 : decode cX11_span 140 = .ok (.ireturn, 1) := by decide +kernel
theorem dX11_span_141 : decode cX11_span 141 = .ok (.aload_n 3, 1) := by decide +kernel
theorem dX11_span_142 : decode cX11_span 142 = .ok (.getfield 181, 3) := by decide +kernel
theorem dX11_span_145 : decode cX11_span 145 = .ok (.iload_n 1, 1) := by decide +kernel
theorem dX11_span_146 : decode cX11_span 146 = .ok (.iaload, 1) := by decide +kernel
theorem dX11_span_147 : decode cX11_span 147 = .ok (.ireturn, 1) := by decide +kernel
theorem dX11_span_148 : decode cX11_span 148 = .ok (.aload_n 3, 1) := by decide +kernel
theorem dX11_span_149 : decode cX11_span 149 = .ok (.getfield 184, 3) := by decide +kernel
theorem dX11_span_152 : decode cX11_span 152 = .ok (.iload_n 1, 1) := by decide +kernel
theorem dX11_span_153 : decode cX11_span 153 = .ok (.iaload, 1) := by decide +kernel
theorem dX11_span_154 : decode cX11_span 154 = .ok (.ireturn, 1) := by decide +kernel
theorem dX11_span_155 : decode cX11_span 155 = .ok (.bipush (-2), 2) := by decide +kernel
theorem dX11_span_157 : decode cX11_span 157 = .ok (.ireturn, 1) := by decide +kernel
set_option maxRecDepth 20000 in
theorem ggX11_walker_X9_has : GoodIn wsX11_walker wsX9_has := goodIn_r _ [15, 16, 52, 53, 54, 55, 56, 57, 58, 59, 60] rfl (by decide +kernel)
set_option maxRecDepth 20000 in
theorem gX11_walker_X9_has : GoodIn wsX11_walker (wsV RX11 118 RX9 yX9_has wsX9_has) := goodIn_app (goodIn_of _ (by decide +kernel)) ggX11_walker_X9_has
set_option maxRecDepth 20000 in
theorem ggX11_walker_J13_bitCount_95d88 : GoodIn wsX11_walker wsJ13_bitCount_95d88 := goodIn_r _ [20, 21, 22, 23] rfl (by decide +kernel)
set_option maxRecDepth 20000 in
theorem gX11_walker_J13_bitCount_95d88 : GoodIn wsX11_walker (va_wsS RX11 191 yJ13_bitCount_95d88 wsJ13_bitCount_95d88) := goodIn_app (goodIn_of _ (by decide +kernel)) ggX11_walker_J13_bitCount_95d88
set_option maxRecDepth 20000 in
theorem ggX11_walker_X11_ticksInOldest : GoodIn wsX11_walker wsX11_ticksInOldest := goodIn_r _ [28, 1, 2, 3, 29, 30, 31, 32, 33, 14, 34, 35, 36, 37, 27, 38, 39, 40, 41, 42, 43, 44, 45, 46, 47, 48, 49, 50, 51, 52, 53, 54, 55, 56, 57, 58, 59, 60] rfl (by decide +kernel)
set_option maxRecDepth 20000 in
theorem gX11_walker_X11_ticksInOldest : GoodIn wsX11_walker (wsV RX11 201 RX11 yX11_ticksInOldest wsX11_ticksInOldest) := goodIn_app (goodIn_of _ (by decide +kernel)) ggX11_walker_X11_ticksInOldest
set_option maxRecDepth 20000 in
theorem ggX11_walker_X9_oldestSpan : GoodIn wsX11_walker wsX9_oldestSpan := goodIn_r _ [34, 35, 36, 37, 27, 38, 52, 53, 54, 55, 56, 57, 58, 59, 60] rfl (by decide +kernel)
set_option maxRecDepth 20000 in
theorem gX11_walker_X9_oldestSpan : GoodIn wsX11_walker (wsV RX11 204 RX9 yX9_oldestSpan wsX9_oldestSpan) := goodIn_app (goodIn_of _ (by decide +kernel)) ggX11_walker_X9_oldestSpan
theorem dX11_walker_0 : decode cX11_walker 0 = .ok (.aload_n 0, 1) := by decide +kernel
theorem dX11_walker_1 : decode cX11_walker 1 = .ok (.getfield 12, 3) := by decide +kernel
theorem dX11_walker_4 : decode cX11_walker 4 = .ok (.getfield 48, 3) := by decide +kernel
theorem dX11_walker_7 : decode cX11_walker 7 = .ok (.getfield 108, 3) := by decide +kernel
theorem dX11_walker_10 : decode cX11_walker 10 = .ok (.astore_n 3, 1) := by decide +kernel
theorem dX11_walker_11 : decode cX11_walker 11 = .ok (.aload_n 3, 1) := by decide +kernel
theorem dX11_walker_12 : decode cX11_walker 12 = .ok (.iload_n 1, 1) := by decide +kernel
theorem dX11_walker_13 : decode cX11_walker 13 = .ok (.invokevirtual 118, 3) := by decide +kernel
theorem dX11_walker_16 : decode cX11_walker 16 = .ok (.ifCond .ne 5, 3) := by decide +kernel
theorem dX11_walker_19 : decode cX11_walker 19 = .ok (.iconst (-1), 1) := by decide +kernel
theorem dX11_walker_20 : decode cX11_walker 20 = .ok (.ireturn, 1) := by decide +kernel
theorem dX11_walker_21 : decode cX11_walker 21 = .ok (.iload_n 2, 1) := by decide +kernel
theorem dX11_walker_22 : decode cX11_walker 22 = .ok (.tableswitch 118 0 8 #[50, 57, 68, 78, 85, 92, 98, 104, 111], 50) := by decide +kernel
theorem dX11_walker_72 : decode cX11_walker 72 = .ok (.aload_n 3, 1) := by decide +kernel
theorem dX11_walker_73 : decode cX11_walker 73 = .ok (.getfield 119, 3) := by decide +kernel
theorem dX11_walker_76 : decode cX11_walker 76 = .ok (.iload_n 1, 1) := by decide +kernel
theorem dX11_walker_77 : decode cX11_walker 77 = .ok (.iaload, 1) := by decide +kernel
theorem dX11_walker_78 : decode cX11_walker 78 = .ok (.ireturn, 1) := by decide +kernel
theorem dX11_walker_79 : decode cX11_walker 79 = .ok (.sipush 1000, 3) := by decide +kernel
theorem dX11_walker_82 : decode cX11_walker 82 = .ok (.aload_n 3, 1) := by decide +kernel
theorem dX11_walker_83 : decode cX11_walker 83 = .ok (.getfield 125, 3) := by decide +kernel
theorem dX11_walker_86 : decode cX11_walker 86 = .ok (.iload_n 1, 1) := by decide +kernel
theorem dX11_walker_87 : decode cX11_walker 87 = .ok (.iaload, 1) := by decide +kernel
theorem dX11_walker_88 : decode cX11_walker 88 = .ok (.iadd, 1) := by decide +kernel
theorem dX11_walker_89 : decode cX11_walker 89 = .ok (.ireturn, 1) := by decide +kernel
theorem dX11_walker_90 : decode cX11_walker 90 = .ok (.aload_n 3, 1) := by decide +kernel
theorem dX11_walker_91 : decode cX11_walker 91 = .ok (.getfield 187, 3) := by decide +kernel
theorem dX11_walker_94 : decode cX11_walker 94 = .ok (.iload_n 1, 1) := by decide +kernel
theorem dX11_walker_95 : decode cX11_walker 95 = .ok (.laload, 1) := by decide +kernel
theorem dX11_walker_96 : decode cX11_walker 96 = .ok (.invokestatic 191, 3) := by decide +kernel
theorem dX11_walker_99 : decode cX11_walker 99 = .ok (.ireturn, 1) := by decide +kernel
theorem dX11_walker_100 : decode cX11_walker 100 = .ok (.aload_n 3, 1) := by decide +kernel
theorem dX11_walker_101 : decode cX11_walker 101 = .ok (.getfield 197, 3) := by decide +kernel
theorem dX11_walker_104 : decode cX11_walker 104 = .ok (.iload_n 1, 1) := by decide +kernel
theorem dX11_walker_105 : decode cX11_walker 105 = .ok (.iaload, 1) := by decide +kernel
theorem dX11_walker_106 : decode cX11_walker 106 = .ok (.ireturn, 1) := by decide +kernel
theorem dX11_walker_107 : decode cX11_walker 107 = .ok (.aload_n 3, 1) := by decide +kernel
theorem dX11_walker_108 : decode cX11_walker 108 = .ok (.getfield 200, 3) := by decide +kernel
theorem dX11_walker_111 : decode cX11_walker 111 = .ok (.iload_n 1, 1) := by decide +kernel
theorem dX11_walker_112 : decode cX11_walker 112 = .ok (.iaload, 1) := by decide +kernel
theorem dX11_walker_113 : decode cX11_walker 113 = .ok (.ireturn, 1) := by decide +kernel
theorem dX11_walker_114 : decode cX11_walker 114 = .ok (.aload_n 0, 1) := by decide +kernel
theorem dX11_walker_115 : decode cX11_walker 115 = .ok (.iload_n 1, 1) := by decide +kernel
theorem dX11_walker_116 : decode cX11_walker 116 = .ok (.invokevirtual 201, 3) := by decide +kernel
theorem dX11_walker_119 : decode cX11_walker 119 = .ok (.ireturn, 1) := by decide +kernel
theorem dX11_walker_120 : decode cX11_walker 120 = .ok (.aload_n 3, 1) := by decide +kernel
theorem dX11_walker_121 : decode cX11_walker 121 = .ok (.iload_n 1, 1) := by decide +kernel
theorem dX11_walker_122 : decode cX11_walker 122 = .ok (.invokevirtual 204, 3) := by decide +kernel
theorem dX11_walker_125 : decode cX11_walker 125 = .ok (.ireturn, 1) := by decide +kernel
theorem dX11_walker_126 : decode cX11_walker 126 = .ok (.aload_n 3, 1) := by decide +kernel
theorem dX11_walker_127 : decode cX11_walker 127 = .ok (.getfield 207, 3) := by decide +kernel
theorem dX11_walker_130 : decode cX11_walker 130 = .ok (.iload_n 1, 1) := by decide +kernel
theorem dX11_walker_131 : decode cX11_walker 131 = .ok (.iaload, 1) := by decide +kernel
theorem dX11_walker_132 : decode cX11_walker 132 = .ok (.ireturn, 1) := by decide +kernel
theorem dX11_walker_133 : decode cX11_walker 133 = .ok (.aload_n 3, 1) := by decide +kernel
theorem dX11_walker_134 : decode cX11_walker 134 = .ok (.getfield 210, 3) := by decide +kernel
theorem dX11_walker_137 : decode cX11_walker 137 = .ok (.iload_n 1, 1) := by decide +kernel
theorem dX11_walker_138 : decode cX11_walker 138 = .ok (.iaload, 1) := by decide +kernel
theorem dX11_walker_139 : decode cX11_walker 139 = .ok (.ireturn, 1) := by decide +kernel
theorem dX11_walker_140 : decode cX11_walker 140 = .ok (.bipush (-2), 2) := by decide +kernel
theorem dX11_walker_142 : decode cX11_walker 142 = .ok (.ireturn, 1) := by decide +kernel
set_option maxRecDepth 20000 in
theorem ggX11_inside_X9_has : GoodIn wsX11_inside wsX9_has := goodIn_r _ [9, 10, 31, 32, 33, 34, 35, 36, 37, 38, 39] rfl (by decide +kernel)
set_option maxRecDepth 20000 in
theorem gX11_inside_X9_has : GoodIn wsX11_inside (wsV RX11 118 RX9 yX9_has wsX9_has) := goodIn_app (goodIn_of _ (by decide +kernel)) ggX11_inside_X9_has
set_option maxRecDepth 20000 in
theorem ggX11_inside_X11_memberAt : GoodIn wsX11_inside wsX11_memberAt := goodIn_r _ [14, 15, 16, 13, 17] rfl (by decide +kernel)
set_option maxRecDepth 20000 in
theorem gX11_inside_X11_memberAt : GoodIn wsX11_inside (va_wsS RX11 213 yX11_memberAt wsX11_memberAt) := goodIn_app (goodIn_of _ (by decide +kernel)) ggX11_inside_X11_memberAt
theorem dX11_inside_0 : decode cX11_inside 0 = .ok (.aload_n 0, 1) := by decide +kernel
theorem dX11_inside_1 : decode cX11_inside 1 = .ok (.getfield 12, 3) := by decide +kernel
theorem dX11_inside_4 : decode cX11_inside 4 = .ok (.getfield 48, 3) := by decide +kernel
theorem dX11_inside_7 : decode cX11_inside 7 = .ok (.getfield 108, 3) := by decide +kernel
theorem dX11_inside_10 : decode cX11_inside 10 = .ok (.astore_n 3, 1) := by decide +kernel
theorem dX11_inside_11 : decode cX11_inside 11 = .ok (.aload_n 3, 1) := by decide +kernel
theorem dX11_inside_12 : decode cX11_inside 12 = .ok (.iload_n 1, 1) := by decide +kernel
theorem dX11_inside_13 : decode cX11_inside 13 = .ok (.invokevirtual 118, 3) := by decide +kernel
theorem dX11_inside_16 : decode cX11_inside 16 = .ok (.ifCond .ne 5, 3) := by decide +kernel
theorem dX11_inside_19 : decode cX11_inside 19 = .ok (.iconst (-1), 1) := by decide +kernel
theorem dX11_inside_20 : decode cX11_inside 20 = .ok (.ireturn, 1) := by decide +kernel
theorem dX11_inside_21 : decode cX11_inside 21 = .ok (.iload_n 2, 1) := by decide +kernel
theorem dX11_inside_22 : decode cX11_inside 22 = .ok (.ifCond .ge 6, 3) := by decide +kernel
theorem dX11_inside_25 : decode cX11_inside 25 = .ok (.bipush (-2), 2) := by decide +kernel
theorem dX11_inside_27 : decode cX11_inside 27 = .ok (.ireturn, 1) := by decide +kernel
theorem dX11_inside_28 : decode cX11_inside 28 = .ok (.aload_n 3, 1) := by decide +kernel
theorem dX11_inside_29 : decode cX11_inside 29 = .ok (.getfield 187, 3) := by decide +kernel
theorem dX11_inside_32 : decode cX11_inside 32 = .ok (.iload_n 1, 1) := by decide +kernel
theorem dX11_inside_33 : decode cX11_inside 33 = .ok (.laload, 1) := by decide +kernel
theorem dX11_inside_34 : decode cX11_inside 34 = .ok (.iload_n 2, 1) := by decide +kernel
theorem dX11_inside_35 : decode cX11_inside 35 = .ok (.invokestatic 213, 3) := by decide +kernel
theorem dX11_inside_38 : decode cX11_inside 38 = .ok (.ireturn, 1) := by decide +kernel
set_option maxRecDepth 20000 in
theorem ggX11_ask_X11_isPlace : GoodIn wsX11_ask wsX11_isPlace := goodIn_r _ [9] rfl (by decide +kernel)
set_option maxRecDepth 20000 in
theorem gX11_ask_X11_isPlace : GoodIn wsX11_ask (va_wsS RX11 44 yX11_isPlace wsX11_isPlace) := goodIn_app (goodIn_of _ (by decide +kernel)) ggX11_ask_X11_isPlace
set_option maxRecDepth 20000 in
theorem ggX11_ask_X0_over : GoodIn wsX11_ask wsX0_over := goodIn_r _ [14, 15, 7, 8, 9, 115] rfl (by decide +kernel)
set_option maxRecDepth 20000 in
theorem gX11_ask_X0_over : GoodIn wsX11_ask (wsV RX11 221 RX0 yX0_over wsX0_over) := goodIn_app (goodIn_of _ (by decide +kernel)) ggX11_ask_X0_over
set_option maxRecDepth 20000 in
theorem ggX11_ask_J13_bitCount_95d88 : GoodIn wsX11_ask wsJ13_bitCount_95d88 := goodIn_r _ [19, 20, 21, 22] rfl (by decide +kernel)
set_option maxRecDepth 20000 in
theorem gX11_ask_J13_bitCount_95d88 : GoodIn wsX11_ask (va_wsS RX11 191 yJ13_bitCount_95d88 wsJ13_bitCount_95d88) := goodIn_app (goodIn_of _ (by decide +kernel)) ggX11_ask_J13_bitCount_95d88
set_option maxRecDepth 20000 in
theorem ggX11_ask_X8_nodesOnWay : GoodIn wsX11_ask wsX8_nodesOnWay := goodIn_r _ [27, 28, 29, 30, 31, 32, 33, 34, 35, 36, 37, 38, 39, 40, 41, 42, 43, 26, 44, 45, 46, 47, 48, 49, 50, 51, 52, 53, 54, 55, 56, 57, 58, 59, 60, 61, 62, 116, 117, 118, 119, 120, 121, 122, 123, 124] rfl (by decide +kernel)
set_option maxRecDepth 20000 in
theorem gX11_ask_X8_nodesOnWay : GoodIn wsX11_ask (wsV RX11 227 RX8 yX8_nodesOnWay wsX8_nodesOnWay) := goodIn_app (goodIn_of _ (by decide +kernel)) ggX11_ask_X8_nodesOnWay
set_option maxRecDepth 20000 in
theorem ggX11_ask_X8_spansLookedAt : GoodIn wsX11_ask wsX8_spansLookedAt := goodIn_r _ [66, 28, 46, 29, 30, 31, 32, 33, 34, 35, 36, 37, 38, 39, 40, 41, 42, 43, 26, 44, 45, 47, 48, 49, 50, 67, 68, 69, 70, 71, 72, 73, 74, 75, 76, 77, 78, 79, 80, 81, 82, 83, 84, 8, 85, 86, 87, 88, 89, 90, 51, 52, 53, 54, 55, 56, 57, 58, 59, 60, 61, 62, 116, 117, 118, 119, 120, 121, 122, 123, 124, 125, 126, 127, 128, 129, 130, 131, 132] rfl (by decide +kernel)
set_option maxRecDepth 20000 in
theorem gX11_ask_X8_spansLookedAt : GoodIn wsX11_ask (wsV RX11 230 RX8 yX8_spansLookedAt wsX8_spansLookedAt) := goodIn_app (goodIn_of _ (by decide +kernel)) ggX11_ask_X8_spansLookedAt
set_option maxRecDepth 20000 in
theorem ggX11_ask_X11_memberAt : GoodIn wsX11_ask wsX11_memberAt := goodIn_r _ [93, 94, 84, 8, 85] rfl (by decide +kernel)
set_option maxRecDepth 20000 in
theorem gX11_ask_X11_memberAt : GoodIn wsX11_ask (va_wsS RX11 213 yX11_memberAt wsX11_memberAt) := goodIn_app (goodIn_of _ (by decide +kernel)) ggX11_ask_X11_memberAt
set_option maxRecDepth 20000 in
theorem ggX11_ask_X5_shortestOf : GoodIn wsX11_ask wsX5_shortestOf := goodIn_r _ [98, 99, 100, 101, 84, 8, 85, 125, 126, 127, 128, 129, 130, 131, 132] rfl (by decide +kernel)
set_option maxRecDepth 20000 in
theorem gX11_ask_X5_shortestOf : GoodIn wsX11_ask (wsV RX11 234 RX5 yX5_shortestOf wsX5_shortestOf) := goodIn_app (goodIn_of _ (by decide +kernel)) ggX11_ask_X5_shortestOf
theorem dX11_ask_0 : decode cX11_ask 0 = .ok (.iload_n 1, 1) := by decide +kernel
theorem dX11_ask_1 : decode cX11_ask 1 = .ok (.invokestatic 44, 3) := by decide +kernel
theorem dX11_ask_4 : decode cX11_ask 4 = .ok (.ifCond .ne 6, 3) := by decide +kernel
theorem dX11_ask_7 : decode cX11_ask 7 = .ok (.bipush (-2), 2) := by decide +kernel
theorem dX11_ask_9 : decode cX11_ask 9 = .ok (.ireturn, 1) := by decide +kernel
theorem dX11_ask_10 : decode cX11_ask 10 = .ok (.iload_n 2, 1) := by decide +kernel
theorem dX11_ask_11 : decode cX11_ask 11 = .ok (.tableswitch 123 0 4 #[33, 48, 60, 82, 98], 33) := by decide +kernel
theorem dX11_ask_44 : decode cX11_ask 44 = .ok (.aload_n 0, 1) := by decide +kernel
theorem dX11_ask_45 : decode cX11_ask 45 = .ok (.getfield 12, 3) := by decide +kernel
theorem dX11_ask_48 : decode cX11_ask 48 = .ok (.getfield 217, 3) := by decide +kernel
theorem dX11_ask_51 : decode cX11_ask 51 = .ok (.iload_n 1, 1) := by decide +kernel
theorem dX11_ask_52 : decode cX11_ask 52 = .ok (.invokevirtual 221, 3) := by decide +kernel
theorem dX11_ask_55 : decode cX11_ask 55 = .ok (.invokestatic 191, 3) := by decide +kernel
theorem dX11_ask_58 : decode cX11_ask 58 = .ok (.ireturn, 1) := by decide +kernel
theorem dX11_ask_59 : decode cX11_ask 59 = .ok (.aload_n 0, 1) := by decide +kernel
theorem dX11_ask_60 : decode cX11_ask 60 = .ok (.getfield 12, 3) := by decide +kernel
theorem dX11_ask_63 : decode cX11_ask 63 = .ok (.getfield 166, 3) := by decide +kernel
theorem dX11_ask_66 : decode cX11_ask 66 = .ok (.iload_n 1, 1) := by decide +kernel
theorem dX11_ask_67 : decode cX11_ask 67 = .ok (.invokevirtual 227, 3) := by decide +kernel
theorem dX11_ask_70 : decode cX11_ask 70 = .ok (.ireturn, 1) := by decide +kernel
theorem dX11_ask_71 : decode cX11_ask 71 = .ok (.aload_n 0, 1) := by decide +kernel
theorem dX11_ask_72 : decode cX11_ask 72 = .ok (.getfield 12, 3) := by decide +kernel
theorem dX11_ask_75 : decode cX11_ask 75 = .ok (.getfield 166, 3) := by decide +kernel
theorem dX11_ask_78 : decode cX11_ask 78 = .ok (.iload_n 1, 1) := by decide +kernel
theorem dX11_ask_79 : decode cX11_ask 79 = .ok (.aload_n 0, 1) := by decide +kernel
theorem dX11_ask_80 : decode cX11_ask 80 = .ok (.getfield 12, 3) := by decide +kernel
theorem dX11_ask_83 : decode cX11_ask 83 = .ok (.getfield 48, 3) := by decide +kernel
theorem dX11_ask_86 : decode cX11_ask 86 = .ok (.getfield 51, 3) := by decide +kernel
theorem dX11_ask_89 : decode cX11_ask 89 = .ok (.invokevirtual 230, 3) := by decide +kernel
theorem dX11_ask_92 : decode cX11_ask 92 = .ok (.ireturn, 1) := by decide +kernel
theorem dX11_ask_93 : decode cX11_ask 93 = .ok (.aload_n 0, 1) := by decide +kernel
theorem dX11_ask_94 : decode cX11_ask 94 = .ok (.getfield 12, 3) := by decide +kernel
theorem dX11_ask_97 : decode cX11_ask 97 = .ok (.getfield 217, 3) := by decide +kernel
theorem dX11_ask_100 : decode cX11_ask 100 = .ok (.iload_n 1, 1) := by decide +kernel
theorem dX11_ask_101 : decode cX11_ask 101 = .ok (.invokevirtual 221, 3) := by decide +kernel
theorem dX11_ask_104 : decode cX11_ask 104 = .ok (.iconst 0, 1) := by decide +kernel
theorem dX11_ask_105 : decode cX11_ask 105 = .ok (.invokestatic 213, 3) := by decide +kernel
theorem dX11_ask_108 : decode cX11_ask 108 = .ok (.ireturn, 1) := by decide +kernel
theorem dX11_ask_109 : decode cX11_ask 109 = .ok (.aload_n 0, 1) := by decide +kernel
theorem dX11_ask_110 : decode cX11_ask 110 = .ok (.getfield 12, 3) := by decide +kernel
theorem dX11_ask_113 : decode cX11_ask 113 = .ok (.getfield 48, 3) := by decide +kernel
theorem dX11_ask_116 : decode cX11_ask 116 = .ok (.getfield 51, 3) := by decide +kernel
theorem dX11_ask_119 : decode cX11_ask 119 = .ok (.aload_n 0, 1) := by decide +kernel
theorem dX11_ask_120 : decode cX11_ask 120 = .ok (.getfield 12, 3) := by decide +kernel
theorem dX11_ask_123 : decode cX11_ask 123 = .ok (.getfield 217, 3) := by decide +kernel
theorem dX11_ask_126 : decode cX11_ask 126 = .ok (.iload_n 1, 1) := by decide +kernel
theorem dX11_ask_127 : decode cX11_ask 127 = .ok (.invokevirtual 221, 3) := by decide +kernel
theorem dX11_ask_130 : decode cX11_ask 130 = .ok (.invokevirtual 234, 3) := by decide +kernel
theorem dX11_ask_133 : decode cX11_ask 133 = .ok (.ireturn, 1) := by decide +kernel
theorem dX11_ask_134 : decode cX11_ask 134 = .ok (.bipush (-2), 2) := by decide +kernel
theorem dX11_ask_136 : decode cX11_ask 136 = .ok (.ireturn, 1) := by decide +kernel
set_option maxRecDepth 20000 in
theorem ggX11_free_X11_isPlace : GoodIn wsX11_free wsX11_isPlace := goodIn_r _ [6] rfl (by decide +kernel)
set_option maxRecDepth 20000 in
theorem gX11_free_X11_isPlace : GoodIn wsX11_free (va_wsS RX11 44 yX11_isPlace wsX11_isPlace) := goodIn_app (goodIn_of _ (by decide +kernel)) ggX11_free_X11_isPlace
set_option maxRecDepth 20000 in
theorem ggX11_free_X0_freeToTheRight : GoodIn wsX11_free wsX0_freeToTheRight := goodIn_r _ [11, 12, 13, 14, 15, 16, 33] rfl (by decide +kernel)
set_option maxRecDepth 20000 in
theorem gX11_free_X0_freeToTheRight : GoodIn wsX11_free (wsV RX11 237 RX0 yX0_freeToTheRight wsX0_freeToTheRight) := goodIn_app (goodIn_of _ (by decide +kernel)) ggX11_free_X0_freeToTheRight
set_option maxRecDepth 20000 in
theorem ggX11_free_X0_freeToTheLeft : GoodIn wsX11_free wsX0_freeToTheLeft := goodIn_r _ [20, 21, 22, 14, 23, 16, 33] rfl (by decide +kernel)
set_option maxRecDepth 20000 in
theorem gX11_free_X0_freeToTheLeft : GoodIn wsX11_free (wsV RX11 240 RX0 yX0_freeToTheLeft wsX0_freeToTheLeft) := goodIn_app (goodIn_of _ (by decide +kernel)) ggX11_free_X0_freeToTheLeft
theorem dX11_free_0 : decode cX11_free 0 = .ok (.iload_n 1, 1) := by decide +kernel
theorem dX11_free_1 : decode cX11_free 1 = .ok (.invokestatic 44, 3) := by decide +kernel
theorem dX11_free_4 : decode cX11_free 4 = .ok (.ifCond .ne 6, 3) := by decide +kernel
theorem dX11_free_7 : decode cX11_free 7 = .ok (.bipush (-2), 2) := by decide +kernel
theorem dX11_free_9 : decode cX11_free 9 = .ok (.ireturn, 1) := by decide +kernel
theorem dX11_free_10 : decode cX11_free 10 = .ok (.iload_n 2, 1) := by decide +kernel
theorem dX11_free_11 : decode cX11_free 11 = .ok (.ifCond .eq 17, 3) := by decide +kernel
theorem dX11_free_14 : decode cX11_free 14 = .ok (.aload_n 0, 1) := by decide +kernel
theorem dX11_free_15 : decode cX11_free 15 = .ok (.getfield 12, 3) := by decide +kernel
theorem dX11_free_18 : decode cX11_free 18 = .ok (.getfield 217, 3) := by decide +kernel
theorem dX11_free_21 : decode cX11_free 21 = .ok (.iload_n 1, 1) := by decide +kernel
theorem dX11_free_22 : decode cX11_free 22 = .ok (.invokevirtual 237, 3) := by decide +kernel
theorem dX11_free_25 : decode cX11_free 25 = .ok (.goto 14, 3) := by decide +kernel
theorem dX11_free_28 : decode cX11_free 28 = .ok (.aload_n 0, 1) := by decide +kernel
theorem dX11_free_29 : decode cX11_free 29 = .ok (.getfield 12, 3) := by decide +kernel
theorem dX11_free_32 : decode cX11_free 32 = .ok (.getfield 217, 3) := by decide +kernel
theorem dX11_free_35 : decode cX11_free 35 = .ok (.iload_n 1, 1) := by decide +kernel
theorem dX11_free_36 : decode cX11_free 36 = .ok (.invokevirtual 240, 3) := by decide +kernel
theorem dX11_free_39 : decode cX11_free 39 = .ok (.ireturn, 1) := by decide +kernel
set_option maxRecDepth 20000 in
theorem ggX11_most_X0_fullestPlace : GoodIn wsX11_most wsX0_fullestPlace := goodIn_r _ [7, 8, 9, 10, 11, 12, 13, 14, 15, 37] rfl (by decide +kernel)
set_option maxRecDepth 20000 in
theorem gX11_most_X0_fullestPlace : GoodIn wsX11_most (wsV RX11 243 RX0 yX0_fullestPlace wsX0_fullestPlace) := goodIn_app (goodIn_of _ (by decide +kernel)) ggX11_most_X0_fullestPlace
set_option maxRecDepth 20000 in
theorem ggX11_most_X0_over : GoodIn wsX11_most wsX0_over := goodIn_r _ [19, 8, 20, 21, 22, 37] rfl (by decide +kernel)
set_option maxRecDepth 20000 in
theorem gX11_most_X0_over : GoodIn wsX11_most (wsV RX11 221 RX0 yX0_over wsX0_over) := goodIn_app (goodIn_of _ (by decide +kernel)) ggX11_most_X0_over
set_option maxRecDepth 20000 in
theorem ggX11_most_J13_bitCount_95d88 : GoodIn wsX11_most wsJ13_bitCount_95d88 := goodIn_r _ [12, 13, 14, 15] rfl (by decide +kernel)
set_option maxRecDepth 20000 in
theorem gX11_most_J13_bitCount_95d88 : GoodIn wsX11_most (va_wsS RX11 191 yJ13_bitCount_95d88 wsJ13_bitCount_95d88) := goodIn_app (goodIn_of _ (by decide +kernel)) ggX11_most_J13_bitCount_95d88
set_option maxRecDepth 20000 in
theorem ggX11_most_X0_countFree : GoodIn wsX11_most wsX0_countFree := goodIn_r _ [27, 8, 37] rfl (by decide +kernel)
set_option maxRecDepth 20000 in
theorem gX11_most_X0_countFree : GoodIn wsX11_most (wsV RX11 246 RX0 yX0_countFree wsX0_countFree) := goodIn_app (goodIn_of _ (by decide +kernel)) ggX11_most_X0_countFree
theorem dX11_most_0 : decode cX11_most 0 = .ok (.iload_n 1, 1) := by decide +kernel
theorem dX11_most_1 : decode cX11_most 1 = .ok (.tableswitch 73 0 2 #[27, 38, 62], 27) := by decide +kernel
theorem dX11_most_28 : decode cX11_most 28 = .ok (.aload_n 0, 1) := by decide +kernel
theorem dX11_most_29 : decode cX11_most 29 = .ok (.getfield 12, 3) := by decide +kernel
theorem dX11_most_32 : decode cX11_most 32 = .ok (.getfield 217, 3) := by decide +kernel
theorem dX11_most_35 : decode cX11_most 35 = .ok (.invokevirtual 243, 3) := by decide +kernel
theorem dX11_most_38 : decode cX11_most 38 = .ok (.ireturn, 1) := by decide +kernel
theorem dX11_most_39 : decode cX11_most 39 = .ok (.aload_n 0, 1) := by decide +kernel
theorem dX11_most_40 : decode cX11_most 40 = .ok (.getfield 12, 3) := by decide +kernel
theorem dX11_most_43 : decode cX11_most 43 = .ok (.getfield 217, 3) := by decide +kernel
theorem dX11_most_46 : decode cX11_most 46 = .ok (.aload_n 0, 1) := by decide +kernel
theorem dX11_most_47 : decode cX11_most 47 = .ok (.getfield 12, 3) := by decide +kernel
theorem dX11_most_50 : decode cX11_most 50 = .ok (.getfield 217, 3) := by decide +kernel
theorem dX11_most_53 : decode cX11_most 53 = .ok (.invokevirtual 243, 3) := by decide +kernel
theorem dX11_most_56 : decode cX11_most 56 = .ok (.invokevirtual 221, 3) := by decide +kernel
theorem dX11_most_59 : decode cX11_most 59 = .ok (.invokestatic 191, 3) := by decide +kernel
theorem dX11_most_62 : decode cX11_most 62 = .ok (.ireturn, 1) := by decide +kernel
theorem dX11_most_63 : decode cX11_most 63 = .ok (.aload_n 0, 1) := by decide +kernel
theorem dX11_most_64 : decode cX11_most 64 = .ok (.getfield 12, 3) := by decide +kernel
theorem dX11_most_67 : decode cX11_most 67 = .ok (.getfield 217, 3) := by decide +kernel
theorem dX11_most_70 : decode cX11_most 70 = .ok (.invokevirtual 246, 3) := by decide +kernel
theorem dX11_most_73 : decode cX11_most 73 = .ok (.ireturn, 1) := by decide +kernel
theorem dX11_most_74 : decode cX11_most 74 = .ok (.bipush (-2), 2) := by decide +kernel
theorem dX11_most_76 : decode cX11_most 76 = .ok (.ireturn, 1) := by decide +kernel
set_option maxRecDepth 20000 in
theorem ggX11_changesIn_X9_has : GoodIn wsX11_changesIn wsX9_has := goodIn_r _ [8, 9, 50, 51, 52, 53, 54, 55, 56, 57, 58] rfl (by decide +kernel)
set_option maxRecDepth 20000 in
theorem gX11_changesIn_X9_has : GoodIn wsX11_changesIn (wsV RX11 118 RX9 yX9_has wsX9_has) := goodIn_app (goodIn_of _ (by decide +kernel)) ggX11_changesIn_X9_has
set_option maxRecDepth 20000 in
theorem ggX11_changesIn_X2_ticksToChange : GoodIn wsX11_changesIn wsX2_ticksToChange := goodIn_r _ [14, 15, 16, 17, 18, 19, 20, 21, 22, 23, 24, 25, 26, 27, 28, 29, 30, 31, 32, 33, 34, 35, 36, 43, 44, 45, 46, 47, 48, 49, 50, 51, 52, 53, 54, 55, 56, 57, 58, 59] rfl (by decide +kernel)
set_option maxRecDepth 20000 in
theorem gX11_changesIn_X2_ticksToChange : GoodIn wsX11_changesIn (wsV RX11 249 RX2 yX2_ticksToChange wsX2_ticksToChange) := goodIn_app (goodIn_of _ (by decide +kernel)) ggX11_changesIn_X2_ticksToChange
theorem dX11_changesIn_0 : decode cX11_changesIn 0 = .ok (.aload_n 0, 1) := by decide +kernel
theorem dX11_changesIn_1 : decode cX11_changesIn 1 = .ok (.getfield 12, 3) := by decide +kernel
theorem dX11_changesIn_4 : decode cX11_changesIn 4 = .ok (.getfield 48, 3) := by decide +kernel
theorem dX11_changesIn_7 : decode cX11_changesIn 7 = .ok (.getfield 108, 3) := by decide +kernel
theorem dX11_changesIn_10 : decode cX11_changesIn 10 = .ok (.iload_n 1, 1) := by decide +kernel
theorem dX11_changesIn_11 : decode cX11_changesIn 11 = .ok (.invokevirtual 118, 3) := by decide +kernel
theorem dX11_changesIn_14 : decode cX11_changesIn 14 = .ok (.ifCond .ne 5, 3) := by decide +kernel
theorem dX11_changesIn_17 : decode cX11_changesIn 17 = .ok (.iconst (-1), 1) := by decide +kernel
theorem dX11_changesIn_18 : decode cX11_changesIn 18 = .ok (.ireturn, 1) := by decide +kernel
theorem dX11_changesIn_19 : decode cX11_changesIn 19 = .ok (.aload_n 0, 1) := by decide +kernel
theorem dX11_changesIn_20 : decode cX11_changesIn 20 = .ok (.getfield 12, 3) := by decide +kernel
theorem dX11_changesIn_23 : decode cX11_changesIn 23 = .ok (.iload_n 1, 1) := by decide +kernel
theorem dX11_changesIn_24 : decode cX11_changesIn 24 = .ok (.invokevirtual 249, 3) := by decide +kernel
theorem dX11_changesIn_27 : decode cX11_changesIn 27 = .ok (.ireturn, 1) := by decide +kernel
set_option maxRecDepth 20000 in
theorem ggX11_meetIn_X9_has : GoodIn wsX11_meetIn wsX9_has := goodIn_r _ [8, 9, 40, 41, 42, 43, 44, 45, 46, 47, 48] rfl (by decide +kernel)
set_option maxRecDepth 20000 in
theorem gX11_meetIn_X9_has : GoodIn wsX11_meetIn (wsV RX11 118 RX9 yX9_has wsX9_has) := goodIn_app (goodIn_of _ (by decide +kernel)) ggX11_meetIn_X9_has
set_option maxRecDepth 20000 in
theorem ggX11_meetIn_X9_ticksToMeet : GoodIn wsX11_meetIn wsX9_ticksToMeet := goodIn_r _ [13, 14, 15, 16, 17, 18, 19, 20, 21, 22, 23, 24, 25, 26, 40, 41, 42, 43, 44, 45, 46, 47, 48] rfl (by decide +kernel)
set_option maxRecDepth 20000 in
theorem gX11_meetIn_X9_ticksToMeet : GoodIn wsX11_meetIn (wsV RX11 252 RX9 yX9_ticksToMeet wsX9_ticksToMeet) := goodIn_app (goodIn_of _ (by decide +kernel)) ggX11_meetIn_X9_ticksToMeet
theorem dX11_meetIn_0 : decode cX11_meetIn 0 = .ok (.aload_n 0, 1) := by decide +kernel
theorem dX11_meetIn_1 : decode cX11_meetIn 1 = .ok (.getfield 12, 3) := by decide +kernel
theorem dX11_meetIn_4 : decode cX11_meetIn 4 = .ok (.getfield 48, 3) := by decide +kernel
theorem dX11_meetIn_7 : decode cX11_meetIn 7 = .ok (.getfield 108, 3) := by decide +kernel
theorem dX11_meetIn_10 : decode cX11_meetIn 10 = .ok (.iload_n 1, 1) := by decide +kernel
theorem dX11_meetIn_11 : decode cX11_meetIn 11 = .ok (.invokevirtual 118, 3) := by decide +kernel
