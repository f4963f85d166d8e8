theorem dX4_allAreSpans_24 : decode cX4_allAreSpans 24 = .ok (.iaload, 1) := by decide +kernel
theorem dX4_allAreSpans_25 : decode cX4_allAreSpans 25 = .ok (.goto 11, 3) := by decide +kernel
theorem dX4_allAreSpans_28 : decode cX4_allAreSpans 28 = .ok (.aload_n 0, 1) := by decide +kernel
theorem dX4_allAreSpans_29 : decode cX4_allAreSpans 29 = .ok (.getfield 11, 3) := by decide +kernel
theorem dX4_allAreSpans_32 : decode cX4_allAreSpans 32 = .ok (.iload_n 1, 1) := by decide +kernel
theorem dX4_allAreSpans_33 : decode cX4_allAreSpans 33 = .ok (.iaload, 1) := by decide +kernel
theorem dX4_allAreSpans_34 : decode cX4_allAreSpans 34 = .ok (.iconst 1, 1) := by decide +kernel
theorem dX4_allAreSpans_35 : decode cX4_allAreSpans 35 = .ok (.iadd, 1) := by decide +kernel
theorem dX4_allAreSpans_36 : decode cX4_allAreSpans 36 = .ok (.istore_n 2, 1) := by decide +kernel
theorem dX4_allAreSpans_37 : decode cX4_allAreSpans 37 = .ok (.aload_n 0, 1) := by decide +kernel
theorem dX4_allAreSpans_38 : decode cX4_allAreSpans 38 = .ok (.getfield 22, 3) := by decide +kernel
theorem dX4_allAreSpans_41 : decode cX4_allAreSpans 41 = .ok (.iload_n 1, 1) := by decide +kernel
theorem dX4_allAreSpans_42 : decode cX4_allAreSpans 42 = .ok (.baload, 1) := by decide +kernel
theorem dX4_allAreSpans_43 : decode cX4_allAreSpans 43 = .ok (.ifCond .eq 12, 3) := by decide +kernel
theorem dX4_allAreSpans_46 : decode cX4_allAreSpans 46 = .ok (.aload_n 0, 1) := by decide +kernel
theorem dX4_allAreSpans_47 : decode cX4_allAreSpans 47 = .ok (.getfield 15, 3) := by decide +kernel
theorem dX4_allAreSpans_50 : decode cX4_allAreSpans 50 = .ok (.iload_n 1, 1) := by decide +kernel
theorem dX4_allAreSpans_51 : decode cX4_allAreSpans 51 = .ok (.iaload, 1) := by decide +kernel
theorem dX4_allAreSpans_52 : decode cX4_allAreSpans 52 = .ok (.goto 11, 3) := by decide +kernel
theorem dX4_allAreSpans_55 : decode cX4_allAreSpans 55 = .ok (.aload_n 0, 1) := by decide +kernel
theorem dX4_allAreSpans_56 : decode cX4_allAreSpans 56 = .ok (.getfield 15, 3) := by decide +kernel
theorem dX4_allAreSpans_59 : decode cX4_allAreSpans 59 = .ok (.iload_n 1, 1) := by decide +kernel
theorem dX4_allAreSpans_60 : decode cX4_allAreSpans 60 = .ok (.iaload, 1) := by decide +kernel
theorem dX4_allAreSpans_61 : decode cX4_allAreSpans 61 = .ok (.iconst 1, 1) := by decide +kernel
theorem dX4_allAreSpans_62 : decode cX4_allAreSpans 62 = .ok (.isub, 1) := by decide +kernel
theorem dX4_allAreSpans_63 : decode cX4_allAreSpans 63 = .ok (.istore_n 3, 1) := by decide +kernel
theorem dX4_allAreSpans_64 : decode cX4_allAreSpans 64 = .ok (.aload_n 0, 1) := by decide +kernel
theorem dX4_allAreSpans_65 : decode cX4_allAreSpans 65 = .ok (.getfield 11, 3) := by decide +kernel
theorem dX4_allAreSpans_68 : decode cX4_allAreSpans 68 = .ok (.iload_n 1, 1) := by decide +kernel
theorem dX4_allAreSpans_69 : decode cX4_allAreSpans 69 = .ok (.iaload, 1) := by decide +kernel
theorem dX4_allAreSpans_70 : decode cX4_allAreSpans 70 = .ok (.sipush 1000, 3) := by decide +kernel
theorem dX4_allAreSpans_73 : decode cX4_allAreSpans 73 = .ok (.if_icmp .gt 35, 3) := by decide +kernel
theorem dX4_allAreSpans_76 : decode cX4_allAreSpans 76 = .ok (.aload_n 0, 1) := by decide +kernel
theorem dX4_allAreSpans_77 : decode cX4_allAreSpans 77 = .ok (.getfield 15, 3) := by decide +kernel
theorem dX4_allAreSpans_80 : decode cX4_allAreSpans 80 = .ok (.iload_n 1, 1) := by decide +kernel
theorem dX4_allAreSpans_81 : decode cX4_allAreSpans 81 = .ok (.iaload, 1) := by decide +kernel
theorem dX4_allAreSpans_82 : decode cX4_allAreSpans 82 = .ok (.sipush 1000, 3) := by decide +kernel
theorem dX4_allAreSpans_85 : decode cX4_allAreSpans 85 = .ok (.if_icmp .gt 23, 3) := by decide +kernel
theorem dX4_allAreSpans_88 : decode cX4_allAreSpans 88 = .ok (.aload_n 0, 1) := by decide +kernel
theorem dX4_allAreSpans_89 : decode cX4_allAreSpans 89 = .ok (.getfield 15, 3) := by decide +kernel
theorem dX4_allAreSpans_92 : decode cX4_allAreSpans 92 = .ok (.iload_n 1, 1) := by decide +kernel
theorem dX4_allAreSpans_93 : decode cX4_allAreSpans 93 = .ok (.iaload, 1) := by decide +kernel
theorem dX4_allAreSpans_94 : decode cX4_allAreSpans 94 = .ok (.aload_n 0, 1) := by decide +kernel
theorem dX4_allAreSpans_95 : decode cX4_allAreSpans 95 = .ok (.getfield 11, 3) := by decide +kernel
theorem dX4_allAreSpans_98 : decode cX4_allAreSpans 98 = .ok (.iload_n 1, 1) := by decide +kernel
theorem dX4_allAreSpans_99 : decode cX4_allAreSpans 99 = .ok (.iaload, 1) := by decide +kernel
theorem dX4_allAreSpans_100 : decode cX4_allAreSpans 100 = .ok (.if_icmp .lt 8, 3) := by decide +kernel
theorem dX4_allAreSpans_103 : decode cX4_allAreSpans 103 = .ok (.iload_n 2, 1) := by decide +kernel
theorem dX4_allAreSpans_104 : decode cX4_allAreSpans 104 = .ok (.iload_n 3, 1) := by decide +kernel
theorem dX4_allAreSpans_105 : decode cX4_allAreSpans 105 = .ok (.if_icmp .le 5, 3) := by decide +kernel
theorem dX4_allAreSpans_108 : decode cX4_allAreSpans 108 = .ok (.iconst 0, 1) := by decide +kernel
theorem dX4_allAreSpans_109 : decode cX4_allAreSpans 109 = .ok (.ireturn, 1) := by decide +kernel
theorem dX4_allAreSpans_110 : decode cX4_allAreSpans 110 = .ok (.iinc 1 1, 3) := by decide +kernel
theorem dX4_allAreSpans_113 : decode cX4_allAreSpans 113 = .ok (.goto (-111), 3) := by decide +kernel
theorem dX4_allAreSpans_116 : decode cX4_allAreSpans 116 = .ok (.iconst 1, 1) := by decide +kernel
theorem dX4_allAreSpans_117 : decode cX4_allAreSpans 117 = .ok (.ireturn, 1) := by decide +kernel
theorem dX5_init_0 : decode cX5_init 0 = .ok (.aload_n 0, 1) := by decide +kernel
theorem dX5_init_1 : decode cX5_init 1 = .ok (.invokespecial 3, 3) := by decide +kernel
theorem dX5_init_4 : decode cX5_init 4 = .ok (.aload_n 0, 1) := by decide +kernel
theorem dX5_init_5 : decode cX5_init 5 = .ok (.bipush 60, 2) := by decide +kernel
theorem dX5_init_7 : decode cX5_init 7 = .ok (.newarray .int, 2) := by decide +kernel
theorem dX5_init_9 : decode cX5_init 9 = .ok (.putfield 9, 3) := by decide +kernel
theorem dX5_init_12 : decode cX5_init 12 = .ok (.aload_n 0, 1) := by decide +kernel
theorem dX5_init_13 : decode cX5_init 13 = .ok (.bipush 60, 2) := by decide +kernel
theorem dX5_init_15 : decode cX5_init 15 = .ok (.newarray .int, 2) := by decide +kernel
theorem dX5_init_17 : decode cX5_init 17 = .ok (.putfield 15, 3) := by decide +kernel
theorem dX5_init_20 : decode cX5_init 20 = .ok (.aload_n 0, 1) := by decide +kernel
theorem dX5_init_21 : decode cX5_init 21 = .ok (.bipush 60, 2) := by decide +kernel
theorem dX5_init_23 : decode cX5_init 23 = .ok (.newarray .int, 2) := by decide +kernel
theorem dX5_init_25 : decode cX5_init 25 = .ok (.putfield 18, 3) := by decide +kernel
theorem dX5_init_28 : decode cX5_init 28 = .ok (.aload_n 0, 1) := by decide +kernel
theorem dX5_init_29 : decode cX5_init 29 = .ok (.bipush 60, 2) := by decide +kernel
theorem dX5_init_31 : decode cX5_init 31 = .ok (.newarray .int, 2) := by decide +kernel
theorem dX5_init_33 : decode cX5_init 33 = .ok (.putfield 21, 3) := by decide +kernel
theorem dX5_init_36 : decode cX5_init 36 = .ok (.aload_n 0, 1) := by decide +kernel
theorem dX5_init_37 : decode cX5_init 37 = .ok (.bipush 60, 2) := by decide +kernel
theorem dX5_init_39 : decode cX5_init 39 = .ok (.newarray .int, 2) := by decide +kernel
theorem dX5_init_41 : decode cX5_init 41 = .ok (.putfield 24, 3) := by decide +kernel
theorem dX5_init_44 : decode cX5_init 44 = .ok (.aload_n 0, 1) := by decide +kernel
theorem dX5_init_45 : decode cX5_init 45 = .ok (.bipush 60, 2) := by decide +kernel
theorem dX5_init_47 : decode cX5_init 47 = .ok (.newarray .int, 2) := by decide +kernel
theorem dX5_init_49 : decode cX5_init 49 = .ok (.putfield 27, 3) := by decide +kernel
theorem dX5_init_52 : decode cX5_init 52 = .ok (.return_, 1) := by decide +kernel
set_option maxRecDepth 20000 in
theorem ggX5_has_X5_isThere : GoodIn wsX5_has wsX5_isThere := goodIn_r _ [6, 7, 8, 9, 10, 11, 12, 13, 14, 15, 16, 17, 18] rfl (by decide +kernel)
set_option maxRecDepth 20000 in
theorem gX5_has_X5_isThere : GoodIn wsX5_has (wsV RX5 34 RX5 yX5_isThere wsX5_isThere) := goodIn_app (goodIn_of _ (by decide +kernel)) ggX5_has_X5_isThere
theorem dX5_has_0 : decode cX5_has 0 = .ok (.iload_n 1, 1) := by decide +kernel
theorem dX5_has_1 : decode cX5_has 1 = .ok (.ifCond .lt 23, 3) := by decide +kernel
theorem dX5_has_4 : decode cX5_has 4 = .ok (.iload_n 1, 1) := by decide +kernel
theorem dX5_has_5 : decode cX5_has 5 = .ok (.aload_n 0, 1) := by decide +kernel
theorem dX5_has_6 : decode cX5_has 6 = .ok (.getfield 30, 3) := by decide +kernel
theorem dX5_has_9 : decode cX5_has 9 = .ok (.if_icmp .ge 15, 3) := by decide +kernel
theorem dX5_has_12 : decode cX5_has 12 = .ok (.aload_n 0, 1) := by decide +kernel
theorem dX5_has_13 : decode cX5_has 13 = .ok (.iload_n 1, 1) := by decide +kernel
theorem dX5_has_14 : decode cX5_has 14 = .ok (.invokevirtual 34, 3) := by decide +kernel
theorem dX5_has_17 : decode cX5_has 17 = .ok (.ifCond .eq 7, 3) := by decide +kernel
theorem dX5_has_20 : decode cX5_has 20 = .ok (.iconst 1, 1) := by decide +kernel
theorem dX5_has_21 : decode cX5_has 21 = .ok (.goto 4, 3) := by decide +kernel
theorem dX5_has_24 : decode cX5_has 24 = .ok (.iconst 0, 1) := by decide +kernel
theorem dX5_has_25 : decode cX5_has 25 = .ok (.ireturn, 1) := by decide +kernel
set_option maxRecDepth 20000 in
theorem ggX5_isThere_X11_isMember : GoodIn wsX5_isThere wsX11_isMember := goodIn_r _ [4] rfl (by decide +kernel)
set_option maxRecDepth 20000 in
theorem gX5_isThere_X11_isMember_n42 : GoodIn wsX5_isThere (wsX11_isMember) := ggX5_isThere_X11_isMember
theorem dX5_isThere_0 : decode cX5_isThere 0 = .ok (.aload_n 0, 1) := by decide +kernel
theorem dX5_isThere_1 : decode cX5_isThere 1 = .ok (.getfield 38, 3) := by decide +kernel
theorem dX5_isThere_4 : decode cX5_isThere 4 = .ok (.iload_n 1, 1) := by decide +kernel
theorem dX5_isThere_5 : decode cX5_isThere 5 = .ok (.invokestatic 42, 3) := by decide +kernel
theorem dX5_isThere_8 : decode cX5_isThere 8 = .ok (.ireturn, 1) := by decide +kernel
theorem dX5_append_0 : decode cX5_append 0 = .ok (.aload_n 0, 1) := by decide +kernel
theorem dX5_append_1 : decode cX5_append 1 = .ok (.getfield 30, 3) := by decide +kernel
theorem dX5_append_4 : decode cX5_append 4 = .ok (.bipush 60, 2) := by decide +kernel
theorem dX5_append_6 : decode cX5_append 6 = .ok (.if_icmp .lt 6, 3) := by decide +kernel
theorem dX5_append_9 : decode cX5_append 9 = .ok (.bipush (-3), 2) := by decide +kernel
theorem dX5_append_11 : decode cX5_append 11 = .ok (.ireturn, 1) := by decide +kernel
theorem dX5_append_12 : decode cX5_append 12 = .ok (.aload_n 0, 1) := by decide +kernel
theorem dX5_append_13 : decode cX5_append 13 = .ok (.getfield 30, 3) := by decide +kernel
theorem dX5_append_16 : decode cX5_append 16 = .ok (.istore 5, 2) := by decide +kernel
theorem dX5_append_18 : decode cX5_append 18 = .ok (.aload_n 0, 1) := by decide +kernel
theorem dX5_append_19 : decode cX5_append 19 = .ok (.dup, 1) := by decide +kernel
theorem dX5_append_20 : decode cX5_append 20 = .ok (.getfield 30, 3) := by decide +kernel
theorem dX5_append_23 : decode cX5_append 23 = .ok (.iconst 1, 1) := by decide +kernel
theorem dX5_append_24 : decode cX5_append 24 = .ok (.iadd, 1) := by decide +kernel
theorem dX5_append_25 : decode cX5_append 25 = .ok (.putfield 30, 3) := by decide +kernel
theorem dX5_append_28 : decode cX5_append 28 = .ok (.aload_n 0, 1) := by decide +kernel
theorem dX5_append_29 : decode cX5_append 29 = .ok (.dup, 1) := by decide +kernel
theorem dX5_append_30 : decode cX5_append 30 = .ok (.getfield 38, 3) := by decide +kernel
theorem dX5_append_33 : decode cX5_append 33 = .ok (.lconst 1, 1) := by decide +kernel
theorem dX5_append_34 : decode cX5_append 34 = .ok (.iload 5, 2) := by decide +kernel
theorem dX5_append_36 : decode cX5_append 36 = .ok (.lshl, 1) := by decide +kernel
theorem dX5_append_37 : decode cX5_append 37 = .ok (.lor, 1) := by decide +kernel
theorem dX5_append_38 : decode cX5_append 38 = .ok (.putfield 38, 3) := by decide +kernel
theorem dX5_append_41 : decode cX5_append 41 = .ok (.aload_n 0, 1) := by decide +kernel
theorem dX5_append_42 : decode cX5_append 42 = .ok (.getfield 9, 3) := by decide +kernel
theorem dX5_append_45 : decode cX5_append 45 = .ok (.iload 5, 2) := by decide +kernel
theorem dX5_append_47 : decode cX5_append 47 = .ok (.iload_n 1, 1) := by decide +kernel
theorem dX5_append_48 : decode cX5_append 48 = .ok (.iastore, 1) := by decide +kernel
theorem dX5_append_49 : decode cX5_append 49 = .ok (.aload_n 0, 1) := by decide +kernel
theorem dX5_append_50 : decode cX5_append 50 = .ok (.getfield 15, 3) := by decide +kernel
theorem dX5_append_53 : decode cX5_append 53 = .ok (.iload 5, 2) := by decide +kernel
theorem dX5_append_55 : decode cX5_append 55 = .ok (.iload_n 2, 1) := by decide +kernel
theorem dX5_append_56 : decode cX5_append 56 = .ok (.iastore, 1) := by decide +kernel
theorem dX5_append_57 : decode cX5_append 57 = .ok (.aload_n 0, 1) := by decide +kernel
theorem dX5_append_58 : decode cX5_append 58 = .ok (.getfield 18, 3) := by decide +kernel
theorem dX5_append_61 : decode cX5_append 61 = .ok (.iload 5, 2) := by decide +kernel
theorem dX5_append_63 : decode cX5_append 63 = .ok (.iload_n 3, 1) := by decide +kernel
theorem dX5_append_64 : decode cX5_append 64 = .ok (.ifCond .eq 7, 3) := by decide +kernel
theorem dX5_append_67 : decode cX5_append 67 = .ok (.iload_n 1, 1) := by decide +kernel
theorem dX5_append_68 : decode cX5_append 68 = .ok (.goto 6, 3) := by decide +kernel
theorem dX5_append_71 : decode cX5_append 71 = .ok (.iload_n 1, 1) := by decide +kernel
theorem dX5_append_72 : decode cX5_append 72 = .ok (.iconst 1, 1) := by decide +kernel
theorem dX5_append_73 : decode cX5_append 73 = .ok (.iadd, 1) := by decide +kernel
theorem dX5_append_74 : decode cX5_append 74 = .ok (.iastore, 1) := by decide +kernel
theorem dX5_append_75 : decode cX5_append 75 = .ok (.aload_n 0, 1) := by decide +kernel
theorem dX5_append_76 : decode cX5_append 76 = .ok (.getfield 21, 3) := by decide +kernel
theorem dX5_append_79 : decode cX5_append 79 = .ok (.iload 5, 2) := by decide +kernel
theorem dX5_append_81 : decode cX5_append 81 = .ok (.iload 4, 2) := by decide +kernel
theorem dX5_append_83 : decode cX5_append 83 = .ok (.ifCond .eq 7, 3) := by decide +kernel
theorem dX5_append_86 : decode cX5_append 86 = .ok (.iload_n 2, 1) := by decide +kernel
theorem dX5_append_87 : decode cX5_append 87 = .ok (.goto 6, 3) := by decide +kernel
theorem dX5_append_90 : decode cX5_append 90 = .ok (.iload_n 2, 1) := by decide +kernel
theorem dX5_append_91 : decode cX5_append 91 = .ok (.iconst 1, 1) := by decide +kernel
theorem dX5_append_92 : decode cX5_append 92 = .ok (.isub, 1) := by decide +kernel
theorem dX5_append_93 : decode cX5_append 93 = .ok (.iastore, 1) := by decide +kernel
theorem dX5_append_94 : decode cX5_append 94 = .ok (.iload 5, 2) := by decide +kernel
theorem dX5_append_96 : decode cX5_append 96 = .ok (.ireturn, 1) := by decide +kernel
theorem dX5_shift_0 : decode cX5_shift 0 = .ok (.aload_n 0, 1) := by decide +kernel
theorem dX5_shift_1 : decode cX5_shift 1 = .ok (.getfield 9, 3) := by decide +kernel
theorem dX5_shift_4 : decode cX5_shift 4 = .ok (.iload_n 1, 1) := by decide +kernel
theorem dX5_shift_5 : decode cX5_shift 5 = .ok (.dup2, 1) := by decide +kernel
theorem dX5_shift_6 : decode cX5_shift 6 = .ok (.iaload, 1) := by decide +kernel
theorem dX5_shift_7 : decode cX5_shift 7 = .ok (.iload_n 2, 1) := by decide +kernel
theorem dX5_shift_8 : decode cX5_shift 8 = .ok (.iadd, 1) := by decide +kernel
theorem dX5_shift_9 : decode cX5_shift 9 = .ok (.iastore, 1) := by decide +kernel
theorem dX5_shift_10 : decode cX5_shift 10 = .ok (.aload_n 0, 1) := by decide +kernel
theorem dX5_shift_11 : decode cX5_shift 11 = .ok (.getfield 15, 3) := by decide +kernel
theorem dX5_shift_14 : decode cX5_shift 14 = .ok (.iload_n 1, 1) := by decide +kernel
theorem dX5_shift_15 : decode cX5_shift 15 = .ok (.dup2, 1) := by decide +kernel
theorem dX5_shift_16 : decode cX5_shift 16 = .ok (.iaload, 1) := by decide +kernel
theorem dX5_shift_17 : decode cX5_shift 17 = .ok (.iload_n 2, 1) := by decide +kernel
theorem dX5_shift_18 : decode cX5_shift 18 = .ok (.iadd, 1) := by decide +kernel
theorem dX5_shift_19 : decode cX5_shift 19 = .ok (.iastore, 1) := by decide +kernel
theorem dX5_shift_20 : decode cX5_shift 20 = .ok (.aload_n 0, 1) := by decide +kernel
theorem dX5_shift_21 : decode cX5_shift 21 = .ok (.getfield 18, 3) := by decide +kernel
theorem dX5_shift_24 : decode cX5_shift 24 = .ok (.iload_n 1, 1) := by decide +kernel
theorem dX5_shift_25 : decode cX5_shift 25 = .ok (.dup2, 1) := by decide +kernel
theorem dX5_shift_26 : decode cX5_shift 26 = .ok (.iaload, 1) := by decide +kernel
theorem dX5_shift_27 : decode cX5_shift 27 = .ok (.iload_n 2, 1) := by decide +kernel
theorem dX5_shift_28 : decode cX5_shift 28 = .ok (.iadd, 1) := by decide +kernel
theorem dX5_shift_29 : decode cX5_shift 29 = .ok (.iastore, 1) := by decide +kernel
theorem dX5_shift_30 : decode cX5_shift 30 = .ok (.aload_n 0, 1) := by decide +kernel
theorem dX5_shift_31 : decode cX5_shift 31 = .ok (.getfield 21, 3) := by decide +kernel
theorem dX5_shift_34 : decode cX5_shift 34 = .ok (.iload_n 1, 1) := by decide +kernel
theorem dX5_shift_35 : decode cX5_shift 35 = .ok (.dup2, 1) := by decide +kernel
theorem dX5_shift_36 : decode cX5_shift 36 = .ok (.iaload, 1) := by decide +kernel
theorem dX5_shift_37 : decode cX5_shift 37 = .ok (.iload_n 2, 1) := by decide +kernel
theorem dX5_shift_38 : decode cX5_shift 38 = .ok (.iadd, 1) := by decide +kernel
theorem dX5_shift_39 : decode cX5_shift 39 = .ok (.iastore, 1) := by decide +kernel
theorem dX5_shift_40 : decode cX5_shift 40 = .ok (.return_, 1) := by decide +kernel
theorem dX5_takeAway_0 : decode cX5_takeAway 0 = .ok (.aload_n 0, 1) := by decide +kernel
theorem dX5_takeAway_1 : decode cX5_takeAway 1 = .ok (.dup, 1) := by decide +kernel
theorem dX5_takeAway_2 : decode cX5_takeAway 2 = .ok (.getfield 38, 3) := by decide +kernel
theorem dX5_takeAway_5 : decode cX5_takeAway 5 = .ok (.lconst 1, 1) := by decide +kernel
theorem dX5_takeAway_6 : decode cX5_takeAway 6 = .ok (.iload_n 1, 1) := by decide +kernel
theorem dX5_takeAway_7 : decode cX5_takeAway 7 = .ok (.lshl, 1) := by decide +kernel
theorem dX5_takeAway_8 : decode cX5_takeAway 8 = .ok (.ldc2_w 46, 3) := by decide +kernel
theorem dX5_takeAway_11 : decode cX5_takeAway 11 = .ok (.lxor, 1) := by decide +kernel
theorem dX5_takeAway_12 : decode cX5_takeAway 12 = .ok (.land, 1) := by decide +kernel
theorem dX5_takeAway_13 : decode cX5_takeAway 13 = .ok (.putfield 38, 3) := by decide +kernel
theorem dX5_takeAway_16 : decode cX5_takeAway 16 = .ok (.return_, 1) := by decide +kernel
set_option maxRecDepth 20000 in
theorem ggX5_countThere_J13_bitCount_95d88 : GoodIn wsX5_countThere wsJ13_bitCount_95d88 := goodIn_r _ [5, 6, 7, 8] rfl (by decide +kernel)
set_option maxRecDepth 20000 in
theorem gX5_countThere_J13_bitCount_95d88 : GoodIn wsX5_countThere (va_wsS RX5 48 yJ13_bitCount_95d88 wsJ13_bitCount_95d88) := goodIn_app (goodIn_of _ (by decide +kernel)) ggX5_countThere_J13_bitCount_95d88
theorem dX5_countThere_0 : decode cX5_countThere 0 = .ok (.aload_n 0, 1) := by decide +kernel
theorem dX5_countThere_1 : decode cX5_countThere 1 = .ok (.getfield 38, 3) := by decide +kernel
theorem dX5_countThere_4 : decode cX5_countThere 4 = .ok (.invokestatic 48, 3) := by decide +kernel
theorem dX5_countThere_7 : decode cX5_countThere 7 = .ok (.ireturn, 1) := by decide +kernel
set_option maxRecDepth 20000 in
theorem ggX5_shortestOf_X11_isMember : GoodIn wsX5_shortestOf wsX11_isMember := goodIn_r _ [6] rfl (by decide +kernel)
set_option maxRecDepth 20000 in
theorem gX5_shortestOf_X11_isMember_n42 : GoodIn wsX5_shortestOf (wsX11_isMember) := ggX5_shortestOf_X11_isMember
theorem dX5_shortestOf_0 : decode cX5_shortestOf 0 = .ok (.bipush (-5), 2) := by decide +kernel
theorem dX5_shortestOf_2 : decode cX5_shortestOf 2 = .ok (.istore_n 3, 1) := by decide +kernel
theorem dX5_shortestOf_3 : decode cX5_shortestOf 3 = .ok (.sipush 1002, 3) := by decide +kernel
theorem dX5_shortestOf_6 : decode cX5_shortestOf 6 = .ok (.istore 4, 2) := by decide +kernel
theorem dX5_shortestOf_8 : decode cX5_shortestOf 8 = .ok (.iconst 0, 1) := by decide +kernel
theorem dX5_shortestOf_9 : decode cX5_shortestOf 9 = .ok (.istore 5, 2) := by decide +kernel
theorem dX5_shortestOf_11 : decode cX5_shortestOf 11 = .ok (.iload 5, 2) := by decide +kernel
theorem dX5_shortestOf_13 : decode cX5_shortestOf 13 = .ok (.aload_n 0, 1) := by decide +kernel
theorem dX5_shortestOf_14 : decode cX5_shortestOf 14 = .ok (.getfield 30, 3) := by decide +kernel
theorem dX5_shortestOf_17 : decode cX5_shortestOf 17 = .ok (.if_icmp .ge 51, 3) := by decide +kernel
theorem dX5_shortestOf_20 : decode cX5_shortestOf 20 = .ok (.aload_n 0, 1) := by decide +kernel
theorem dX5_shortestOf_21 : decode cX5_shortestOf 21 = .ok (.getfield 21, 3) := by decide +kernel
theorem dX5_shortestOf_24 : decode cX5_shortestOf 24 = .ok (.iload 5, 2) := by decide +kernel
theorem dX5_shortestOf_26 : decode cX5_shortestOf 26 = .ok (.iaload, 1) := by decide +kernel
theorem dX5_shortestOf_27 : decode cX5_shortestOf 27 = .ok (.aload_n 0, 1) := by decide +kernel
theorem dX5_shortestOf_28 : decode cX5_shortestOf 28 = .ok (.getfield 18, 3) := by decide +kernel
theorem dX5_shortestOf_31 : decode cX5_shortestOf 31 = .ok (.iload 5, 2) := by decide +kernel
theorem dX5_shortestOf_33 : decode cX5_shortestOf 33 = .ok (.iaload, 1) := by decide +kernel
theorem dX5_shortestOf_34 : decode cX5_shortestOf 34 = .ok (.isub, 1) := by decide +kernel
theorem dX5_shortestOf_35 : decode cX5_shortestOf 35 = .ok (.iconst 1, 1) := by decide +kernel
theorem dX5_shortestOf_36 : decode cX5_shortestOf 36 = .ok (.iadd, 1) := by decide +kernel
theorem dX5_shortestOf_37 : decode cX5_shortestOf 37 = .ok (.istore 6, 2) := by decide +kernel
theorem dX5_shortestOf_39 : decode cX5_shortestOf 39 = .ok (.lload_n 1, 1) := by decide +kernel
theorem dX5_shortestOf_40 : decode cX5_shortestOf 40 = .ok (.iload 5, 2) := by decide +kernel
theorem dX5_shortestOf_42 : decode cX5_shortestOf 42 = .ok (.invokestatic 42, 3) := by decide +kernel
theorem dX5_shortestOf_45 : decode cX5_shortestOf 45 = .ok (.ifCond .eq 17, 3) := by decide +kernel
theorem dX5_shortestOf_48 : decode cX5_shortestOf 48 = .ok (.iload 6, 2) := by decide +kernel
theorem dX5_shortestOf_50 : decode cX5_shortestOf 50 = .ok (.iload 4, 2) := by decide +kernel
theorem dX5_shortestOf_52 : decode cX5_shortestOf 52 = .ok (.if_icmp .ge 10, 3) := by decide +kernel
theorem dX5_shortestOf_55 : decode cX5_shortestOf 55 = .ok (.iload 5, 2) := by decide +kernel
theorem dX5_shortestOf_57 : decode cX5_shortestOf 57 = .ok (.istore_n 3, 1) := by decide +kernel
theorem dX5_shortestOf_58 : decode cX5_shortestOf 58 = .ok (.iload 6, 2) := by decide +kernel
theorem dX5_shortestOf_60 : decode cX5_shortestOf 60 = .ok (.istore 4, 2) := by decide +kernel
theorem dX5_shortestOf_62 : decode cX5_shortestOf 62 = .ok (.iinc 5 1, 3) := by decide +kernel
theorem dX5_shortestOf_65 : decode cX5_shortestOf 65 = .ok (.goto (-54), 3) := by decide +kernel
theorem dX5_shortestOf_68 : decode cX5_shortestOf 68 = .ok (.iload_n 3, 1) := by decide +kernel
theorem dX5_shortestOf_69 : decode cX5_shortestOf 69 = .ok (.ireturn, 1) := by decide +kernel
set_option maxRecDepth 20000 in
theorem ggX5_countPairs_X5_isThere : GoodIn wsX5_countPairs wsX5_isThere := goodIn_r _ [8, 9, 10, 11, 12, 13, 14, 15, 16, 17, 18, 19, 20] rfl (by decide +kernel)
set_option maxRecDepth 20000 in
theorem gX5_countPairs_X5_isThere : GoodIn wsX5_countPairs (wsV RX5 34 RX5 yX5_isThere wsX5_isThere) := goodIn_app (goodIn_of _ (by decide +kernel)) ggX5_countPairs_X5_isThere
theorem dX5_countPairs_0 : decode cX5_countPairs 0 = .ok (.iconst 0, 1) := by decide +kernel
theorem dX5_countPairs_1 : decode cX5_countPairs 1 = .ok (.istore_n 1, 1) := by decide +kernel
theorem dX5_countPairs_2 : decode cX5_countPairs 2 = .ok (.iconst 0, 1) := by decide +kernel
theorem dX5_countPairs_3 : decode cX5_countPairs 3 = .ok (.istore_n 2, 1) := by decide +kernel
theorem dX5_countPairs_4 : decode cX5_countPairs 4 = .ok (.iload_n 2, 1) := by decide +kernel
theorem dX5_countPairs_5 : decode cX5_countPairs 5 = .ok (.aload_n 0, 1) := by decide +kernel
theorem dX5_countPairs_6 : decode cX5_countPairs 6 = .ok (.getfield 30, 3) := by decide +kernel
theorem dX5_countPairs_9 : decode cX5_countPairs 9 = .ok (.if_icmp .ge 71, 3) := by decide +kernel
theorem dX5_countPairs_12 : decode cX5_countPairs 12 = .ok (.iconst 0, 1) := by decide +kernel
theorem dX5_countPairs_13 : decode cX5_countPairs 13 = .ok (.istore_n 3, 1) := by decide +kernel
theorem dX5_countPairs_14 : decode cX5_countPairs 14 = .ok (.iload_n 3, 1) := by decide +kernel
theorem dX5_countPairs_15 : decode cX5_countPairs 15 = .ok (.iload_n 2, 1) := by decide +kernel
theorem dX5_countPairs_16 : decode cX5_countPairs 16 = .ok (.if_icmp .ge 58, 3) := by decide +kernel
theorem dX5_countPairs_19 : decode cX5_countPairs 19 = .ok (.aload_n 0, 1) := by decide +kernel
theorem dX5_countPairs_20 : decode cX5_countPairs 20 = .ok (.iload_n 2, 1) := by decide +kernel
theorem dX5_countPairs_21 : decode cX5_countPairs 21 = .ok (.invokevirtual 34, 3) := by decide +kernel
theorem dX5_countPairs_24 : decode cX5_countPairs 24 = .ok (.ifCond .eq 44, 3) := by decide +kernel
theorem dX5_countPairs_27 : decode cX5_countPairs 27 = .ok (.aload_n 0, 1) := by decide +kernel
theorem dX5_countPairs_28 : decode cX5_countPairs 28 = .ok (.iload_n 3, 1) := by decide +kernel
theorem dX5_countPairs_29 : decode cX5_countPairs 29 = .ok (.invokevirtual 34, 3) := by decide +kernel
theorem dX5_countPairs_32 : decode cX5_countPairs 32 = .ok (.ifCond .eq 36, 3) := by decide +kernel
theorem dX5_countPairs_35 : decode cX5_countPairs 35 = .ok (.aload_n 0, 1) := by decide +kernel
theorem dX5_countPairs_36 : decode cX5_countPairs 36 = .ok (.getfield 18, 3) := by decide +kernel
theorem dX5_countPairs_39 : decode cX5_countPairs 39 = .ok (.iload_n 2, 1) := by decide +kernel
theorem dX5_countPairs_40 : decode cX5_countPairs 40 = .ok (.iaload, 1) := by decide +kernel
theorem dX5_countPairs_41 : decode cX5_countPairs 41 = .ok (.aload_n 0, 1) := by decide +kernel
theorem dX5_countPairs_42 : decode cX5_countPairs 42 = .ok (.getfield 21, 3) := by decide +kernel
theorem dX5_countPairs_45 : decode cX5_countPairs 45 = .ok (.iload_n 3, 1) := by decide +kernel
theorem dX5_countPairs_46 : decode cX5_countPairs 46 = .ok (.iaload, 1) := by decide +kernel
theorem dX5_countPairs_47 : decode cX5_countPairs 47 = .ok (.if_icmp .gt 21, 3) := by decide +kernel
theorem dX5_countPairs_50 : decode cX5_countPairs 50 = .ok (.aload_n 0, 1) := by decide +kernel
theorem dX5_countPairs_51 : decode cX5_countPairs 51 = .ok (.getfield 18, 3) := by decide +kernel
theorem dX5_countPairs_54 : decode cX5_countPairs 54 = .ok (.iload_n 3, 1) := by decide +kernel
theorem dX5_countPairs_55 : decode cX5_countPairs 55 = .ok (.iaload, 1) := by decide +kernel
theorem dX5_countPairs_56 : decode cX5_countPairs 56 = .ok (.aload_n 0, 1) := by decide +kernel
theorem dX5_countPairs_57 : decode cX5_countPairs 57 = .ok (.getfield 21, 3) := by decide +kernel
theorem dX5_countPairs_60 : decode cX5_countPairs 60 = .ok (.iload_n 2, 1) := by decide +kernel
theorem dX5_countPairs_61 : decode cX5_countPairs 61 = .ok (.iaload, 1) := by decide +kernel
theorem dX5_countPairs_62 : decode cX5_countPairs 62 = .ok (.if_icmp .gt 6, 3) := by decide +kernel
theorem dX5_countPairs_65 : decode cX5_countPairs 65 = .ok (.iinc 1 1, 3) := by decide +kernel
theorem dX5_countPairs_68 : decode cX5_countPairs 68 = .ok (.iinc 3 1, 3) := by decide +kernel
theorem dX5_countPairs_71 : decode cX5_countPairs 71 = .ok (.goto (-57), 3) := by decide +kernel
theorem dX5_countPairs_74 : decode cX5_countPairs 74 = .ok (.iinc 2 1, 3) := by decide +kernel
theorem dX5_countPairs_77 : decode cX5_countPairs 77 = .ok (.goto (-73), 3) := by decide +kernel
theorem dX5_countPairs_80 : decode cX5_countPairs 80 = .ok (.iload_n 1, 1) := by decide +kernel
theorem dX5_countPairs_81 : decode cX5_countPairs 81 = .ok (.ireturn, 1) := by decide +kernel
set_option maxRecDepth 20000 in
theorem ggX5_countDifferent_X5_isThere : GoodIn wsX5_countDifferent wsX5_isThere := goodIn_r _ [6, 7, 8, 9, 10, 15, 16, 17, 18, 19, 20, 21, 22] rfl (by decide +kernel)
set_option maxRecDepth 20000 in
theorem gX5_countDifferent_X5_isThere : GoodIn wsX5_countDifferent (wsV RX5 34 RX5 yX5_isThere wsX5_isThere) := goodIn_app (goodIn_of _ (by decide +kernel)) ggX5_countDifferent_X5_isThere
set_option maxRecDepth 20000 in
theorem ggX5_countDifferent_X5_occursBefore : GoodIn wsX5_countDifferent wsX5_occursBefore := goodIn_r _ [14, 2, 3, 4, 5, 6, 7, 8, 9, 10, 15, 16, 17, 18, 19, 20, 21, 22] rfl (by decide +kernel)
set_option maxRecDepth 20000 in
theorem gX5_countDifferent_X5_occursBefore : GoodIn wsX5_countDifferent (wsV RX5 54 RX5 yX5_occursBefore wsX5_occursBefore) := goodIn_app (goodIn_of _ (by decide +kernel)) ggX5_countDifferent_X5_occursBefore
theorem dX5_countDifferent_0 : decode cX5_countDifferent 0 = .ok (.iconst 0, 1) := by decide +kernel
theorem dX5_countDifferent_1 : decode cX5_countDifferent 1 = .ok (.istore_n 2, 1) := by decide +kernel
theorem dX5_countDifferent_2 : decode cX5_countDifferent 2 = .ok (.iconst 0, 1) := by decide +kernel
theorem dX5_countDifferent_3 : decode cX5_countDifferent 3 = .ok (.istore_n 3, 1) := by decide +kernel
theorem dX5_countDifferent_4 : decode cX5_countDifferent 4 = .ok (.iload_n 3, 1) := by decide +kernel
theorem dX5_countDifferent_5 : decode cX5_countDifferent 5 = .ok (.aload_n 0, 1) := by decide +kernel
theorem dX5_countDifferent_6 : decode cX5_countDifferent 6 = .ok (.getfield 30, 3) := by decide +kernel
theorem dX5_countDifferent_9 : decode cX5_countDifferent 9 = .ok (.if_icmp .ge 35, 3) := by decide +kernel
theorem dX5_countDifferent_12 : decode cX5_countDifferent 12 = .ok (.iload_n 3, 1) := by decide +kernel
theorem dX5_countDifferent_13 : decode cX5_countDifferent 13 = .ok (.aload_n 1, 1) := by decide +kernel
theorem dX5_countDifferent_14 : decode cX5_countDifferent 14 = .ok (.arraylength, 1) := by decide +kernel
theorem dX5_countDifferent_15 : decode cX5_countDifferent 15 = .ok (.if_icmp .ge 29, 3) := by decide +kernel
theorem dX5_countDifferent_18 : decode cX5_countDifferent 18 = .ok (.aload_n 0, 1) := by decide +kernel
theorem dX5_countDifferent_19 : decode cX5_countDifferent 19 = .ok (.iload_n 3, 1) := by decide +kernel
theorem dX5_countDifferent_20 : decode cX5_countDifferent 20 = .ok (.invokevirtual 34, 3) := by decide +kernel
theorem dX5_countDifferent_23 : decode cX5_countDifferent 23 = .ok (.ifCond .eq 15, 3) := by decide +kernel
theorem dX5_countDifferent_26 : decode cX5_countDifferent 26 = .ok (.aload_n 0, 1) := by decide +kernel
theorem dX5_countDifferent_27 : decode cX5_countDifferent 27 = .ok (.aload_n 1, 1) := by decide +kernel
theorem dX5_countDifferent_28 : decode cX5_countDifferent 28 = .ok (.iload_n 3, 1) := by decide +kernel
theorem dX5_countDifferent_29 : decode cX5_countDifferent 29 = .ok (.invokevirtual 54, 3) := by decide +kernel
theorem dX5_countDifferent_32 : decode cX5_countDifferent 32 = .ok (.ifCond .ne 6, 3) := by decide +kernel
theorem dX5_countDifferent_35 : decode cX5_countDifferent 35 = .ok (.iinc 2 1, 3) := by decide +kernel
theorem dX5_countDifferent_38 : decode cX5_countDifferent 38 = .ok (.iinc 3 1, 3) := by decide +kernel
theorem dX5_countDifferent_41 : decode cX5_countDifferent 41 = .ok (.goto (-37), 3) := by decide +kernel
theorem dX5_countDifferent_44 : decode cX5_countDifferent 44 = .ok (.iload_n 2, 1) := by decide +kernel
theorem dX5_countDifferent_45 : decode cX5_countDifferent 45 = .ok (.ireturn, 1) := by decide +kernel
set_option maxRecDepth 20000 in
theorem ggX5_occursBefore_X5_isThere : GoodIn wsX5_occursBefore wsX5_isThere := goodIn_r _ [5, 6, 7, 8, 9, 10, 11, 12, 13, 14, 15, 16, 17] rfl (by decide +kernel)
set_option maxRecDepth 20000 in
theorem gX5_occursBefore_X5_isThere : GoodIn wsX5_occursBefore (wsV RX5 34 RX5 yX5_isThere wsX5_isThere) := goodIn_app (goodIn_of _ (by decide +kernel)) ggX5_occursBefore_X5_isThere
theorem dX5_occursBefore_0 : decode cX5_occursBefore 0 = .ok (.iconst 0, 1) := by decide +kernel
theorem dX5_occursBefore_1 : decode cX5_occursBefore 1 = .ok (.istore_n 3, 1) := by decide +kernel
theorem dX5_occursBefore_2 : decode cX5_occursBefore 2 = .ok (.iload_n 3, 1) := by decide +kernel
theorem dX5_occursBefore_3 : decode cX5_occursBefore 3 = .ok (.iload_n 2, 1) := by decide +kernel
theorem dX5_occursBefore_4 : decode cX5_occursBefore 4 = .ok (.if_icmp .ge 28, 3) := by decide +kernel
theorem dX5_occursBefore_7 : decode cX5_occursBefore 7 = .ok (.aload_n 0, 1) := by decide +kernel
theorem dX5_occursBefore_8 : decode cX5_occursBefore 8 = .ok (.iload_n 3, 1) := by decide +kernel
theorem dX5_occursBefore_9 : decode cX5_occursBefore 9 = .ok (.invokevirtual 34, 3) := by decide +kernel
theorem dX5_occursBefore_12 : decode cX5_occursBefore 12 = .ok (.ifCond .eq 14, 3) := by decide +kernel
theorem dX5_occursBefore_15 : decode cX5_occursBefore 15 = .ok (.aload_n 1, 1) := by decide +kernel
theorem dX5_occursBefore_16 : decode cX5_occursBefore 16 = .ok (.iload_n 3, 1) := by decide +kernel
theorem dX5_occursBefore_17 : decode cX5_occursBefore 17 = .ok (.iaload, 1) := by decide +kernel
theorem dX5_occursBefore_18 : decode cX5_occursBefore 18 = .ok (.aload_n 1, 1) := by decide +kernel
theorem dX5_occursBefore_19 : decode cX5_occursBefore 19 = .ok (.iload_n 2, 1) := by decide +kernel
theorem dX5_occursBefore_20 : decode cX5_occursBefore 20 = .ok (.iaload, 1) := by decide +kernel
theorem dX5_occursBefore_21 : decode cX5_occursBefore 21 = .ok (.if_icmp .ne 5, 3) := by decide +kernel
theorem dX5_occursBefore_24 : decode cX5_occursBefore 24 = .ok (.iconst 1, 1) := by decide +kernel
theorem dX5_occursBefore_25 : decode cX5_occursBefore 25 = .ok (.ireturn, 1) := by decide +kernel
theorem dX5_occursBefore_26 : decode cX5_occursBefore 26 = .ok (.iinc 3 1, 3) := by decide +kernel
theorem dX5_occursBefore_29 : decode cX5_occursBefore 29 = .ok (.goto (-27), 3) := by decide +kernel
theorem dX5_occursBefore_32 : decode cX5_occursBefore 32 = .ok (.iconst 0, 1) := by decide +kernel
theorem dX5_occursBefore_33 : decode cX5_occursBefore 33 = .ok (.ireturn, 1) := by decide +kernel
theorem dX5_copyFrom_0 : decode cX5_copyFrom 0 = .ok (.aload_n 0, 1) := by decide +kernel
theorem dX5_copyFrom_1 : decode cX5_copyFrom 1 = .ok (.aload_n 1, 1) := by decide +kernel
theorem dX5_copyFrom_2 : decode cX5_copyFrom 2 = .ok (.getfield 30, 3) := by decide +kernel
theorem dX5_copyFrom_5 : decode cX5_copyFrom 5 = .ok (.putfield 30, 3) := by decide +kernel
theorem dX5_copyFrom_8 : decode cX5_copyFrom 8 = .ok (.aload_n 0, 1) := by decide +kernel
theorem dX5_copyFrom_9 : decode cX5_copyFrom 9 = .ok (.aload_n 1, 1) := by decide +kernel
theorem dX5_copyFrom_10 : decode cX5_copyFrom 10 = .ok (.getfield 38, 3) := by decide +kernel
theorem dX5_copyFrom_13 : decode cX5_copyFrom 13 = .ok (.putfield 38, 3) := by decide +kernel
theorem dX5_copyFrom_16 : decode cX5_copyFrom 16 = .ok (.aload_n 1, 1) := by decide +kernel
theorem dX5_copyFrom_17 : decode cX5_copyFrom 17 = .ok (.getfield 9, 3) := by decide +kernel
theorem dX5_copyFrom_20 : decode cX5_copyFrom 20 = .ok (.iconst 0, 1) := by decide +kernel
theorem dX5_copyFrom_21 : decode cX5_copyFrom 21 = .ok (.aload_n 0, 1) := by decide +kernel
theorem dX5_copyFrom_22 : decode cX5_copyFrom 22 = .ok (.getfield 9, 3) := by decide +kernel
theorem dX5_copyFrom_25 : decode cX5_copyFrom 25 = .ok (.iconst 0, 1) := by decide +kernel
theorem dX5_copyFrom_26 : decode cX5_copyFrom 26 = .ok (.bipush 60, 2) := by decide +kernel
theorem dX5_copyFrom_28 : decode cX5_copyFrom 28 = .ok (.invokestatic 58, 3) := by decide +kernel
theorem dX5_copyFrom_31 : decode cX5_copyFrom 31 = .ok (.aload_n 1, 1) := by decide +kernel
theorem dX5_copyFrom_32 : decode cX5_copyFrom 32 = .ok (.getfield 15, 3) := by decide +kernel
theorem dX5_copyFrom_35 : decode cX5_copyFrom 35 = .ok (.iconst 0, 1) := by decide +kernel
theorem dX5_copyFrom_36 : decode cX5_copyFrom 36 = .ok (.aload_n 0, 1) := by decide +kernel
theorem dX5_copyFrom_37 : decode cX5_copyFrom 37 = .ok (.getfield 15, 3) := by decide +kernel
theorem dX5_copyFrom_40 : decode cX5_copyFrom 40 = .ok (.iconst 0, 1) := by decide +kernel
theorem dX5_copyFrom_41 : decode cX5_copyFrom 41 = .ok (.bipush 60, 2) := by decide +kernel
theorem dX5_copyFrom_43 : decode cX5_copyFrom 43 = .ok (.invokestatic 58, 3) := by decide +kernel
theorem dX5_copyFrom_46 : decode cX5_copyFrom 46 = .ok (.aload_n 1, 1) := by decide +kernel
theorem dX5_copyFrom_47 : decode cX5_copyFrom 47 = .ok (.getfield 18, 3) := by decide +kernel
theorem dX5_copyFrom_50 : decode cX5_copyFrom 50 = .ok (.iconst 0, 1) := by decide +kernel
theorem dX5_copyFrom_51 : decode cX5_copyFrom 51 = .ok (.aload_n 0, 1) := by decide +kernel
theorem dX5_copyFrom_52 : decode cX5_copyFrom 52 = .ok (.getfield 18, 3) := by decide +kernel
theorem dX5_copyFrom_55 : decode cX5_copyFrom 55 = .ok (.iconst 0, 1) := by decide +kernel
theorem dX5_copyFrom_56 : decode cX5_copyFrom 56 = .ok (.bipush 60, 2) := by decide +kernel
theorem dX5_copyFrom_58 : decode cX5_copyFrom 58 = .ok (.invokestatic 58, 3) := by decide +kernel
theorem dX5_copyFrom_61 : decode cX5_copyFrom 61 = .ok (.aload_n 1, 1) := by decide +kernel
theorem dX5_copyFrom_62 : decode cX5_copyFrom 62 = .ok (.getfield 21, 3) := by decide +kernel
theorem dX5_copyFrom_65 : decode cX5_copyFrom 65 = .ok (.iconst 0, 1) := by decide +kernel
theorem dX5_copyFrom_66 : decode cX5_copyFrom 66 = .ok (.aload_n 0, 1) := by decide +kernel
theorem dX5_copyFrom_67 : decode cX5_copyFrom 67 = .ok (.getfield 21, 3) := by decide +kernel
theorem dX5_copyFrom_70 : decode cX5_copyFrom 70 = .ok (.iconst 0, 1) := by decide +kernel
theorem dX5_copyFrom_71 : decode cX5_copyFrom 71 = .ok (.bipush 60, 2) := by decide +kernel
theorem dX5_copyFrom_73 : decode cX5_copyFrom 73 = .ok (.invokestatic 58, 3) := by decide +kernel
theorem dX5_copyFrom_76 : decode cX5_copyFrom 76 = .ok (.aload_n 1, 1) := by decide +kernel
theorem dX5_copyFrom_77 : decode cX5_copyFrom 77 = .ok (.getfield 24, 3) := by decide +kernel
theorem dX5_copyFrom_80 : decode cX5_copyFrom 80 = .ok (.iconst 0, 1) := by decide +kernel
theorem dX5_copyFrom_81 : decode cX5_copyFrom 81 = .ok (.aload_n 0, 1) := by decide +kernel
theorem dX5_copyFrom_82 : decode cX5_copyFrom 82 = .ok (.getfield 24, 3) := by decide +kernel
theorem dX5_copyFrom_85 : decode cX5_copyFrom 85 = .ok (.iconst 0, 1) := by decide +kernel
theorem dX5_copyFrom_86 : decode cX5_copyFrom 86 = .ok (.bipush 60, 2) := by decide +kernel
theorem dX5_copyFrom_88 : decode cX5_copyFrom 88 = .ok (.invokestatic 58, 3) := by decide +kernel
theorem dX5_copyFrom_91 : decode cX5_copyFrom 91 = .ok (.aload_n 1, 1) := by decide +kernel
theorem dX5_copyFrom_92 : decode cX5_copyFrom 92 = .ok (.getfield 27, 3) := by decide +kernel
theorem dX5_copyFrom_95 : decode cX5_copyFrom 95 = .ok (.iconst 0, 1) := by decide +kernel
theorem dX5_copyFrom_96 : decode cX5_copyFrom 96 = .ok (.aload_n 0, 1) := by decide +kernel
theorem dX5_copyFrom_97 : decode cX5_copyFrom 97 = .ok (.getfield 27, 3) := by decide +kernel
theorem dX5_copyFrom_100 : decode cX5_copyFrom 100 = .ok (.iconst 0, 1) := by decide +kernel
theorem dX5_copyFrom_101 : decode cX5_copyFrom 101 = .ok (.bipush 60, 2) := by decide +kernel
theorem dX5_copyFrom_103 : decode cX5_copyFrom 103 = .ok (.invokestatic 58, 3) := by decide +kernel
theorem dX5_copyFrom_106 : decode cX5_copyFrom 106 = .ok (.return_, 1) := by decide +kernel
set_option maxRecDepth 20000 in
theorem ggX6_init_X5_init : GoodIn wsX6_init wsX5_init := goodIn_r _ [17, 18, 2, 3, 19, 20, 21, 22, 23, 24, 25, 46, 47, 48, 49, 50, 51, 52, 53] rfl (by decide +kernel)
set_option maxRecDepth 20000 in
theorem gX6_init_X5_init_n9 : GoodIn wsX6_init (wsX5_init) := ggX6_init_X5_init
set_option maxRecDepth 20000 in
theorem ggX6_init_X9_init : GoodIn wsX6_init wsX9_init := goodIn_r _ [27, 28, 2, 3, 19, 29, 30, 31, 32, 33, 34, 35, 36, 37, 38, 58, 59, 60, 61, 62, 63, 64, 65, 66] rfl (by decide +kernel)
set_option maxRecDepth 20000 in
theorem gX6_init_X9_init_n18 : GoodIn wsX6_init (wsX9_init) := ggX6_init_X9_init
set_option maxRecDepth 20000 in
theorem ggX6_init_X3_init : GoodIn wsX6_init wsX3_init := goodIn_r _ [40, 41, 2, 3, 19, 42, 43, 44, 45, 67, 68, 69, 70, 71, 72] rfl (by decide +kernel)
set_option maxRecDepth 20000 in
theorem gX6_init_X3_init_n25 : GoodIn wsX6_init (wsX3_init) := ggX6_init_X3_init
theorem dX6_init_0 : decode cX6_init 0 = .ok (.aload_n 0, 1) := by decide +kernel
theorem dX6_init_1 : decode cX6_init 1 = .ok (.invokespecial 1, 3) := by decide +kernel
theorem dX6_init_4 : decode cX6_init 4 = .ok (.aload_n 0, 1) := by decide +kernel
theorem dX6_init_5 : decode cX6_init 5 = .ok (.new 7, 3) := by decide +kernel
theorem dX6_init_8 : decode cX6_init 8 = .ok (.dup, 1) := by decide +kernel
theorem dX6_init_9 : decode cX6_init 9 = .ok (.invokespecial 9, 3) := by decide +kernel
theorem dX6_init_12 : decode cX6_init 12 = .ok (.putfield 10, 3) := by decide +kernel
theorem dX6_init_15 : decode cX6_init 15 = .ok (.aload_n 0, 1) := by decide +kernel
theorem dX6_init_16 : decode cX6_init 16 = .ok (.new 16, 3) := by decide +kernel
theorem dX6_init_19 : decode cX6_init 19 = .ok (.dup, 1) := by decide +kernel
theorem dX6_init_20 : decode cX6_init 20 = .ok (.invokespecial 18, 3) := by decide +kernel
theorem dX6_init_23 : decode cX6_init 23 = .ok (.putfield 19, 3) := by decide +kernel
theorem dX6_init_26 : decode cX6_init 26 = .ok (.aload_n 0, 1) := by decide +kernel
theorem dX6_init_27 : decode cX6_init 27 = .ok (.new 23, 3) := by decide +kernel
theorem dX6_init_30 : decode cX6_init 30 = .ok (.dup, 1) := by decide +kernel
theorem dX6_init_31 : decode cX6_init 31 = .ok (.invokespecial 25, 3) := by decide +kernel
theorem dX6_init_34 : decode cX6_init 34 = .ok (.putfield 26, 3) := by decide +kernel
theorem dX6_init_37 : decode cX6_init 37 = .ok (.return_, 1) := by decide +kernel
set_option maxRecDepth 20000 in
theorem ggX6_copyFrom_X5_copyFrom : GoodIn wsX6_copyFrom wsX5_copyFrom := goodIn_r _ [9, 10, 11, 12, 13, 14, 15, 16, 17, 18, 19, 20, 21, 53, 54, 55, 56, 57, 58, 59, 60] rfl (by decide +kernel)
set_option maxRecDepth 20000 in
theorem gX6_copyFrom_X5_copyFrom : GoodIn wsX6_copyFrom (wsV RX6 34 RX5 yX5_copyFrom wsX5_copyFrom) := goodIn_app (goodIn_of _ (by decide +kernel)) ggX6_copyFrom_X5_copyFrom
set_option maxRecDepth 20000 in
theorem ggX6_copyFrom_X9_copyFrom : GoodIn wsX6_copyFrom wsX9_copyFrom := goodIn_r _ [26, 27, 28, 29, 14, 15, 16, 30, 31, 32, 33, 34, 35, 36, 61, 62, 63, 64, 65, 66, 67, 68, 69] rfl (by decide +kernel)
set_option maxRecDepth 20000 in
theorem gX6_copyFrom_X9_copyFrom : GoodIn wsX6_copyFrom (wsV RX6 38 RX9 yX9_copyFrom wsX9_copyFrom) := goodIn_app (goodIn_of _ (by decide +kernel)) ggX6_copyFrom_X9_copyFrom
set_option maxRecDepth 20000 in
theorem ggX6_copyFrom_X3_copyFrom : GoodIn wsX6_copyFrom wsX3_copyFrom := goodIn_r _ [41, 42, 43, 44, 45, 14, 15, 16, 46, 47, 48, 70, 71, 72, 73, 74, 75] rfl (by decide +kernel)
set_option maxRecDepth 20000 in
theorem gX6_copyFrom_X3_copyFrom : GoodIn wsX6_copyFrom (wsV RX6 41 RX3 yX3_copyFrom wsX3_copyFrom) := goodIn_app (goodIn_of _ (by decide +kernel)) ggX6_copyFrom_X3_copyFrom
theorem dX6_copyFrom_0 : decode cX6_copyFrom 0 = .ok (.aload_n 0, 1) := by decide +kernel
theorem dX6_copyFrom_1 : decode cX6_copyFrom 1 = .ok (.aload_n 1, 1) := by decide +kernel
theorem dX6_copyFrom_2 : decode cX6_copyFrom 2 = .ok (.getfield 30, 3) := by decide +kernel
theorem dX6_copyFrom_5 : decode cX6_copyFrom 5 = .ok (.putfield 30, 3) := by decide +kernel
theorem dX6_copyFrom_8 : decode cX6_copyFrom 8 = .ok (.aload_n 0, 1) := by decide +kernel
theorem dX6_copyFrom_9 : decode cX6_copyFrom 9 = .ok (.getfield 10, 3) := by decide +kernel
theorem dX6_copyFrom_12 : decode cX6_copyFrom 12 = .ok (.aload_n 1, 1) := by decide +kernel
theorem dX6_copyFrom_13 : decode cX6_copyFrom 13 = .ok (.getfield 10, 3) := by decide +kernel
theorem dX6_copyFrom_16 : decode cX6_copyFrom 16 = .ok (.invokevirtual 34, 3) := by decide +kernel
theorem dX6_copyFrom_19 : decode cX6_copyFrom 19 = .ok (.aload_n 0, 1) := by decide +kernel
theorem dX6_copyFrom_20 : decode cX6_copyFrom 20 = .ok (.getfield 19, 3) := by decide +kernel
theorem dX6_copyFrom_23 : decode cX6_copyFrom 23 = .ok (.aload_n 1, 1) := by decide +kernel
theorem dX6_copyFrom_24 : decode cX6_copyFrom 24 = .ok (.getfield 19, 3) := by decide +kernel
theorem dX6_copyFrom_27 : decode cX6_copyFrom 27 = .ok (.invokevirtual 38, 3) := by decide +kernel
theorem dX6_copyFrom_30 : decode cX6_copyFrom 30 = .ok (.aload_n 0, 1) := by decide +kernel
theorem dX6_copyFrom_31 : decode cX6_copyFrom 31 = .ok (.getfield 26, 3) := by decide +kernel
theorem dX6_copyFrom_34 : decode cX6_copyFrom 34 = .ok (.aload_n 1, 1) := by decide +kernel
theorem dX6_copyFrom_35 : decode cX6_copyFrom 35 = .ok (.getfield 26, 3) := by decide +kernel
theorem dX6_copyFrom_38 : decode cX6_copyFrom 38 = .ok (.invokevirtual 41, 3) := by decide +kernel
theorem dX6_copyFrom_41 : decode cX6_copyFrom 41 = .ok (.return_, 1) := by decide +kernel
theorem dX7_init_0 : decode cX7_init 0 = .ok (.aload_n 0, 1) := by decide +kernel
theorem dX7_init_1 : decode cX7_init 1 = .ok (.invokespecial 3, 3) := by decide +kernel
theorem dX7_init_4 : decode cX7_init 4 = .ok (.aload_n 0, 1) := by decide +kernel
theorem dX7_init_5 : decode cX7_init 5 = .ok (.bipush 60, 2) := by decide +kernel
theorem dX7_init_7 : decode cX7_init 7 = .ok (.newarray .char, 2) := by decide +kernel
theorem dX7_init_9 : decode cX7_init 9 = .ok (.putfield 9, 3) := by decide +kernel
theorem dX7_init_12 : decode cX7_init 12 = .ok (.return_, 1) := by decide +kernel
theorem dX7_append_0 : decode cX7_append 0 = .ok (.aload_n 0, 1) := by decide +kernel
theorem dX7_append_1 : decode cX7_append 1 = .ok (.getfield 15, 3) := by decide +kernel
theorem dX7_append_4 : decode cX7_append 4 = .ok (.bipush 60, 2) := by decide +kernel
theorem dX7_append_6 : decode cX7_append 6 = .ok (.if_icmp .lt 5, 3) := by decide +kernel
theorem dX7_append_9 : decode cX7_append 9 = .ok (.iconst 0, 1) := by decide +kernel
theorem dX7_append_10 : decode cX7_append 10 = .ok (.ireturn, 1) := by decide +kernel
theorem dX7_append_11 : decode cX7_append 11 = .ok (.aload_n 0, 1) := by decide +kernel
theorem dX7_append_12 : decode cX7_append 12 = .ok (.getfield 9, 3) := by decide +kernel
theorem dX7_append_15 : decode cX7_append 15 = .ok (.aload_n 0, 1) := by decide +kernel
theorem dX7_append_16 : decode cX7_append 16 = .ok (.getfield 15, 3) := by decide +kernel
theorem dX7_append_19 : decode cX7_append 19 = .ok (.iload_n 1, 1) := by decide +kernel
theorem dX7_append_20 : decode cX7_append 20 = .ok (.castore, 1) := by decide +kernel
theorem dX7_append_21 : decode cX7_append 21 = .ok (.aload_n 0, 1) := by decide +kernel
theorem dX7_append_22 : decode cX7_append 22 = .ok (.dup, 1) := by decide +kernel
theorem dX7_append_23 : decode cX7_append 23 = .ok (.getfield 15, 3) := by decide +kernel
theorem dX7_append_26 : decode cX7_append 26 = .ok (.iconst 1, 1) := by decide +kernel
theorem dX7_append_27 : decode cX7_append 27 = .ok (.iadd, 1) := by decide +kernel
theorem dX7_append_28 : decode cX7_append 28 = .ok (.putfield 15, 3) := by decide +kernel
theorem dX7_append_31 : decode cX7_append 31 = .ok (.iconst 1, 1) := by decide +kernel
theorem dX7_append_32 : decode cX7_append 32 = .ok (.ireturn, 1) := by decide +kernel
theorem dX7_hasAt_0 : decode cX7_hasAt 0 = .ok (.iload_n 1, 1) := by decide +kernel
theorem dX7_hasAt_1 : decode cX7_hasAt 1 = .ok (.ifCond .lt 25, 3) := by decide +kernel
theorem dX7_hasAt_4 : decode cX7_hasAt 4 = .ok (.iload_n 1, 1) := by decide +kernel
theorem dX7_hasAt_5 : decode cX7_hasAt 5 = .ok (.aload_n 0, 1) := by decide +kernel
theorem dX7_hasAt_6 : decode cX7_hasAt 6 = .ok (.getfield 15, 3) := by decide +kernel
theorem dX7_hasAt_9 : decode cX7_hasAt 9 = .ok (.if_icmp .ge 17, 3) := by decide +kernel
theorem dX7_hasAt_12 : decode cX7_hasAt 12 = .ok (.aload_n 0, 1) := by decide +kernel
theorem dX7_hasAt_13 : decode cX7_hasAt 13 = .ok (.getfield 9, 3) := by decide +kernel
theorem dX7_hasAt_16 : decode cX7_hasAt 16 = .ok (.iload_n 1, 1) := by decide +kernel
theorem dX7_hasAt_17 : decode cX7_hasAt 17 = .ok (.caload, 1) := by decide +kernel
theorem dX7_hasAt_18 : decode cX7_hasAt 18 = .ok (.iload_n 2, 1) := by decide +kernel
theorem dX7_hasAt_19 : decode cX7_hasAt 19 = .ok (.if_icmp .ne 7, 3) := by decide +kernel
theorem dX7_hasAt_22 : decode cX7_hasAt 22 = .ok (.iconst 1, 1) := by decide +kernel
theorem dX7_hasAt_23 : decode cX7_hasAt 23 = .ok (.goto 4, 3) := by decide +kernel
theorem dX7_hasAt_26 : decode cX7_hasAt 26 = .ok (.iconst 0, 1) := by decide +kernel
theorem dX7_hasAt_27 : decode cX7_hasAt 27 = .ok (.ireturn, 1) := by decide +kernel
theorem dX7_hasDigitAt_0 : decode cX7_hasDigitAt 0 = .ok (.iload_n 1, 1) := by decide +kernel
theorem dX7_hasDigitAt_1 : decode cX7_hasDigitAt 1 = .ok (.ifCond .lt 37, 3) := by decide +kernel
theorem dX7_hasDigitAt_4 : decode cX7_hasDigitAt 4 = .ok (.iload_n 1, 1) := by decide +kernel
theorem dX7_hasDigitAt_5 : decode cX7_hasDigitAt 5 = .ok (.aload_n 0, 1) := by decide +kernel
theorem dX7_hasDigitAt_6 : decode cX7_hasDigitAt 6 = .ok (.getfield 15, 3) := by decide +kernel
theorem dX7_hasDigitAt_9 : decode cX7_hasDigitAt 9 = .ok (.if_icmp .ge 29, 3) := by decide +kernel
theorem dX7_hasDigitAt_12 : decode cX7_hasDigitAt 12 = .ok (.aload_n 0, 1) := by decide +kernel
theorem dX7_hasDigitAt_13 : decode cX7_hasDigitAt 13 = .ok (.getfield 9, 3) := by decide +kernel
theorem dX7_hasDigitAt_16 : decode cX7_hasDigitAt 16 = .ok (.iload_n 1, 1) := by decide +kernel
theorem dX7_hasDigitAt_17 : decode cX7_hasDigitAt 17 = .ok (.caload, 1) := by decide +kernel
theorem dX7_hasDigitAt_18 : decode cX7_hasDigitAt 18 = .ok (.bipush 48, 2) := by decide +kernel
theorem dX7_hasDigitAt_20 : decode cX7_hasDigitAt 20 = .ok (.if_icmp .lt 18, 3) := by decide +kernel
theorem dX7_hasDigitAt_23 : decode cX7_hasDigitAt 23 = .ok (.aload_n 0, 1) := by decide +kernel
theorem dX7_hasDigitAt_24 : decode cX7_hasDigitAt 24 = .ok (.getfield 9, 3) := by decide +kernel
theorem dX7_hasDigitAt_27 : decode cX7_hasDigitAt 27 = .ok (.iload_n 1, 1) := by decide +kernel
theorem dX7_hasDigitAt_28 : decode cX7_hasDigitAt 28 = .ok (.caload, 1) := by decide +kernel
theorem dX7_hasDigitAt_29 : decode cX7_hasDigitAt 29 = .ok (.bipush 57, 2) := by decide +kernel
theorem dX7_hasDigitAt_31 : decode cX7_hasDigitAt 31 = .ok (.if_icmp .gt 7, 3) := by decide +kernel
theorem dX7_hasDigitAt_34 : decode cX7_hasDigitAt 34 = .ok (.iconst 1, 1) := by decide +kernel
theorem dX7_hasDigitAt_35 : decode cX7_hasDigitAt 35 = .ok (.goto 4, 3) := by decide +kernel
theorem dX7_hasDigitAt_38 : decode cX7_hasDigitAt 38 = .ok (.iconst 0, 1) := by decide +kernel
theorem dX7_hasDigitAt_39 : decode cX7_hasDigitAt 39 = .ok (.ireturn, 1) := by decide +kernel
set_option maxRecDepth 20000 in
theorem ggX7_digitAt_X7_hasDigitAt : GoodIn wsX7_digitAt wsX7_hasDigitAt := goodIn_r _ [6, 7, 1, 8, 9] rfl (by decide +kernel)
set_option maxRecDepth 20000 in
theorem gX7_digitAt_X7_hasDigitAt : GoodIn wsX7_digitAt (wsV RX7 19 RX7 yX7_hasDigitAt wsX7_hasDigitAt) := goodIn_app (goodIn_of _ (by decide +kernel)) ggX7_digitAt_X7_hasDigitAt
theorem dX7_digitAt_0 : decode cX7_digitAt 0 = .ok (.aload_n 0, 1) := by decide +kernel
theorem dX7_digitAt_1 : decode cX7_digitAt 1 = .ok (.iload_n 1, 1) := by decide +kernel
theorem dX7_digitAt_2 : decode cX7_digitAt 2 = .ok (.invokevirtual 19, 3) := by decide +kernel
theorem dX7_digitAt_5 : decode cX7_digitAt 5 = .ok (.ifCond .eq 15, 3) := by decide +kernel
theorem dX7_digitAt_8 : decode cX7_digitAt 8 = .ok (.aload_n 0, 1) := by decide +kernel
theorem dX7_digitAt_9 : decode cX7_digitAt 9 = .ok (.getfield 9, 3) := by decide +kernel
theorem dX7_digitAt_12 : decode cX7_digitAt 12 = .ok (.iload_n 1, 1) := by decide +kernel
theorem dX7_digitAt_13 : decode cX7_digitAt 13 = .ok (.caload, 1) := by decide +kernel
theorem dX7_digitAt_14 : decode cX7_digitAt 14 = .ok (.bipush 48, 2) := by decide +kernel
theorem dX7_digitAt_16 : decode cX7_digitAt 16 = .ok (.isub, 1) := by decide +kernel
theorem dX7_digitAt_17 : decode cX7_digitAt 17 = .ok (.goto 4, 3) := by decide +kernel
theorem dX7_digitAt_20 : decode cX7_digitAt 20 = .ok (.iconst 0, 1) := by decide +kernel
theorem dX7_digitAt_21 : decode cX7_digitAt 21 = .ok (.ireturn, 1) := by decide +kernel
set_option maxRecDepth 20000 in
theorem ggX8_init_X10_init : GoodIn wsX8_init wsX10_init := goodIn_r _ [14, 15, 2, 3] rfl (by decide +kernel)
set_option maxRecDepth 20000 in
theorem gX8_init_X10_init_n26 : GoodIn wsX8_init (wsX10_init) := ggX8_init_X10_init
theorem dX8_init_0 : decode cX8_init 0 = .ok (.aload_n 0, 1) := by decide +kernel
theorem dX8_init_1 : decode cX8_init 1 = .ok (.invokespecial 3, 3) := by decide +kernel
theorem dX8_init_4 : decode cX8_init 4 = .ok (.aload_n 0, 1) := by decide +kernel
theorem dX8_init_5 : decode cX8_init 5 = .ok (.bipush 60, 2) := by decide +kernel
theorem dX8_init_7 : decode cX8_init 7 = .ok (.newarray .int, 2) := by decide +kernel
theorem dX8_init_9 : decode cX8_init 9 = .ok (.putfield 9, 3) := by decide +kernel
theorem dX8_init_12 : decode cX8_init 12 = .ok (.aload_n 0, 1) := by decide +kernel
theorem dX8_init_13 : decode cX8_init 13 = .ok (.bipush 60, 2) := by decide +kernel
theorem dX8_init_15 : decode cX8_init 15 = .ok (.newarray .int, 2) := by decide +kernel
theorem dX8_init_17 : decode cX8_init 17 = .ok (.putfield 15, 3) := by decide +kernel
theorem dX8_init_20 : decode cX8_init 20 = .ok (.aload_n 0, 1) := by decide +kernel
theorem dX8_init_21 : decode cX8_init 21 = .ok (.sipush 1001, 3) := by decide +kernel
theorem dX8_init_24 : decode cX8_init 24 = .ok (.newarray .int, 2) := by decide +kernel
theorem dX8_init_26 : decode cX8_init 26 = .ok (.putfield 18, 3) := by decide +kernel
theorem dX8_init_29 : decode cX8_init 29 = .ok (.aload_n 0, 1) := by decide +kernel
theorem dX8_init_30 : decode cX8_init 30 = .ok (.sipush 1001, 3) := by decide +kernel
theorem dX8_init_33 : decode cX8_init 33 = .ok (.newarray .int, 2) := by decide +kernel
theorem dX8_init_35 : decode cX8_init 35 = .ok (.putfield 21, 3) := by decide +kernel
theorem dX8_init_38 : decode cX8_init 38 = .ok (.aload_n 0, 1) := by decide +kernel
theorem dX8_init_39 : decode cX8_init 39 = .ok (.new 24, 3) := by decide +kernel
theorem dX8_init_42 : decode cX8_init 42 = .ok (.dup, 1) := by decide +kernel
theorem dX8_init_43 : decode cX8_init 43 = .ok (.invokespecial 26, 3) := by decide +kernel
theorem dX8_init_46 : decode cX8_init 46 = .ok (.putfield 27, 3) := by decide +kernel
theorem dX8_init_49 : decode cX8_init 49 = .ok (.return_, 1) := by decide +kernel
set_option maxRecDepth 20000 in
theorem ggX8_build_J7_fill_53178 : GoodIn wsX8_build wsJ7_fill_53178 := goodIn_r _ [9] rfl (by decide +kernel)
set_option maxRecDepth 20000 in
theorem gX8_build_J7_fill_53178 : GoodIn wsX8_build (va_wsS RX8 31 yJ7_fill_53178 wsJ7_fill_53178) := goodIn_app (goodIn_of _ (by decide +kernel)) ggX8_build_J7_fill_53178
set_option maxRecDepth 20000 in
theorem ggX8_build_X5_isThere : GoodIn wsX8_build wsX5_isThere := goodIn_r _ [14, 15, 16, 17, 18, 58, 59, 60, 61, 62, 63, 64, 65] rfl (by decide +kernel)
set_option maxRecDepth 20000 in
theorem gX8_build_X5_isThere : GoodIn wsX8_build (wsV RX8 43 RX5 yX5_isThere wsX5_isThere) := goodIn_app (goodIn_of _ (by decide +kernel)) ggX8_build_X5_isThere
set_option maxRecDepth 20000 in
theorem ggX8_build_X8_lay : GoodIn wsX8_build wsX8_lay := goodIn_r _ [23, 24, 25, 2, 1, 26, 27, 28, 29, 30, 31, 32, 33, 34, 35, 36, 37, 38, 39, 40, 41, 42, 43, 44, 45, 46, 47, 48, 49, 50, 51, 52, 53, 54, 55, 56, 57, 66, 67, 68, 69] rfl (by decide +kernel)
set_option maxRecDepth 20000 in
theorem gX8_build_X8_lay : GoodIn wsX8_build (wsV RX8 53 RX8 yX8_lay wsX8_lay) := goodIn_app (goodIn_of _ (by decide +kernel)) ggX8_build_X8_lay
theorem dX8_build_0 : decode cX8_build 0 = .ok (.aload_n 0, 1) := by decide +kernel
theorem dX8_build_1 : decode cX8_build 1 = .ok (.getfield 18, 3) := by decide +kernel
theorem dX8_build_4 : decode cX8_build 4 = .ok (.iconst 0, 1) := by decide +kernel
theorem dX8_build_5 : decode cX8_build 5 = .ok (.invokestatic 31, 3) := by decide +kernel
theorem dX8_build_8 : decode cX8_build 8 = .ok (.aload_n 0, 1) := by decide +kernel
theorem dX8_build_9 : decode cX8_build 9 = .ok (.getfield 21, 3) := by decide +kernel
theorem dX8_build_12 : decode cX8_build 12 = .ok (.iconst 0, 1) := by decide +kernel
theorem dX8_build_13 : decode cX8_build 13 = .ok (.invokestatic 31, 3) := by decide +kernel
theorem dX8_build_16 : decode cX8_build 16 = .ok (.iconst 0, 1) := by decide +kernel
theorem dX8_build_17 : decode cX8_build 17 = .ok (.istore_n 2, 1) := by decide +kernel
theorem dX8_build_18 : decode cX8_build 18 = .ok (.iload_n 2, 1) := by decide +kernel
theorem dX8_build_19 : decode cX8_build 19 = .ok (.aload_n 1, 1) := by decide +kernel
theorem dX8_build_20 : decode cX8_build 20 = .ok (.getfield 37, 3) := by decide +kernel
theorem dX8_build_23 : decode cX8_build 23 = .ok (.if_icmp .ge 34, 3) := by decide +kernel
theorem dX8_build_26 : decode cX8_build 26 = .ok (.aload_n 1, 1) := by decide +kernel
theorem dX8_build_27 : decode cX8_build 27 = .ok (.iload_n 2, 1) := by decide +kernel
theorem dX8_build_28 : decode cX8_build 28 = .ok (.invokevirtual 43, 3) := by decide +kernel
theorem dX8_build_31 : decode cX8_build 31 = .ok (.ifCond .eq 20, 3) := by decide +kernel
theorem dX8_build_34 : decode cX8_build 34 = .ok (.aload_n 0, 1) := by decide +kernel
theorem dX8_build_35 : decode cX8_build 35 = .ok (.iload_n 2, 1) := by decide +kernel
theorem dX8_build_36 : decode cX8_build 36 = .ok (.aload_n 1, 1) := by decide +kernel
theorem dX8_build_37 : decode cX8_build 37 = .ok (.getfield 47, 3) := by decide +kernel
theorem dX8_build_40 : decode cX8_build 40 = .ok (.iload_n 2, 1) := by decide +kernel
theorem dX8_build_41 : decode cX8_build 41 = .ok (.iaload, 1) := by decide +kernel
theorem dX8_build_42 : decode cX8_build 42 = .ok (.aload_n 1, 1) := by decide +kernel
theorem dX8_build_43 : decode cX8_build 43 = .ok (.getfield 50, 3) := by decide +kernel
theorem dX8_build_46 : decode cX8_build 46 = .ok (.iload_n 2, 1) := by decide +kernel
theorem dX8_build_47 : decode cX8_build 47 = .ok (.iaload, 1) := by decide +kernel
theorem dX8_build_48 : decode cX8_build 48 = .ok (.invokevirtual 53, 3) := by decide +kernel
theorem dX8_build_51 : decode cX8_build 51 = .ok (.iinc 2 1, 3) := by decide +kernel
theorem dX8_build_54 : decode cX8_build 54 = .ok (.goto (-36), 3) := by decide +kernel
theorem dX8_build_57 : decode cX8_build 57 = .ok (.return_, 1) := by decide +kernel
set_option maxRecDepth 20000 in
theorem ggX8_lay_X10_start : GoodIn wsX8_lay wsX10_start := goodIn_r _ [12, 13, 14, 15, 16, 17, 18, 11, 19, 37, 38, 39, 40] rfl (by decide +kernel)
set_option maxRecDepth 20000 in
theorem gX8_lay_X10_start : GoodIn wsX8_lay (wsV RX8 57 RX10 yX10_start wsX10_start) := goodIn_app (goodIn_of _ (by decide +kernel)) ggX8_lay_X10_start
set_option maxRecDepth 20000 in
theorem ggX8_lay_X10_hasPlaces : GoodIn wsX8_lay wsX10_hasPlaces := goodIn_r _ [23, 13, 14, 37, 38, 39, 40] rfl (by decide +kernel)
set_option maxRecDepth 20000 in
theorem gX8_lay_X10_hasPlaces : GoodIn wsX8_lay (wsV RX8 60 RX10 yX10_hasPlaces wsX10_hasPlaces) := goodIn_app (goodIn_of _ (by decide +kernel)) ggX8_lay_X10_hasPlaces
set_option maxRecDepth 20000 in
theorem ggX8_lay_X10_goLeft : GoodIn wsX8_lay wsX10_goLeft := goodIn_r _ [27, 15, 14, 13, 16, 17, 18, 11, 19, 37, 38, 39, 40] rfl (by decide +kernel)
set_option maxRecDepth 20000 in
theorem gX8_lay_X10_goLeft : GoodIn wsX8_lay (wsV RX8 67 RX10 yX10_goLeft wsX10_goLeft) := goodIn_app (goodIn_of _ (by decide +kernel)) ggX8_lay_X10_goLeft
set_option maxRecDepth 20000 in
theorem ggX8_lay_X10_goRight : GoodIn wsX8_lay wsX10_goRight := goodIn_r _ [31, 15, 13, 14, 16, 17, 18, 11, 19, 37, 38, 39, 40] rfl (by decide +kernel)
set_option maxRecDepth 20000 in
theorem gX8_lay_X10_goRight : GoodIn wsX8_lay (wsV RX8 70 RX10 yX10_goRight wsX10_goRight) := goodIn_app (goodIn_of _ (by decide +kernel)) ggX8_lay_X10_goRight
theorem dX8_lay_0 : decode cX8_lay 0 = .ok (.aload_n 0, 1) := by decide +kernel
theorem dX8_lay_1 : decode cX8_lay 1 = .ok (.getfield 27, 3) := by decide +kernel
theorem dX8_lay_4 : decode cX8_lay 4 = .ok (.invokevirtual 57, 3) := by decide +kernel
theorem dX8_lay_7 : decode cX8_lay 7 = .ok (.iconst 0, 1) := by decide +kernel
theorem dX8_lay_8 : decode cX8_lay 8 = .ok (.istore 4, 2) := by decide +kernel
theorem dX8_lay_10 : decode cX8_lay 10 = .ok (.iload 4, 2) := by decide +kernel
theorem dX8_lay_12 : decode cX8_lay 12 = .ok (.bipush 16, 2) := by decide +kernel
theorem dX8_lay_14 : decode cX8_lay 14 = .ok (.if_icmp .ge 104, 3) := by decide +kernel
theorem dX8_lay_17 : decode cX8_lay 17 = .ok (.aload_n 0, 1) := by decide +kernel
theorem dX8_lay_18 : decode cX8_lay 18 = .ok (.getfield 27, 3) := by decide +kernel
theorem dX8_lay_21 : decode cX8_lay 21 = .ok (.invokevirtual 60, 3) := by decide +kernel
theorem dX8_lay_24 : decode cX8_lay 24 = .ok (.ifCond .eq 94, 3) := by decide +kernel
theorem dX8_lay_27 : decode cX8_lay 27 = .ok (.aload_n 0, 1) := by decide +kernel
theorem dX8_lay_28 : decode cX8_lay 28 = .ok (.getfield 27, 3) := by decide +kernel
theorem dX8_lay_31 : decode cX8_lay 31 = .ok (.getfield 64, 3) := by decide +kernel
theorem dX8_lay_34 : decode cX8_lay 34 = .ok (.istore 5, 2) := by decide +kernel
theorem dX8_lay_36 : decode cX8_lay 36 = .ok (.aload_n 0, 1) := by decide +kernel
theorem dX8_lay_37 : decode cX8_lay 37 = .ok (.getfield 21, 3) := by decide +kernel
theorem dX8_lay_40 : decode cX8_lay 40 = .ok (.iload 5, 2) := by decide +kernel
theorem dX8_lay_42 : decode cX8_lay 42 = .ok (.dup2, 1) := by decide +kernel
theorem dX8_lay_43 : decode cX8_lay 43 = .ok (.iaload, 1) := by decide +kernel
theorem dX8_lay_44 : decode cX8_lay 44 = .ok (.iconst 1, 1) := by decide +kernel
theorem dX8_lay_45 : decode cX8_lay 45 = .ok (.iadd, 1) := by decide +kernel
theorem dX8_lay_46 : decode cX8_lay 46 = .ok (.iastore, 1) := by decide +kernel
theorem dX8_lay_47 : decode cX8_lay 47 = .ok (.iload_n 3, 1) := by decide +kernel
theorem dX8_lay_48 : decode cX8_lay 48 = .ok (.iload 5, 2) := by decide +kernel
theorem dX8_lay_50 : decode cX8_lay 50 = .ok (.if_icmp .ge 13, 3) := by decide +kernel
theorem dX8_lay_53 : decode cX8_lay 53 = .ok (.aload_n 0, 1) := by decide +kernel
theorem dX8_lay_54 : decode cX8_lay 54 = .ok (.getfield 27, 3) := by decide +kernel
theorem dX8_lay_57 : decode cX8_lay 57 = .ok (.invokevirtual 67, 3) := by decide +kernel
theorem dX8_lay_60 : decode cX8_lay 60 = .ok (.goto 52, 3) := by decide +kernel
theorem dX8_lay_63 : decode cX8_lay 63 = .ok (.iload_n 2, 1) := by decide +kernel
theorem dX8_lay_64 : decode cX8_lay 64 = .ok (.iload 5, 2) := by decide +kernel
theorem dX8_lay_66 : decode cX8_lay 66 = .ok (.if_icmp .le 13, 3) := by decide +kernel
theorem dX8_lay_69 : decode cX8_lay 69 = .ok (.aload_n 0, 1) := by decide +kernel
theorem dX8_lay_70 : decode cX8_lay 70 = .ok (.getfield 27, 3) := by decide +kernel
theorem dX8_lay_73 : decode cX8_lay 73 = .ok (.invokevirtual 70, 3) := by decide +kernel
theorem dX8_lay_76 : decode cX8_lay 76 = .ok (.goto 36, 3) := by decide +kernel
theorem dX8_lay_79 : decode cX8_lay 79 = .ok (.aload_n 0, 1) := by decide +kernel
theorem dX8_lay_80 : decode cX8_lay 80 = .ok (.getfield 18, 3) := by decide +kernel
theorem dX8_lay_83 : decode cX8_lay 83 = .ok (.iload 5, 2) := by decide +kernel
theorem dX8_lay_85 : decode cX8_lay 85 = .ok (.dup2, 1) := by decide +kernel
theorem dX8_lay_86 : decode cX8_lay 86 = .ok (.iaload, 1) := by decide +kernel
theorem dX8_lay_87 : decode cX8_lay 87 = .ok (.iconst 1, 1) := by decide +kernel
theorem dX8_lay_88 : decode cX8_lay 88 = .ok (.iadd, 1) := by decide +kernel
theorem dX8_lay_89 : decode cX8_lay 89 = .ok (.iastore, 1) := by decide +kernel
theorem dX8_lay_90 : decode cX8_lay 90 = .ok (.aload_n 0, 1) := by decide +kernel
theorem dX8_lay_91 : decode cX8_lay 91 = .ok (.getfield 9, 3) := by decide +kernel
theorem dX8_lay_94 : decode cX8_lay 94 = .ok (.iload_n 1, 1) := by decide +kernel
theorem dX8_lay_95 : decode cX8_lay 95 = .ok (.iload 5, 2) := by decide +kernel
theorem dX8_lay_97 : decode cX8_lay 97 = .ok (.iastore, 1) := by decide +kernel
theorem dX8_lay_98 : decode cX8_lay 98 = .ok (.aload_n 0, 1) := by decide +kernel
theorem dX8_lay_99 : decode cX8_lay 99 = .ok (.getfield 15, 3) := by decide +kernel
theorem dX8_lay_102 : decode cX8_lay 102 = .ok (.iload_n 1, 1) := by decide +kernel
theorem dX8_lay_103 : decode cX8_lay 103 = .ok (.aload_n 0, 1) := by decide +kernel
theorem dX8_lay_104 : decode cX8_lay 104 = .ok (.getfield 27, 3) := by decide +kernel
theorem dX8_lay_107 : decode cX8_lay 107 = .ok (.getfield 73, 3) := by decide +kernel
theorem dX8_lay_110 : decode cX8_lay 110 = .ok (.iastore, 1) := by decide +kernel
theorem dX8_lay_111 : decode cX8_lay 111 = .ok (.return_, 1) := by decide +kernel
theorem dX8_lay_112 : decode cX8_lay 112 = .ok (.iinc 4 1, 3) := by decide +kernel
theorem dX8_lay_115 : decode cX8_lay 115 = .ok (.goto (-105), 3) := by decide +kernel
theorem dX8_lay_118 : decode cX8_lay 118 = .ok (.return_, 1) := by decide +kernel
set_option maxRecDepth 20000 in
theorem ggX8_nodesOnWay_X10_start : GoodIn wsX8_nodesOnWay wsX10_start := goodIn_r _ [6, 7, 8, 9, 10, 11, 12, 5, 13, 42, 43, 44, 45] rfl (by decide +kernel)
set_option maxRecDepth 20000 in
theorem gX8_nodesOnWay_X10_start : GoodIn wsX8_nodesOnWay (wsV RX8 57 RX10 yX10_start wsX10_start) := goodIn_app (goodIn_of _ (by decide +kernel)) ggX8_nodesOnWay_X10_start
set_option maxRecDepth 20000 in
theorem ggX8_nodesOnWay_X8_isNode : GoodIn wsX8_nodesOnWay wsX8_isNode := goodIn_r _ [18, 1, 19, 20, 21, 22, 23, 5, 24, 7, 8, 37, 38, 39, 40, 41, 42, 43, 44, 45] rfl (by decide +kernel)
set_option maxRecDepth 20000 in
theorem gX8_nodesOnWay_X8_isNode : GoodIn wsX8_nodesOnWay (wsV RX8 76 RX8 yX8_isNode wsX8_isNode) := goodIn_app (goodIn_of _ (by decide +kernel)) ggX8_nodesOnWay_X8_isNode
set_option maxRecDepth 20000 in
theorem ggX8_nodesOnWay_X8_goTowards : GoodIn wsX8_nodesOnWay wsX8_goTowards := goodIn_r _ [28, 1, 20, 29, 30, 31, 5, 32, 9, 8, 7, 10, 11, 12, 13, 33, 34, 35, 36, 37, 38, 39, 40, 41, 42, 43, 44, 45] rfl (by decide +kernel)
set_option maxRecDepth 20000 in
theorem gX8_nodesOnWay_X8_goTowards : GoodIn wsX8_nodesOnWay (wsV RX8 79 RX8 yX8_goTowards wsX8_goTowards) := goodIn_app (goodIn_of _ (by decide +kernel)) ggX8_nodesOnWay_X8_goTowards
theorem dX8_nodesOnWay_0 : decode cX8_nodesOnWay 0 = .ok (.aload_n 0, 1) := by decide +kernel
theorem dX8_nodesOnWay_1 : decode cX8_nodesOnWay 1 = .ok (.getfield 27, 3) := by decide +kernel
theorem dX8_nodesOnWay_4 : decode cX8_nodesOnWay 4 = .ok (.invokevirtual 57, 3) := by decide +kernel
theorem dX8_nodesOnWay_7 : decode cX8_nodesOnWay 7 = .ok (.iconst 0, 1) := by decide +kernel
theorem dX8_nodesOnWay_8 : decode cX8_nodesOnWay 8 = .ok (.istore_n 2, 1) := by decide +kernel
theorem dX8_nodesOnWay_9 : decode cX8_nodesOnWay 9 = .ok (.iconst 0, 1) := by decide +kernel
theorem dX8_nodesOnWay_10 : decode cX8_nodesOnWay 10 = .ok (.istore_n 3, 1) := by decide +kernel
theorem dX8_nodesOnWay_11 : decode cX8_nodesOnWay 11 = .ok (.iload_n 3, 1) := by decide +kernel
theorem dX8_nodesOnWay_12 : decode cX8_nodesOnWay 12 = .ok (.bipush 16, 2) := by decide +kernel
theorem dX8_nodesOnWay_14 : decode cX8_nodesOnWay 14 = .ok (.if_icmp .ge 30, 3) := by decide +kernel
theorem dX8_nodesOnWay_17 : decode cX8_nodesOnWay 17 = .ok (.aload_n 0, 1) := by decide +kernel
theorem dX8_nodesOnWay_18 : decode cX8_nodesOnWay 18 = .ok (.invokevirtual 76, 3) := by decide +kernel
theorem dX8_nodesOnWay_21 : decode cX8_nodesOnWay 21 = .ok (.ifCond .eq 23, 3) := by decide +kernel
theorem dX8_nodesOnWay_24 : decode cX8_nodesOnWay 24 = .ok (.iinc 2 1, 3) := by decide +kernel
theorem dX8_nodesOnWay_27 : decode cX8_nodesOnWay 27 = .ok (.aload_n 0, 1) := by decide +kernel
theorem dX8_nodesOnWay_28 : decode cX8_nodesOnWay 28 = .ok (.iload_n 1, 1) := by decide +kernel
theorem dX8_nodesOnWay_29 : decode cX8_nodesOnWay 29 = .ok (.invokevirtual 79, 3) := by decide +kernel
theorem dX8_nodesOnWay_32 : decode cX8_nodesOnWay 32 = .ok (.ifCond .ne 6, 3) := by decide +kernel
theorem dX8_nodesOnWay_35 : decode cX8_nodesOnWay 35 = .ok (.goto 9, 3) := by decide +kernel
theorem dX8_nodesOnWay_38 : decode cX8_nodesOnWay 38 = .ok (.iinc 3 1, 3) := by decide +kernel
theorem dX8_nodesOnWay_41 : decode cX8_nodesOnWay 41 = .ok (.goto (-30), 3) := by decide +kernel
theorem dX8_nodesOnWay_44 : decode cX8_nodesOnWay 44 = .ok (.iload_n 2, 1) := by decide +kernel
theorem dX8_nodesOnWay_45 : decode cX8_nodesOnWay 45 = .ok (.ireturn, 1) := by decide +kernel
set_option maxRecDepth 20000 in
theorem ggX8_spansLookedAt_X10_start : GoodIn wsX8_spansLookedAt wsX10_start := goodIn_r _ [7, 8, 9, 10, 11, 12, 13, 6, 14, 67, 68, 69, 70] rfl (by decide +kernel)
set_option maxRecDepth 20000 in
theorem gX8_spansLookedAt_X10_start : GoodIn wsX8_spansLookedAt (wsV RX8 57 RX10 yX10_start wsX10_start) := goodIn_app (goodIn_of _ (by decide +kernel)) ggX8_spansLookedAt_X10_start
set_option maxRecDepth 20000 in
theorem ggX8_spansLookedAt_X8_isNode : GoodIn wsX8_spansLookedAt wsX8_isNode := goodIn_r _ [19, 1, 20, 2, 21, 22, 23, 6, 24, 8, 9, 62, 63, 64, 65, 66, 67, 68, 69, 70] rfl (by decide +kernel)
set_option maxRecDepth 20000 in
theorem gX8_spansLookedAt_X8_isNode : GoodIn wsX8_spansLookedAt (wsV RX8 76 RX8 yX8_isNode wsX8_isNode) := goodIn_app (goodIn_of _ (by decide +kernel)) ggX8_spansLookedAt_X8_isNode
set_option maxRecDepth 20000 in
theorem ggX8_spansLookedAt_X8_lookedAtIn : GoodIn wsX8_spansLookedAt wsX8_lookedAtIn := goodIn_r _ [28, 29, 30, 31, 32, 33, 34, 35, 36, 37, 38, 39, 40, 41, 42, 43, 44, 45, 46, 18, 47, 48, 49, 71, 72, 73, 74, 75, 76, 77, 78, 62, 63, 64, 65, 66] rfl (by decide +kernel)
set_option maxRecDepth 20000 in
theorem gX8_spansLookedAt_X8_lookedAtIn : GoodIn wsX8_spansLookedAt (wsV RX8 82 RX8 yX8_lookedAtIn wsX8_lookedAtIn) := goodIn_app (goodIn_of _ (by decide +kernel)) ggX8_spansLookedAt_X8_lookedAtIn
set_option maxRecDepth 20000 in
theorem ggX8_spansLookedAt_X8_goTowards : GoodIn wsX8_spansLookedAt wsX8_goTowards := goodIn_r _ [53, 1, 2, 54, 55, 56, 6, 57, 10, 9, 8, 11, 12, 13, 14, 58, 59, 60, 61, 62, 63, 64, 65, 66, 67, 68, 69, 70] rfl (by decide +kernel)
set_option maxRecDepth 20000 in
theorem gX8_spansLookedAt_X8_goTowards : GoodIn wsX8_spansLookedAt (wsV RX8 79 RX8 yX8_goTowards wsX8_goTowards) := goodIn_app (goodIn_of _ (by decide +kernel)) ggX8_spansLookedAt_X8_goTowards
theorem dX8_spansLookedAt_0 : decode cX8_spansLookedAt 0 = .ok (.aload_n 0, 1) := by decide +kernel
theorem dX8_spansLookedAt_1 : decode cX8_spansLookedAt 1 = .ok (.getfield 27, 3) := by decide +kernel
theorem dX8_spansLookedAt_4 : decode cX8_spansLookedAt 4 = .ok (.invokevirtual 57, 3) := by decide +kernel
theorem dX8_spansLookedAt_7 : decode cX8_spansLookedAt 7 = .ok (.iconst 0, 1) := by decide +kernel
theorem dX8_spansLookedAt_8 : decode cX8_spansLookedAt 8 = .ok (.istore_n 3, 1) := by decide +kernel
theorem dX8_spansLookedAt_9 : decode cX8_spansLookedAt 9 = .ok (.iconst 0, 1) := by decide +kernel
theorem dX8_spansLookedAt_10 : decode cX8_spansLookedAt 10 = .ok (.istore 4, 2) := by decide +kernel
theorem dX8_spansLookedAt_12 : decode cX8_spansLookedAt 12 = .ok (.iload 4, 2) := by decide +kernel
theorem dX8_spansLookedAt_14 : decode cX8_spansLookedAt 14 = .ok (.bipush 16, 2) := by decide +kernel
theorem dX8_spansLookedAt_16 : decode cX8_spansLookedAt 16 = .ok (.if_icmp .ge 43, 3) := by decide +kernel
theorem dX8_spansLookedAt_19 : decode cX8_spansLookedAt 19 = .ok (.aload_n 0, 1) := by decide +kernel
theorem dX8_spansLookedAt_20 : decode cX8_spansLookedAt 20 = .ok (.invokevirtual 76, 3) := by decide +kernel
theorem dX8_spansLookedAt_23 : decode cX8_spansLookedAt 23 = .ok (.ifCond .eq 36, 3) := by decide +kernel
theorem dX8_spansLookedAt_26 : decode cX8_spansLookedAt 26 = .ok (.iload_n 3, 1) := by decide +kernel
theorem dX8_spansLookedAt_27 : decode cX8_spansLookedAt 27 = .ok (.aload_n 0, 1) := by decide +kernel
theorem dX8_spansLookedAt_28 : decode cX8_spansLookedAt 28 = .ok (.aload_n 0, 1) := by decide +kernel
theorem dX8_spansLookedAt_29 : decode cX8_spansLookedAt 29 = .ok (.getfield 27, 3) := by decide +kernel
theorem dX8_spansLookedAt_32 : decode cX8_spansLookedAt 32 = .ok (.getfield 64, 3) := by decide +kernel
theorem dX8_spansLookedAt_35 : decode cX8_spansLookedAt 35 = .ok (.iload_n 1, 1) := by decide +kernel
theorem dX8_spansLookedAt_36 : decode cX8_spansLookedAt 36 = .ok (.aload_n 2, 1) := by decide +kernel
theorem dX8_spansLookedAt_37 : decode cX8_spansLookedAt 37 = .ok (.invokevirtual 82, 3) := by decide +kernel
theorem dX8_spansLookedAt_40 : decode cX8_spansLookedAt 40 = .ok (.iadd, 1) := by decide +kernel
theorem dX8_spansLookedAt_41 : decode cX8_spansLookedAt 41 = .ok (.istore_n 3, 1) := by decide +kernel
theorem dX8_spansLookedAt_42 : decode cX8_spansLookedAt 42 = .ok (.aload_n 0, 1) := by decide +kernel
theorem dX8_spansLookedAt_43 : decode cX8_spansLookedAt 43 = .ok (.iload_n 1, 1) := by decide +kernel
theorem dX8_spansLookedAt_44 : decode cX8_spansLookedAt 44 = .ok (.invokevirtual 79, 3) := by decide +kernel
theorem dX8_spansLookedAt_47 : decode cX8_spansLookedAt 47 = .ok (.ifCond .ne 6, 3) := by decide +kernel
theorem dX8_spansLookedAt_50 : decode cX8_spansLookedAt 50 = .ok (.goto 9, 3) := by decide +kernel
theorem dX8_spansLookedAt_53 : decode cX8_spansLookedAt 53 = .ok (.iinc 4 1, 3) := by decide +kernel
theorem dX8_spansLookedAt_56 : decode cX8_spansLookedAt 56 = .ok (.goto (-44), 3) := by decide +kernel
theorem dX8_spansLookedAt_59 : decode cX8_spansLookedAt 59 = .ok (.iload_n 3, 1) := by decide +kernel
theorem dX8_spansLookedAt_60 : decode cX8_spansLookedAt 60 = .ok (.ireturn, 1) := by decide +kernel
set_option maxRecDepth 20000 in
theorem ggX8_isNode_X10_hasPlaces : GoodIn wsX8_isNode wsX10_hasPlaces := goodIn_r _ [8, 9, 10, 16, 17, 18, 19] rfl (by decide +kernel)
set_option maxRecDepth 20000 in
theorem gX8_isNode_X10_hasPlaces : GoodIn wsX8_isNode (wsV RX8 60 RX10 yX10_hasPlaces wsX10_hasPlaces) := goodIn_app (goodIn_of _ (by decide +kernel)) ggX8_isNode_X10_hasPlaces
theorem dX8_isNode_0 : decode cX8_isNode 0 = .ok (.aload_n 0, 1) := by decide +kernel
theorem dX8_isNode_1 : decode cX8_isNode 1 = .ok (.getfield 27, 3) := by decide +kernel
theorem dX8_isNode_4 : decode cX8_isNode 4 = .ok (.invokevirtual 60, 3) := by decide +kernel
theorem dX8_isNode_7 : decode cX8_isNode 7 = .ok (.ifCond .eq 22, 3) := by decide +kernel
theorem dX8_isNode_10 : decode cX8_isNode 10 = .ok (.aload_n 0, 1) := by decide +kernel
theorem dX8_isNode_11 : decode cX8_isNode 11 = .ok (.getfield 21, 3) := by decide +kernel
theorem dX8_isNode_14 : decode cX8_isNode 14 = .ok (.aload_n 0, 1) := by decide +kernel
theorem dX8_isNode_15 : decode cX8_isNode 15 = .ok (.getfield 27, 3) := by decide +kernel
theorem dX8_isNode_18 : decode cX8_isNode 18 = .ok (.getfield 64, 3) := by decide +kernel
theorem dX8_isNode_21 : decode cX8_isNode 21 = .ok (.iaload, 1) := by decide +kernel
theorem dX8_isNode_22 : decode cX8_isNode 22 = .ok (.ifCond .le 7, 3) := by decide +kernel
theorem dX8_isNode_25 : decode cX8_isNode 25 = .ok (.iconst 1, 1) := by decide +kernel
theorem dX8_isNode_26 : decode cX8_isNode 26 = .ok (.goto 4, 3) := by decide +kernel
theorem dX8_isNode_29 : decode cX8_isNode 29 = .ok (.iconst 0, 1) := by decide +kernel
theorem dX8_isNode_30 : decode cX8_isNode 30 = .ok (.ireturn, 1) := by decide +kernel
set_option maxRecDepth 20000 in
theorem ggX8_goTowards_X10_goLeft : GoodIn wsX8_goTowards wsX10_goLeft := goodIn_r _ [7, 8, 9, 10, 11, 12, 13, 6, 14, 24, 25, 26, 27] rfl (by decide +kernel)
set_option maxRecDepth 20000 in
theorem gX8_goTowards_X10_goLeft : GoodIn wsX8_goTowards (wsV RX8 67 RX10 yX10_goLeft wsX10_goLeft) := goodIn_app (goodIn_of _ (by decide +kernel)) ggX8_goTowards_X10_goLeft
set_option maxRecDepth 20000 in
theorem ggX8_goTowards_X10_goRight : GoodIn wsX8_goTowards wsX10_goRight := goodIn_r _ [18, 8, 10, 9, 11, 12, 13, 6, 14, 24, 25, 26, 27] rfl (by decide +kernel)
set_option maxRecDepth 20000 in
theorem gX8_goTowards_X10_goRight : GoodIn wsX8_goTowards (wsV RX8 70 RX10 yX10_goRight wsX10_goRight) := goodIn_app (goodIn_of _ (by decide +kernel)) ggX8_goTowards_X10_goRight
theorem dX8_goTowards_0 : decode cX8_goTowards 0 = .ok (.iload_n 1, 1) := by decide +kernel
theorem dX8_goTowards_1 : decode cX8_goTowards 1 = .ok (.aload_n 0, 1) := by decide +kernel
theorem dX8_goTowards_2 : decode cX8_goTowards 2 = .ok (.getfield 27, 3) := by decide +kernel
theorem dX8_goTowards_5 : decode cX8_goTowards 5 = .ok (.getfield 64, 3) := by decide +kernel
theorem dX8_goTowards_8 : decode cX8_goTowards 8 = .ok (.if_icmp .ne 5, 3) := by decide +kernel
theorem dX8_goTowards_11 : decode cX8_goTowards 11 = .ok (.iconst 0, 1) := by decide +kernel
theorem dX8_goTowards_12 : decode cX8_goTowards 12 = .ok (.ireturn, 1) := by decide +kernel
theorem dX8_goTowards_13 : decode cX8_goTowards 13 = .ok (.iload_n 1, 1) := by decide +kernel
theorem dX8_goTowards_14 : decode cX8_goTowards 14 = .ok (.aload_n 0, 1) := by decide +kernel
theorem dX8_goTowards_15 : decode cX8_goTowards 15 = .ok (.getfield 27, 3) := by decide +kernel
theorem dX8_goTowards_18 : decode cX8_goTowards 18 = .ok (.getfield 64, 3) := by decide +kernel
theorem dX8_goTowards_21 : decode cX8_goTowards 21 = .ok (.if_icmp .ge 13, 3) := by decide +kernel
theorem dX8_goTowards_24 : decode cX8_goTowards 24 = .ok (.aload_n 0, 1) := by decide +kernel
theorem dX8_goTowards_25 : decode cX8_goTowards 25 = .ok (.getfield 27, 3) := by decide +kernel
theorem dX8_goTowards_28 : decode cX8_goTowards 28 = .ok (.invokevirtual 67, 3) := by decide +kernel
theorem dX8_goTowards_31 : decode cX8_goTowards 31 = .ok (.goto 10, 3) := by decide +kernel
theorem dX8_goTowards_34 : decode cX8_goTowards 34 = .ok (.aload_n 0, 1) := by decide +kernel
theorem dX8_goTowards_35 : decode cX8_goTowards 35 = .ok (.getfield 27, 3) := by decide +kernel
theorem dX8_goTowards_38 : decode cX8_goTowards 38 = .ok (.invokevirtual 70, 3) := by decide +kernel
theorem dX8_goTowards_41 : decode cX8_goTowards 41 = .ok (.iconst 1, 1) := by decide +kernel
theorem dX8_goTowards_42 : decode cX8_goTowards 42 = .ok (.ireturn, 1) := by decide +kernel
set_option maxRecDepth 20000 in
theorem ggX8_lookedAtIn_X5_isThere : GoodIn wsX8_lookedAtIn wsX5_isThere := goodIn_r _ [12, 13, 14, 15, 16, 23, 24, 25, 26, 27, 28, 29, 30] rfl (by decide +kernel)
set_option maxRecDepth 20000 in
theorem gX8_lookedAtIn_X5_isThere : GoodIn wsX8_lookedAtIn (wsV RX8 43 RX5 yX5_isThere wsX5_isThere) := goodIn_app (goodIn_of _ (by decide +kernel)) ggX8_lookedAtIn_X5_isThere
set_option maxRecDepth 20000 in
theorem ggX8_lookedAtIn_X8_reaches : GoodIn wsX8_lookedAtIn wsX8_reaches := goodIn_r _ [20, 21, 22, 23, 24, 25, 26, 27, 28, 29, 30] rfl (by decide +kernel)
set_option maxRecDepth 20000 in
theorem gX8_lookedAtIn_X8_reaches : GoodIn wsX8_lookedAtIn (va_wsS RX8 86 yX8_reaches wsX8_reaches) := goodIn_app (goodIn_of _ (by decide +kernel)) ggX8_lookedAtIn_X8_reaches
theorem dX8_lookedAtIn_0 : decode cX8_lookedAtIn 0 = .ok (.iconst 0, 1) := by decide +kernel
theorem dX8_lookedAtIn_1 : decode cX8_lookedAtIn 1 = .ok (.istore 4, 2) := by decide +kernel
theorem dX8_lookedAtIn_3 : decode cX8_lookedAtIn 3 = .ok (.iconst 0, 1) := by decide +kernel
theorem dX8_lookedAtIn_4 : decode cX8_lookedAtIn 4 = .ok (.istore 5, 2) := by decide +kernel
theorem dX8_lookedAtIn_6 : decode cX8_lookedAtIn 6 = .ok (.iload 5, 2) := by decide +kernel
theorem dX8_lookedAtIn_8 : decode cX8_lookedAtIn 8 = .ok (.aload_n 3, 1) := by decide +kernel
theorem dX8_lookedAtIn_9 : decode cX8_lookedAtIn 9 = .ok (.getfield 37, 3) := by decide +kernel
theorem dX8_lookedAtIn_12 : decode cX8_lookedAtIn 12 = .ok (.if_icmp .ge 43, 3) := by decide +kernel
theorem dX8_lookedAtIn_15 : decode cX8_lookedAtIn 15 = .ok (.aload_n 3, 1) := by decide +kernel
theorem dX8_lookedAtIn_16 : decode cX8_lookedAtIn 16 = .ok (.iload 5, 2) := by decide +kernel
theorem dX8_lookedAtIn_18 : decode cX8_lookedAtIn 18 = .ok (.invokevirtual 43, 3) := by decide +kernel
theorem dX8_lookedAtIn_21 : decode cX8_lookedAtIn 21 = .ok (.ifCond .eq 28, 3) := by decide +kernel
theorem dX8_lookedAtIn_24 : decode cX8_lookedAtIn 24 = .ok (.aload_n 0, 1) := by decide +kernel
theorem dX8_lookedAtIn_25 : decode cX8_lookedAtIn 25 = .ok (.getfield 9, 3) := by decide +kernel
theorem dX8_lookedAtIn_28 : decode cX8_lookedAtIn 28 = .ok (.iload 5, 2) := by decide +kernel
theorem dX8_lookedAtIn_30 : decode cX8_lookedAtIn 30 = .ok (.iaload, 1) := by decide +kernel
theorem dX8_lookedAtIn_31 : decode cX8_lookedAtIn 31 = .ok (.iload_n 1, 1) := by decide +kernel
theorem dX8_lookedAtIn_32 : decode cX8_lookedAtIn 32 = .ok (.if_icmp .ne 17, 3) := by decide +kernel
theorem dX8_lookedAtIn_35 : decode cX8_lookedAtIn 35 = .ok (.aload_n 3, 1) := by decide +kernel
theorem dX8_lookedAtIn_36 : decode cX8_lookedAtIn 36 = .ok (.iload 5, 2) := by decide +kernel
theorem dX8_lookedAtIn_38 : decode cX8_lookedAtIn 38 = .ok (.iload_n 2, 1) := by decide +kernel
theorem dX8_lookedAtIn_39 : decode cX8_lookedAtIn 39 = .ok (.iload_n 1, 1) := by decide +kernel
theorem dX8_lookedAtIn_40 : decode cX8_lookedAtIn 40 = .ok (.invokestatic 86, 3) := by decide +kernel
theorem dX8_lookedAtIn_43 : decode cX8_lookedAtIn 43 = .ok (.ifCond .eq 6, 3) := by decide +kernel
theorem dX8_lookedAtIn_46 : decode cX8_lookedAtIn 46 = .ok (.iinc 4 1, 3) := by decide +kernel
theorem dX8_lookedAtIn_49 : decode cX8_lookedAtIn 49 = .ok (.iinc 5 1, 3) := by decide +kernel
theorem dX8_lookedAtIn_52 : decode cX8_lookedAtIn 52 = .ok (.goto (-46), 3) := by decide +kernel
theorem dX8_lookedAtIn_55 : decode cX8_lookedAtIn 55 = .ok (.iload 4, 2) := by decide +kernel
theorem dX8_lookedAtIn_57 : decode cX8_lookedAtIn 57 = .ok (.iconst 1, 1) := by decide +kernel
theorem dX8_lookedAtIn_58 : decode cX8_lookedAtIn 58 = .ok (.iadd, 1) := by decide +kernel
theorem dX8_lookedAtIn_59 : decode cX8_lookedAtIn 59 = .ok (.aload_n 0, 1) := by decide +kernel
theorem dX8_lookedAtIn_60 : decode cX8_lookedAtIn 60 = .ok (.getfield 18, 3) := by decide +kernel
theorem dX8_lookedAtIn_63 : decode cX8_lookedAtIn 63 = .ok (.iload_n 1, 1) := by decide +kernel
theorem dX8_lookedAtIn_64 : decode cX8_lookedAtIn 64 = .ok (.iaload, 1) := by decide +kernel
theorem dX8_lookedAtIn_65 : decode cX8_lookedAtIn 65 = .ok (.invokestatic 90, 3) := by decide +kernel
theorem dX8_lookedAtIn_68 : decode cX8_lookedAtIn 68 = .ok (.ireturn, 1) := by decide +kernel
theorem dX8_reaches_0 : decode cX8_reaches 0 = .ok (.iload_n 2, 1) := by decide +kernel
theorem dX8_reaches_1 : decode cX8_reaches 1 = .ok (.iload_n 3, 1) := by decide +kernel
theorem dX8_reaches_2 : decode cX8_reaches 2 = .ok (.if_icmp .ge 19, 3) := by decide +kernel
theorem dX8_reaches_5 : decode cX8_reaches 5 = .ok (.aload_n 0, 1) := by decide +kernel
theorem dX8_reaches_6 : decode cX8_reaches 6 = .ok (.getfield 47, 3) := by decide +kernel
theorem dX8_reaches_9 : decode cX8_reaches 9 = .ok (.iload_n 1, 1) := by decide +kernel
theorem dX8_reaches_10 : decode cX8_reaches 10 = .ok (.iaload, 1) := by decide +kernel
theorem dX8_reaches_11 : decode cX8_reaches 11 = .ok (.iload_n 2, 1) := by decide +kernel
theorem dX8_reaches_12 : decode cX8_reaches 12 = .ok (.if_icmp .gt 7, 3) := by decide +kernel
theorem dX8_reaches_15 : decode cX8_reaches 15 = .ok (.iconst 1, 1) := by decide +kernel
theorem dX8_reaches_16 : decode cX8_reaches 16 = .ok (.goto 4, 3) := by decide +kernel
theorem dX8_reaches_19 : decode cX8_reaches 19 = .ok (.iconst 0, 1) := by decide +kernel
theorem dX8_reaches_20 : decode cX8_reaches 20 = .ok (.ireturn, 1) := by decide +kernel
theorem dX8_reaches_21 : decode cX8_reaches 21 = .ok (.iload_n 2, 1) := by decide +kernel
theorem dX8_reaches_22 : decode cX8_reaches 22 = .ok (.iload_n 3, 1) := by decide +kernel
theorem dX8_reaches_23 : decode cX8_reaches 23 = .ok (.if_icmp .eq 13, 3) := by decide +kernel
theorem dX8_reaches_26 : decode cX8_reaches 26 = .ok (.aload_n 0, 1) := by decide +kernel
theorem dX8_reaches_27 : decode cX8_reaches 27 = .ok (.getfield 50, 3) := by decide +kernel
theorem dX8_reaches_30 : decode cX8_reaches 30 = .ok (.iload_n 1, 1) := by decide +kernel
theorem dX8_reaches_31 : decode cX8_reaches 31 = .ok (.iaload, 1) := by decide +kernel
theorem dX8_reaches_32 : decode cX8_reaches 32 = .ok (.iload_n 2, 1) := by decide +kernel
theorem dX8_reaches_33 : decode cX8_reaches 33 = .ok (.if_icmp .lt 7, 3) := by decide +kernel
theorem dX8_reaches_36 : decode cX8_reaches 36 = .ok (.iconst 1, 1) := by decide +kernel
theorem dX8_reaches_37 : decode cX8_reaches 37 = .ok (.goto 4, 3) := by decide +kernel
theorem dX8_reaches_40 : decode cX8_reaches 40 = .ok (.iconst 0, 1) := by decide +kernel
theorem dX8_reaches_41 : decode cX8_reaches 41 = .ok (.ireturn, 1) := by decide +kernel
theorem dX8_countNodes_0 : decode cX8_countNodes 0 = .ok (.iconst 0, 1) := by decide +kernel
theorem dX8_countNodes_1 : decode cX8_countNodes 1 = .ok (.istore_n 1, 1) := by decide +kernel
theorem dX8_countNodes_2 : decode cX8_countNodes 2 = .ok (.iconst 0, 1) := by decide +kernel
theorem dX8_countNodes_3 : decode cX8_countNodes 3 = .ok (.istore_n 2, 1) := by decide +kernel
theorem dX8_countNodes_4 : decode cX8_countNodes 4 = .ok (.iload_n 2, 1) := by decide +kernel
theorem dX8_countNodes_5 : decode cX8_countNodes 5 = .ok (.sipush 1001, 3) := by decide +kernel
theorem dX8_countNodes_8 : decode cX8_countNodes 8 = .ok (.if_icmp .ge 21, 3) := by decide +kernel
theorem dX8_countNodes_11 : decode cX8_countNodes 11 = .ok (.aload_n 0, 1) := by decide +kernel
theorem dX8_countNodes_12 : decode cX8_countNodes 12 = .ok (.getfield 21, 3) := by decide +kernel
theorem dX8_countNodes_15 : decode cX8_countNodes 15 = .ok (.iload_n 2, 1) := by decide +kernel
theorem dX8_countNodes_16 : decode cX8_countNodes 16 = .ok (.iaload, 1) := by decide +kernel
theorem dX8_countNodes_17 : decode cX8_countNodes 17 = .ok (.ifCond .le 6, 3) := by decide +kernel
theorem dX8_countNodes_20 : decode cX8_countNodes 20 = .ok (.iinc 1 1, 3) := by decide +kernel
theorem dX8_countNodes_23 : decode cX8_countNodes 23 = .ok (.iinc 2 1, 3) := by decide +kernel
theorem dX8_countNodes_26 : decode cX8_countNodes 26 = .ok (.goto (-22), 3) := by decide +kernel
theorem dX8_countNodes_29 : decode cX8_countNodes 29 = .ok (.iload_n 1, 1) := by decide +kernel
theorem dX8_countNodes_30 : decode cX8_countNodes 30 = .ok (.ireturn, 1) := by decide +kernel
set_option maxRecDepth 20000 in
theorem ggX8_greatestDepth_X5_isThere : GoodIn wsX8_greatestDepth wsX5_isThere := goodIn_r _ [11, 12, 13, 14, 15, 16, 17, 18, 19, 20, 21, 22, 23] rfl (by decide +kernel)
set_option maxRecDepth 20000 in
theorem gX8_greatestDepth_X5_isThere : GoodIn wsX8_greatestDepth (wsV RX8 43 RX5 yX5_isThere wsX5_isThere) := goodIn_app (goodIn_of _ (by decide +kernel)) ggX8_greatestDepth_X5_isThere
theorem dX8_greatestDepth_0 : decode cX8_greatestDepth 0 = .ok (.iconst 0, 1) := by decide +kernel
theorem dX8_greatestDepth_1 : decode cX8_greatestDepth 1 = .ok (.istore_n 2, 1) := by decide +kernel
theorem dX8_greatestDepth_2 : decode cX8_greatestDepth 2 = .ok (.iconst 0, 1) := by decide +kernel
theorem dX8_greatestDepth_3 : decode cX8_greatestDepth 3 = .ok (.istore_n 3, 1) := by decide +kernel
theorem dX8_greatestDepth_4 : decode cX8_greatestDepth 4 = .ok (.iload_n 3, 1) := by decide +kernel
theorem dX8_greatestDepth_5 : decode cX8_greatestDepth 5 = .ok (.aload_n 1, 1) := by decide +kernel
theorem dX8_greatestDepth_6 : decode cX8_greatestDepth 6 = .ok (.getfield 37, 3) := by decide +kernel
theorem dX8_greatestDepth_9 : decode cX8_greatestDepth 9 = .ok (.if_icmp .ge 28, 3) := by decide +kernel
theorem dX8_greatestDepth_12 : decode cX8_greatestDepth 12 = .ok (.aload_n 1, 1) := by decide +kernel
theorem dX8_greatestDepth_13 : decode cX8_greatestDepth 13 = .ok (.iload_n 3, 1) := by decide +kernel
theorem dX8_greatestDepth_14 : decode cX8_greatestDepth 14 = .ok (.invokevirtual 43, 3) := by decide +kernel
theorem dX8_greatestDepth_17 : decode cX8_greatestDepth 17 = .ok (.ifCond .eq 14, 3) := by decide +kernel
theorem dX8_greatestDepth_20 : decode cX8_greatestDepth 20 = .ok (.iload_n 2, 1) := by decide +kernel
theorem dX8_greatestDepth_21 : decode cX8_greatestDepth 21 = .ok (.aload_n 0, 1) := by decide +kernel
theorem dX8_greatestDepth_22 : decode cX8_greatestDepth 22 = .ok (.getfield 15, 3) := by decide +kernel
theorem dX8_greatestDepth_25 : decode cX8_greatestDepth 25 = .ok (.iload_n 3, 1) := by decide +kernel
theorem dX8_greatestDepth_26 : decode cX8_greatestDepth 26 = .ok (.iaload, 1) := by decide +kernel
theorem dX8_greatestDepth_27 : decode cX8_greatestDepth 27 = .ok (.invokestatic 96, 3) := by decide +kernel
theorem dX8_greatestDepth_30 : decode cX8_greatestDepth 30 = .ok (.istore_n 2, 1) := by decide +kernel
theorem dX8_greatestDepth_31 : decode cX8_greatestDepth 31 = .ok (.iinc 3 1, 3) := by decide +kernel
theorem dX8_greatestDepth_34 : decode cX8_greatestDepth 34 = .ok (.goto (-30), 3) := by decide +kernel
theorem dX8_greatestDepth_37 : decode cX8_greatestDepth 37 = .ok (.iload_n 2, 1) := by decide +kernel
theorem dX8_greatestDepth_38 : decode cX8_greatestDepth 38 = .ok (.ireturn, 1) := by decide +kernel
theorem dX8_fullestMiddle_0 : decode cX8_fullestMiddle 0 = .ok (.iconst 0, 1) := by decide +kernel
theorem dX8_fullestMiddle_1 : decode cX8_fullestMiddle 1 = .ok (.istore_n 1, 1) := by decide +kernel
theorem dX8_fullestMiddle_2 : decode cX8_fullestMiddle 2 = .ok (.iconst 1, 1) := by decide +kernel
theorem dX8_fullestMiddle_3 : decode cX8_fullestMiddle 3 = .ok (.istore_n 2, 1) := by decide +kernel
theorem dX8_fullestMiddle_4 : decode cX8_fullestMiddle 4 = .ok (.iload_n 2, 1) := by decide +kernel
theorem dX8_fullestMiddle_5 : decode cX8_fullestMiddle 5 = .ok (.sipush 1001, 3) := by decide +kernel
theorem dX8_fullestMiddle_8 : decode cX8_fullestMiddle 8 = .ok (.if_icmp .ge 26, 3) := by decide +kernel
theorem dX8_fullestMiddle_11 : decode cX8_fullestMiddle 11 = .ok (.aload_n 0, 1) := by decide +kernel
theorem dX8_fullestMiddle_12 : decode cX8_fullestMiddle 12 = .ok (.getfield 18, 3) := by decide +kernel
theorem dX8_fullestMiddle_15 : decode cX8_fullestMiddle 15 = .ok (.iload_n 2, 1) := by decide +kernel
theorem dX8_fullestMiddle_16 : decode cX8_fullestMiddle 16 = .ok (.iaload, 1) := by decide +kernel
theorem dX8_fullestMiddle_17 : decode cX8_fullestMiddle 17 = .ok (.aload_n 0, 1) := by decide +kernel
theorem dX8_fullestMiddle_18 : decode cX8_fullestMiddle 18 = .ok (.getfield 18, 3) := by decide +kernel
theorem dX8_fullestMiddle_21 : decode cX8_fullestMiddle 21 = .ok (.iload_n 1, 1) := by decide +kernel
theorem dX8_fullestMiddle_22 : decode cX8_fullestMiddle 22 = .ok (.iaload, 1) := by decide +kernel
theorem dX8_fullestMiddle_23 : decode cX8_fullestMiddle 23 = .ok (.if_icmp .le 5, 3) := by decide +kernel
theorem dX8_fullestMiddle_26 : decode cX8_fullestMiddle 26 = .ok (.iload_n 2, 1) := by decide +kernel
theorem dX8_fullestMiddle_27 : decode cX8_fullestMiddle 27 = .ok (.istore_n 1, 1) := by decide +kernel
theorem dX8_fullestMiddle_28 : decode cX8_fullestMiddle 28 = .ok (.iinc 2 1, 3) := by decide +kernel
theorem dX8_fullestMiddle_31 : decode cX8_fullestMiddle 31 = .ok (.goto (-27), 3) := by decide +kernel
theorem dX8_fullestMiddle_34 : decode cX8_fullestMiddle 34 = .ok (.iload_n 1, 1) := by decide +kernel
theorem dX8_fullestMiddle_35 : decode cX8_fullestMiddle 35 = .ok (.ireturn, 1) := by decide +kernel
set_option maxRecDepth 20000 in
theorem ggX8_mostInOneNode_X8_fullestMiddle : GoodIn wsX8_mostInOneNode wsX8_fullestMiddle := goodIn_r _ [6, 1, 7, 8, 9, 10, 11] rfl (by decide +kernel)
set_option maxRecDepth 20000 in
theorem gX8_mostInOneNode_X8_fullestMiddle : GoodIn wsX8_mostInOneNode (wsV RX8 99 RX8 yX8_fullestMiddle wsX8_fullestMiddle) := goodIn_app (goodIn_of _ (by decide +kernel)) ggX8_mostInOneNode_X8_fullestMiddle
theorem dX8_mostInOneNode_0 : decode cX8_mostInOneNode 0 = .ok (.aload_n 0, 1) := by decide +kernel
theorem dX8_mostInOneNode_1 : decode cX8_mostInOneNode 1 = .ok (.getfield 18, 3) := by decide +kernel
theorem dX8_mostInOneNode_4 : decode cX8_mostInOneNode 4 = .ok (.aload_n 0, 1) := by decide +kernel
theorem dX8_mostInOneNode_5 : decode cX8_mostInOneNode 5 = .ok (.invokevirtual 99, 3) := by decide +kernel
theorem dX8_mostInOneNode_8 : decode cX8_mostInOneNode 8 = .ok (.iaload, 1) := by decide +kernel
theorem dX8_mostInOneNode_9 : decode cX8_mostInOneNode 9 = .ok (.ireturn, 1) := by decide +kernel
theorem dX9_init_0 : decode cX9_init 0 = .ok (.aload_n 0, 1) := by decide +kernel
theorem dX9_init_1 : decode cX9_init 1 = .ok (.invokespecial 3, 3) := by decide +kernel
theorem dX9_init_4 : decode cX9_init 4 = .ok (.aload_n 0, 1) := by decide +kernel
theorem dX9_init_5 : decode cX9_init 5 = .ok (.bipush 6, 2) := by decide +kernel
theorem dX9_init_7 : decode cX9_init 7 = .ok (.newarray .int, 2) := by decide +kernel
theorem dX9_init_9 : decode cX9_init 9 = .ok (.putfield 9, 3) := by decide +kernel
theorem dX9_init_12 : decode cX9_init 12 = .ok (.aload_n 0, 1) := by decide +kernel
theorem dX9_init_13 : decode cX9_init 13 = .ok (.bipush 6, 2) := by decide +kernel
theorem dX9_init_15 : decode cX9_init 15 = .ok (.newarray .int, 2) := by decide +kernel
theorem dX9_init_17 : decode cX9_init 17 = .ok (.putfield 15, 3) := by decide +kernel
theorem dX9_init_20 : decode cX9_init 20 = .ok (.aload_n 0, 1) := by decide +kernel
theorem dX9_init_21 : decode cX9_init 21 = .ok (.bipush 6, 2) := by decide +kernel
theorem dX9_init_23 : decode cX9_init 23 = .ok (.newarray .long, 2) := by decide +kernel
theorem dX9_init_25 : decode cX9_init 25 = .ok (.putfield 18, 3) := by decide +kernel
theorem dX9_init_28 : decode cX9_init 28 = .ok (.aload_n 0, 1) := by decide +kernel
theorem dX9_init_29 : decode cX9_init 29 = .ok (.bipush 6, 2) := by decide +kernel
theorem dX9_init_31 : decode cX9_init 31 = .ok (.newarray .int, 2) := by decide +kernel
theorem dX9_init_33 : decode cX9_init 33 = .ok (.putfield 22, 3) := by decide +kernel
theorem dX9_init_36 : decode cX9_init 36 = .ok (.aload_n 0, 1) := by decide +kernel
theorem dX9_init_37 : decode cX9_init 37 = .ok (.bipush 6, 2) := by decide +kernel
theorem dX9_init_39 : decode cX9_init 39 = .ok (.newarray .int, 2) := by decide +kernel
theorem dX9_init_41 : decode cX9_init 41 = .ok (.putfield 25, 3) := by decide +kernel
theorem dX9_init_44 : decode cX9_init 44 = .ok (.aload_n 0, 1) := by decide +kernel
theorem dX9_init_45 : decode cX9_init 45 = .ok (.bipush 6, 2) := by decide +kernel
theorem dX9_init_47 : decode cX9_init 47 = .ok (.newarray .int, 2) := by decide +kernel
theorem dX9_init_49 : decode cX9_init 49 = .ok (.putfield 28, 3) := by decide +kernel
theorem dX9_init_52 : decode cX9_init 52 = .ok (.aload_n 0, 1) := by decide +kernel
theorem dX9_init_53 : decode cX9_init 53 = .ok (.bipush 6, 2) := by decide +kernel
theorem dX9_init_55 : decode cX9_init 55 = .ok (.newarray .int, 2) := by decide +kernel
theorem dX9_init_57 : decode cX9_init 57 = .ok (.putfield 31, 3) := by decide +kernel
theorem dX9_init_60 : decode cX9_init 60 = .ok (.aload_n 0, 1) := by decide +kernel
theorem dX9_init_61 : decode cX9_init 61 = .ok (.bipush 6, 2) := by decide +kernel
theorem dX9_init_63 : decode cX9_init 63 = .ok (.bipush 60, 2) := by decide +kernel
theorem dX9_init_65 : decode cX9_init 65 = .ok (.multianewarray 34 2, 4) := by decide +kernel
theorem dX9_init_69 : decode cX9_init 69 = .ok (.putfield 36, 3) := by decide +kernel
theorem dX9_init_72 : decode cX9_init 72 = .ok (.return_, 1) := by decide +kernel
theorem dX9_has_0 : decode cX9_has 0 = .ok (.iload_n 1, 1) := by decide +kernel
theorem dX9_has_1 : decode cX9_has 1 = .ok (.ifCond .lt 15, 3) := by decide +kernel
theorem dX9_has_4 : decode cX9_has 4 = .ok (.iload_n 1, 1) := by decide +kernel
theorem dX9_has_5 : decode cX9_has 5 = .ok (.aload_n 0, 1) := by decide +kernel
theorem dX9_has_6 : decode cX9_has 6 = .ok (.getfield 39, 3) := by decide +kernel
theorem dX9_has_9 : decode cX9_has 9 = .ok (.if_icmp .ge 7, 3) := by decide +kernel
theorem dX9_has_12 : decode cX9_has 12 = .ok (.iconst 1, 1) := by decide +kernel
theorem dX9_has_13 : decode cX9_has 13 = .ok (.goto 4, 3) := by decide +kernel
theorem dX9_has_16 : decode cX9_has 16 = .ok (.iconst 0, 1) := by decide +kernel
theorem dX9_has_17 : decode cX9_has 17 = .ok (.ireturn, 1) := by decide +kernel
theorem dX9_append_0 : decode cX9_append 0 = .ok (.aload_n 0, 1) := by decide +kernel
theorem dX9_append_1 : decode cX9_append 1 = .ok (.getfield 39, 3) := by decide +kernel
theorem dX9_append_4 : decode cX9_append 4 = .ok (.bipush 6, 2) := by decide +kernel
theorem dX9_append_6 : decode cX9_append 6 = .ok (.if_icmp .lt 6, 3) := by decide +kernel
theorem dX9_append_9 : decode cX9_append 9 = .ok (.bipush (-3), 2) := by decide +kernel
theorem dX9_append_11 : decode cX9_append 11 = .ok (.ireturn, 1) := by decide +kernel
theorem dX9_append_12 : decode cX9_append 12 = .ok (.aload_n 0, 1) := by decide +kernel
theorem dX9_append_13 : decode cX9_append 13 = .ok (.getfield 39, 3) := by decide +kernel
theorem dX9_append_16 : decode cX9_append 16 = .ok (.istore_n 3, 1) := by decide +kernel
theorem dX9_append_17 : decode cX9_append 17 = .ok (.aload_n 0, 1) := by decide +kernel
theorem dX9_append_18 : decode cX9_append 18 = .ok (.dup, 1) := by decide +kernel
theorem dX9_append_19 : decode cX9_append 19 = .ok (.getfield 39, 3) := by decide +kernel
theorem dX9_append_22 : decode cX9_append 22 = .ok (.iconst 1, 1) := by decide +kernel
theorem dX9_append_23 : decode cX9_append 23 = .ok (.iadd, 1) := by decide +kernel
theorem dX9_append_24 : decode cX9_append 24 = .ok (.putfield 39, 3) := by decide +kernel
theorem dX9_append_27 : decode cX9_append 27 = .ok (.aload_n 0, 1) := by decide +kernel
theorem dX9_append_28 : decode cX9_append 28 = .ok (.getfield 9, 3) := by decide +kernel
theorem dX9_append_31 : decode cX9_append 31 = .ok (.iload_n 3, 1) := by decide +kernel
theorem dX9_append_32 : decode cX9_append 32 = .ok (.iload_n 1, 1) := by decide +kernel
theorem dX9_append_33 : decode cX9_append 33 = .ok (.iastore, 1) := by decide +kernel
theorem dX9_append_34 : decode cX9_append 34 = .ok (.aload_n 0, 1) := by decide +kernel
theorem dX9_append_35 : decode cX9_append 35 = .ok (.getfield 15, 3) := by decide +kernel
theorem dX9_append_38 : decode cX9_append 38 = .ok (.iload_n 3, 1) := by decide +kernel
theorem dX9_append_39 : decode cX9_append 39 = .ok (.iload_n 2, 1) := by decide +kernel
theorem dX9_append_40 : decode cX9_append 40 = .ok (.iastore, 1) := by decide +kernel
theorem dX9_append_41 : decode cX9_append 41 = .ok (.iload_n 3, 1) := by decide +kernel
theorem dX9_append_42 : decode cX9_append 42 = .ok (.ireturn, 1) := by decide +kernel
set_option maxRecDepth 20000 in
theorem ggX9_stepTurns_X11_turnsNext : GoodIn wsX9_stepTurns wsX11_turnsNext := goodIn_r _ [11, 12, 13, 10, 14] rfl (by decide +kernel)
set_option maxRecDepth 20000 in
theorem gX9_stepTurns_X11_turnsNext_n43 : GoodIn wsX9_stepTurns (wsX11_turnsNext) := ggX9_stepTurns_X11_turnsNext
set_option maxRecDepth 20000 in
theorem ggX9_stepTurns_X11_nextPlace : GoodIn wsX9_stepTurns wsX11_nextPlace := goodIn_r _ [16] rfl (by decide +kernel)
set_option maxRecDepth 20000 in
theorem gX9_stepTurns_X11_nextPlace_n47 : GoodIn wsX9_stepTurns (wsX11_nextPlace) := ggX9_stepTurns_X11_nextPlace
set_option maxRecDepth 20000 in
theorem ggX9_stepTurns_X11_nextSpeed : GoodIn wsX9_stepTurns wsX11_nextSpeed := goodIn_r _ [18, 19, 9, 10, 11, 12, 13, 14] rfl (by decide +kernel)
set_option maxRecDepth 20000 in
theorem gX9_stepTurns_X11_nextSpeed_n51 : GoodIn wsX9_stepTurns (wsX11_nextSpeed) := ggX9_stepTurns_X11_nextSpeed
theorem dX9_stepTurns_0 : decode cX9_stepTurns 0 = .ok (.aload_n 0, 1) := by decide +kernel
theorem dX9_stepTurns_1 : decode cX9_stepTurns 1 = .ok (.getfield 9, 3) := by decide +kernel
theorem dX9_stepTurns_4 : decode cX9_stepTurns 4 = .ok (.iload_n 1, 1) := by decide +kernel
theorem dX9_stepTurns_5 : decode cX9_stepTurns 5 = .ok (.iaload, 1) := by decide +kernel
theorem dX9_stepTurns_6 : decode cX9_stepTurns 6 = .ok (.istore_n 2, 1) := by decide +kernel
theorem dX9_stepTurns_7 : decode cX9_stepTurns 7 = .ok (.aload_n 0, 1) := by decide +kernel
theorem dX9_stepTurns_8 : decode cX9_stepTurns 8 = .ok (.getfield 15, 3) := by decide +kernel
theorem dX9_stepTurns_11 : decode cX9_stepTurns 11 = .ok (.iload_n 1, 1) := by decide +kernel
theorem dX9_stepTurns_12 : decode cX9_stepTurns 12 = .ok (.iaload, 1) := by decide +kernel
theorem dX9_stepTurns_13 : decode cX9_stepTurns 13 = .ok (.istore_n 3, 1) := by decide +kernel
theorem dX9_stepTurns_14 : decode cX9_stepTurns 14 = .ok (.iload_n 2, 1) := by decide +kernel
theorem dX9_stepTurns_15 : decode cX9_stepTurns 15 = .ok (.iload_n 3, 1) := by decide +kernel
theorem dX9_stepTurns_16 : decode cX9_stepTurns 16 = .ok (.invokestatic 43, 3) := by decide +kernel
theorem dX9_stepTurns_19 : decode cX9_stepTurns 19 = .ok (.istore 4, 2) := by decide +kernel
theorem dX9_stepTurns_21 : decode cX9_stepTurns 21 = .ok (.aload_n 0, 1) := by decide +kernel
theorem dX9_stepTurns_22 : decode cX9_stepTurns 22 = .ok (.getfield 9, 3) := by decide +kernel
theorem dX9_stepTurns_25 : decode cX9_stepTurns 25 = .ok (.iload_n 1, 1) := by decide +kernel
theorem dX9_stepTurns_26 : decode cX9_stepTurns 26 = .ok (.iload_n 2, 1) := by decide +kernel
theorem dX9_stepTurns_27 : decode cX9_stepTurns 27 = .ok (.iload_n 3, 1) := by decide +kernel
theorem dX9_stepTurns_28 : decode cX9_stepTurns 28 = .ok (.invokestatic 47, 3) := by decide +kernel
theorem dX9_stepTurns_31 : decode cX9_stepTurns 31 = .ok (.iastore, 1) := by decide +kernel
theorem dX9_stepTurns_32 : decode cX9_stepTurns 32 = .ok (.aload_n 0, 1) := by decide +kernel
theorem dX9_stepTurns_33 : decode cX9_stepTurns 33 = .ok (.getfield 15, 3) := by decide +kernel
theorem dX9_stepTurns_36 : decode cX9_stepTurns 36 = .ok (.iload_n 1, 1) := by decide +kernel
theorem dX9_stepTurns_37 : decode cX9_stepTurns 37 = .ok (.iload_n 2, 1) := by decide +kernel
theorem dX9_stepTurns_38 : decode cX9_stepTurns 38 = .ok (.iload_n 3, 1) := by decide +kernel
theorem dX9_stepTurns_39 : decode cX9_stepTurns 39 = .ok (.invokestatic 51, 3) := by decide +kernel
theorem dX9_stepTurns_42 : decode cX9_stepTurns 42 = .ok (.iastore, 1) := by decide +kernel
theorem dX9_stepTurns_43 : decode cX9_stepTurns 43 = .ok (.aload_n 0, 1) := by decide +kernel
theorem dX9_stepTurns_44 : decode cX9_stepTurns 44 = .ok (.getfield 28, 3) := by decide +kernel
theorem dX9_stepTurns_47 : decode cX9_stepTurns 47 = .ok (.iload_n 1, 1) := by decide +kernel
theorem dX9_stepTurns_48 : decode cX9_stepTurns 48 = .ok (.dup2, 1) := by decide +kernel
theorem dX9_stepTurns_49 : decode cX9_stepTurns 49 = .ok (.iaload, 1) := by decide +kernel
theorem dX9_stepTurns_50 : decode cX9_stepTurns 50 = .ok (.iload_n 3, 1) := by decide +kernel
theorem dX9_stepTurns_51 : decode cX9_stepTurns 51 = .ok (.invokestatic 54, 3) := by decide +kernel
theorem dX9_stepTurns_54 : decode cX9_stepTurns 54 = .ok (.iadd, 1) := by decide +kernel
theorem dX9_stepTurns_55 : decode cX9_stepTurns 55 = .ok (.iastore, 1) := by decide +kernel
theorem dX9_stepTurns_56 : decode cX9_stepTurns 56 = .ok (.iload 4, 2) := by decide +kernel
theorem dX9_stepTurns_58 : decode cX9_stepTurns 58 = .ok (.ifCond .eq 13, 3) := by decide +kernel
theorem dX9_stepTurns_61 : decode cX9_stepTurns 61 = .ok (.aload_n 0, 1) := by decide +kernel
theorem dX9_stepTurns_62 : decode cX9_stepTurns 62 = .ok (.getfield 31, 3) := by decide +kernel
theorem dX9_stepTurns_65 : decode cX9_stepTurns 65 = .ok (.iload_n 1, 1) := by decide +kernel
theorem dX9_stepTurns_66 : decode cX9_stepTurns 66 = .ok (.dup2, 1) := by decide +kernel
theorem dX9_stepTurns_67 : decode cX9_stepTurns 67 = .ok (.iaload, 1) := by decide +kernel
theorem dX9_stepTurns_68 : decode cX9_stepTurns 68 = .ok (.iconst 1, 1) := by decide +kernel
theorem dX9_stepTurns_69 : decode cX9_stepTurns 69 = .ok (.iadd, 1) := by decide +kernel
theorem dX9_stepTurns_70 : decode cX9_stepTurns 70 = .ok (.iastore, 1) := by decide +kernel
theorem dX9_stepTurns_71 : decode cX9_stepTurns 71 = .ok (.iload 4, 2) := by decide +kernel
theorem dX9_stepTurns_73 : decode cX9_stepTurns 73 = .ok (.ireturn, 1) := by decide +kernel
set_option maxRecDepth 20000 in
theorem ggX9_countInside_X11_isMember : GoodIn wsX9_countInside wsX11_isMember := goodIn_r _ [5] rfl (by decide +kernel)
set_option maxRecDepth 20000 in
theorem gX9_countInside_X11_isMember_n60 : GoodIn wsX9_countInside (wsX11_isMember) := ggX9_countInside_X11_isMember
theorem dX9_countInside_0 : decode cX9_countInside 0 = .ok (.iconst 0, 1) := by decide +kernel
theorem dX9_countInside_1 : decode cX9_countInside 1 = .ok (.istore_n 2, 1) := by decide +kernel
theorem dX9_countInside_2 : decode cX9_countInside 2 = .ok (.iconst 0, 1) := by decide +kernel
theorem dX9_countInside_3 : decode cX9_countInside 3 = .ok (.istore_n 3, 1) := by decide +kernel
theorem dX9_countInside_4 : decode cX9_countInside 4 = .ok (.iload_n 3, 1) := by decide +kernel
theorem dX9_countInside_5 : decode cX9_countInside 5 = .ok (.aload_n 0, 1) := by decide +kernel
theorem dX9_countInside_6 : decode cX9_countInside 6 = .ok (.getfield 39, 3) := by decide +kernel
theorem dX9_countInside_9 : decode cX9_countInside 9 = .ok (.if_icmp .ge 25, 3) := by decide +kernel
theorem dX9_countInside_12 : decode cX9_countInside 12 = .ok (.aload_n 0, 1) := by decide +kernel
theorem dX9_countInside_13 : decode cX9_countInside 13 = .ok (.getfield 18, 3) := by decide +kernel
theorem dX9_countInside_16 : decode cX9_countInside 16 = .ok (.iload_n 3, 1) := by decide +kernel
theorem dX9_countInside_17 : decode cX9_countInside 17 = .ok (.laload, 1) := by decide +kernel
theorem dX9_countInside_18 : decode cX9_countInside 18 = .ok (.iload_n 1, 1) := by decide +kernel
theorem dX9_countInside_19 : decode cX9_countInside 19 = .ok (.invokestatic 60, 3) := by decide +kernel
theorem dX9_countInside_22 : decode cX9_countInside 22 = .ok (.ifCond .eq 6, 3) := by decide +kernel
theorem dX9_countInside_25 : decode cX9_countInside 25 = .ok (.iinc 2 1, 3) := by decide +kernel
theorem dX9_countInside_28 : decode cX9_countInside 28 = .ok (.iinc 3 1, 3) := by decide +kernel
theorem dX9_countInside_31 : decode cX9_countInside 31 = .ok (.goto (-27), 3) := by decide +kernel
theorem dX9_countInside_34 : decode cX9_countInside 34 = .ok (.iload_n 2, 1) := by decide +kernel
theorem dX9_countInside_35 : decode cX9_countInside 35 = .ok (.ireturn, 1) := by decide +kernel
theorem dX9_insideOfAny_0 : decode cX9_insideOfAny 0 = .ok (.lconst 0, 1) := by decide +kernel
theorem dX9_insideOfAny_1 : decode cX9_insideOfAny 1 = .ok (.lstore_n 1, 1) := by decide +kernel
theorem dX9_insideOfAny_2 : decode cX9_insideOfAny 2 = .ok (.iconst 0, 1) := by decide +kernel
theorem dX9_insideOfAny_3 : decode cX9_insideOfAny 3 = .ok (.istore_n 3, 1) := by decide +kernel
theorem dX9_insideOfAny_4 : decode cX9_insideOfAny 4 = .ok (.iload_n 3, 1) := by decide +kernel
theorem dX9_insideOfAny_5 : decode cX9_insideOfAny 5 = .ok (.aload_n 0, 1) := by decide +kernel
theorem dX9_insideOfAny_6 : decode cX9_insideOfAny 6 = .ok (.getfield 39, 3) := by decide +kernel
theorem dX9_insideOfAny_9 : decode cX9_insideOfAny 9 = .ok (.if_icmp .ge 18, 3) := by decide +kernel
theorem dX9_insideOfAny_12 : decode cX9_insideOfAny 12 = .ok (.lload_n 1, 1) := by decide +kernel
theorem dX9_insideOfAny_13 : decode cX9_insideOfAny 13 = .ok (.aload_n 0, 1) := by decide +kernel
theorem dX9_insideOfAny_14 : decode cX9_insideOfAny 14 = .ok (.getfield 18, 3) := by decide +kernel
theorem dX9_insideOfAny_17 : decode cX9_insideOfAny 17 = .ok (.iload_n 3, 1) := by decide +kernel
theorem dX9_insideOfAny_18 : decode cX9_insideOfAny 18 = .ok (.laload, 1) := by decide +kernel
theorem dX9_insideOfAny_19 : decode cX9_insideOfAny 19 = .ok (.lor, 1) := by decide +kernel
theorem dX9_insideOfAny_20 : decode cX9_insideOfAny 20 = .ok (.lstore_n 1, 1) := by decide +kernel
theorem dX9_insideOfAny_21 : decode cX9_insideOfAny 21 = .ok (.iinc 3 1, 3) := by decide +kernel
theorem dX9_insideOfAny_24 : decode cX9_insideOfAny 24 = .ok (.goto (-20), 3) := by decide +kernel
theorem dX9_insideOfAny_27 : decode cX9_insideOfAny 27 = .ok (.lload_n 1, 1) := by decide +kernel
theorem dX9_insideOfAny_28 : decode cX9_insideOfAny 28 = .ok (.lreturn, 1) := by decide +kernel
set_option maxRecDepth 20000 in
theorem ggX9_oldestSpan_X11_isMember : GoodIn wsX9_oldestSpan wsX11_isMember := goodIn_r _ [5] rfl (by decide +kernel)
set_option maxRecDepth 20000 in
theorem gX9_oldestSpan_X11_isMember_n60 : GoodIn wsX9_oldestSpan (wsX11_isMember) := ggX9_oldestSpan_X11_isMember
theorem dX9_oldestSpan_0 : decode cX9_oldestSpan 0 = .ok (.bipush (-5), 2) := by decide +kernel
theorem dX9_oldestSpan_2 : decode cX9_oldestSpan 2 = .ok (.istore_n 2, 1) := by decide +kernel
theorem dX9_oldestSpan_3 : decode cX9_oldestSpan 3 = .ok (.sipush 10000, 3) := by decide +kernel
theorem dX9_oldestSpan_6 : decode cX9_oldestSpan 6 = .ok (.istore_n 3, 1) := by decide +kernel
theorem dX9_oldestSpan_7 : decode cX9_oldestSpan 7 = .ok (.iconst 0, 1) := by decide +kernel
theorem dX9_oldestSpan_8 : decode cX9_oldestSpan 8 = .ok (.istore 4, 2) := by decide +kernel
theorem dX9_oldestSpan_10 : decode cX9_oldestSpan 10 = .ok (.iload 4, 2) := by decide +kernel
theorem dX9_oldestSpan_12 : decode cX9_oldestSpan 12 = .ok (.bipush 60, 2) := by decide +kernel
theorem dX9_oldestSpan_14 : decode cX9_oldestSpan 14 = .ok (.if_icmp .ge 49, 3) := by decide +kernel
theorem dX9_oldestSpan_17 : decode cX9_oldestSpan 17 = .ok (.aload_n 0, 1) := by decide +kernel
theorem dX9_oldestSpan_18 : decode cX9_oldestSpan 18 = .ok (.getfield 18, 3) := by decide +kernel
theorem dX9_oldestSpan_21 : decode cX9_oldestSpan 21 = .ok (.iload_n 1, 1) := by decide +kernel
theorem dX9_oldestSpan_22 : decode cX9_oldestSpan 22 = .ok (.laload, 1) := by decide +kernel
theorem dX9_oldestSpan_23 : decode cX9_oldestSpan 23 = .ok (.iload 4, 2) := by decide +kernel
theorem dX9_oldestSpan_25 : decode cX9_oldestSpan 25 = .ok (.invokestatic 60, 3) := by decide +kernel
theorem dX9_oldestSpan_28 : decode cX9_oldestSpan 28 = .ok (.ifCond .eq 29, 3) := by decide +kernel
theorem dX9_oldestSpan_31 : decode cX9_oldestSpan 31 = .ok (.aload_n 0, 1) := by decide +kernel
theorem dX9_oldestSpan_32 : decode cX9_oldestSpan 32 = .ok (.getfield 36, 3) := by decide +kernel
theorem dX9_oldestSpan_35 : decode cX9_oldestSpan 35 = .ok (.iload_n 1, 1) := by decide +kernel
theorem dX9_oldestSpan_36 : decode cX9_oldestSpan 36 = .ok (.aaload, 1) := by decide +kernel
theorem dX9_oldestSpan_37 : decode cX9_oldestSpan 37 = .ok (.iload 4, 2) := by decide +kernel
