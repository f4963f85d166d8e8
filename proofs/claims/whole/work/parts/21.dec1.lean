theorem dX0_init_0 : decode cX0_init 0 = .ok (.aload_n 0, 1) := by decide +kernel
theorem dX0_init_1 : decode cX0_init 1 = .ok (.invokespecial 3, 3) := by decide +kernel
theorem dX0_init_4 : decode cX0_init 4 = .ok (.aload_n 0, 1) := by decide +kernel
theorem dX0_init_5 : decode cX0_init 5 = .ok (.sipush 1001, 3) := by decide +kernel
theorem dX0_init_8 : decode cX0_init 8 = .ok (.newarray .long, 2) := by decide +kernel
theorem dX0_init_10 : decode cX0_init 10 = .ok (.putfield 9, 3) := by decide +kernel
theorem dX0_init_13 : decode cX0_init 13 = .ok (.return_, 1) := by decide +kernel
set_option maxRecDepth 20000 in
theorem ggX0_build_J7_fill_d0a16 : GoodIn wsX0_build wsJ7_fill_d0a16 := goodIn_r _ [8] rfl (by decide +kernel)
set_option maxRecDepth 20000 in
theorem gX0_build_J7_fill_d0a16 : GoodIn wsX0_build (va_wsS RX0 15 yJ7_fill_d0a16 wsJ7_fill_d0a16) := goodIn_app (goodIn_of _ (by decide +kernel)) ggX0_build_J7_fill_d0a16
set_option maxRecDepth 20000 in
theorem ggX0_build_X5_isThere : GoodIn wsX0_build wsX5_isThere := goodIn_r _ [13, 14, 15, 16, 17, 26, 27, 28, 29, 30, 31, 32, 33] rfl (by decide +kernel)
set_option maxRecDepth 20000 in
theorem gX0_build_X5_isThere : GoodIn wsX0_build (wsV RX0 27 RX5 yX5_isThere wsX5_isThere) := goodIn_app (goodIn_of _ (by decide +kernel)) ggX0_build_X5_isThere
set_option maxRecDepth 20000 in
theorem ggX0_build_X0_flip : GoodIn wsX0_build wsX0_flip := goodIn_r _ [22, 1, 23, 16, 24, 25] rfl (by decide +kernel)
set_option maxRecDepth 20000 in
theorem gX0_build_X0_flip : GoodIn wsX0_build (wsV RX0 35 RX0 yX0_flip wsX0_flip) := goodIn_app (goodIn_of _ (by decide +kernel)) ggX0_build_X0_flip
theorem dX0_build_0 : decode cX0_build 0 = .ok (.aload_n 0, 1) := by decide +kernel
theorem dX0_build_1 : decode cX0_build 1 = .ok (.getfield 9, 3) := by decide +kernel
theorem dX0_build_4 : decode cX0_build 4 = .ok (.lconst 0, 1) := by decide +kernel
theorem dX0_build_5 : decode cX0_build 5 = .ok (.invokestatic 15, 3) := by decide +kernel
theorem dX0_build_8 : decode cX0_build 8 = .ok (.iconst 0, 1) := by decide +kernel
theorem dX0_build_9 : decode cX0_build 9 = .ok (.istore_n 2, 1) := by decide +kernel
theorem dX0_build_10 : decode cX0_build 10 = .ok (.iload_n 2, 1) := by decide +kernel
theorem dX0_build_11 : decode cX0_build 11 = .ok (.aload_n 1, 1) := by decide +kernel
theorem dX0_build_12 : decode cX0_build 12 = .ok (.getfield 21, 3) := by decide +kernel
theorem dX0_build_15 : decode cX0_build 15 = .ok (.if_icmp .ge 41, 3) := by decide +kernel
theorem dX0_build_18 : decode cX0_build 18 = .ok (.aload_n 1, 1) := by decide +kernel
theorem dX0_build_19 : decode cX0_build 19 = .ok (.iload_n 2, 1) := by decide +kernel
theorem dX0_build_20 : decode cX0_build 20 = .ok (.invokevirtual 27, 3) := by decide +kernel
theorem dX0_build_23 : decode cX0_build 23 = .ok (.ifCond .eq 27, 3) := by decide +kernel
theorem dX0_build_26 : decode cX0_build 26 = .ok (.aload_n 0, 1) := by decide +kernel
theorem dX0_build_27 : decode cX0_build 27 = .ok (.aload_n 1, 1) := by decide +kernel
theorem dX0_build_28 : decode cX0_build 28 = .ok (.getfield 31, 3) := by decide +kernel
theorem dX0_build_31 : decode cX0_build 31 = .ok (.iload_n 2, 1) := by decide +kernel
theorem dX0_build_32 : decode cX0_build 32 = .ok (.iaload, 1) := by decide +kernel
theorem dX0_build_33 : decode cX0_build 33 = .ok (.iload_n 2, 1) := by decide +kernel
theorem dX0_build_34 : decode cX0_build 34 = .ok (.invokevirtual 35, 3) := by decide +kernel
theorem dX0_build_37 : decode cX0_build 37 = .ok (.aload_n 0, 1) := by decide +kernel
theorem dX0_build_38 : decode cX0_build 38 = .ok (.aload_n 1, 1) := by decide +kernel
theorem dX0_build_39 : decode cX0_build 39 = .ok (.getfield 39, 3) := by decide +kernel
theorem dX0_build_42 : decode cX0_build 42 = .ok (.iload_n 2, 1) := by decide +kernel
theorem dX0_build_43 : decode cX0_build 43 = .ok (.iaload, 1) := by decide +kernel
theorem dX0_build_44 : decode cX0_build 44 = .ok (.iconst 1, 1) := by decide +kernel
theorem dX0_build_45 : decode cX0_build 45 = .ok (.iadd, 1) := by decide +kernel
theorem dX0_build_46 : decode cX0_build 46 = .ok (.iload_n 2, 1) := by decide +kernel
theorem dX0_build_47 : decode cX0_build 47 = .ok (.invokevirtual 35, 3) := by decide +kernel
theorem dX0_build_50 : decode cX0_build 50 = .ok (.iinc 2 1, 3) := by decide +kernel
theorem dX0_build_53 : decode cX0_build 53 = .ok (.goto (-43), 3) := by decide +kernel
theorem dX0_build_56 : decode cX0_build 56 = .ok (.iconst 1, 1) := by decide +kernel
theorem dX0_build_57 : decode cX0_build 57 = .ok (.istore_n 2, 1) := by decide +kernel
theorem dX0_build_58 : decode cX0_build 58 = .ok (.iload_n 2, 1) := by decide +kernel
theorem dX0_build_59 : decode cX0_build 59 = .ok (.sipush 1001, 3) := by decide +kernel
theorem dX0_build_62 : decode cX0_build 62 = .ok (.if_icmp .ge 26, 3) := by decide +kernel
theorem dX0_build_65 : decode cX0_build 65 = .ok (.aload_n 0, 1) := by decide +kernel
theorem dX0_build_66 : decode cX0_build 66 = .ok (.getfield 9, 3) := by decide +kernel
theorem dX0_build_69 : decode cX0_build 69 = .ok (.iload_n 2, 1) := by decide +kernel
theorem dX0_build_70 : decode cX0_build 70 = .ok (.dup2, 1) := by decide +kernel
theorem dX0_build_71 : decode cX0_build 71 = .ok (.laload, 1) := by decide +kernel
theorem dX0_build_72 : decode cX0_build 72 = .ok (.aload_n 0, 1) := by decide +kernel
theorem dX0_build_73 : decode cX0_build 73 = .ok (.getfield 9, 3) := by decide +kernel
theorem dX0_build_76 : decode cX0_build 76 = .ok (.iload_n 2, 1) := by decide +kernel
theorem dX0_build_77 : decode cX0_build 77 = .ok (.iconst 1, 1) := by decide +kernel
theorem dX0_build_78 : decode cX0_build 78 = .ok (.isub, 1) := by decide +kernel
theorem dX0_build_79 : decode cX0_build 79 = .ok (.laload, 1) := by decide +kernel
theorem dX0_build_80 : decode cX0_build 80 = .ok (.lxor, 1) := by decide +kernel
theorem dX0_build_81 : decode cX0_build 81 = .ok (.lastore, 1) := by decide +kernel
theorem dX0_build_82 : decode cX0_build 82 = .ok (.iinc 2 1, 3) := by decide +kernel
theorem dX0_build_85 : decode cX0_build 85 = .ok (.goto (-27), 3) := by decide +kernel
theorem dX0_build_88 : decode cX0_build 88 = .ok (.return_, 1) := by decide +kernel
set_option maxRecDepth 20000 in
theorem ggX0_flip_X11_isPlace : GoodIn wsX0_flip wsX11_isPlace := goodIn_r _ [4] rfl (by decide +kernel)
set_option maxRecDepth 20000 in
theorem gX0_flip_X11_isPlace_n42 : GoodIn wsX0_flip (wsX11_isPlace) := ggX0_flip_X11_isPlace
theorem dX0_flip_0 : decode cX0_flip 0 = .ok (.iload_n 1, 1) := by decide +kernel
theorem dX0_flip_1 : decode cX0_flip 1 = .ok (.invokestatic 42, 3) := by decide +kernel
theorem dX0_flip_4 : decode cX0_flip 4 = .ok (.ifCond .eq 15, 3) := by decide +kernel
theorem dX0_flip_7 : decode cX0_flip 7 = .ok (.aload_n 0, 1) := by decide +kernel
theorem dX0_flip_8 : decode cX0_flip 8 = .ok (.getfield 9, 3) := by decide +kernel
theorem dX0_flip_11 : decode cX0_flip 11 = .ok (.iload_n 1, 1) := by decide +kernel
theorem dX0_flip_12 : decode cX0_flip 12 = .ok (.dup2, 1) := by decide +kernel
theorem dX0_flip_13 : decode cX0_flip 13 = .ok (.laload, 1) := by decide +kernel
theorem dX0_flip_14 : decode cX0_flip 14 = .ok (.lconst 1, 1) := by decide +kernel
theorem dX0_flip_15 : decode cX0_flip 15 = .ok (.iload_n 2, 1) := by decide +kernel
theorem dX0_flip_16 : decode cX0_flip 16 = .ok (.lshl, 1) := by decide +kernel
theorem dX0_flip_17 : decode cX0_flip 17 = .ok (.lxor, 1) := by decide +kernel
theorem dX0_flip_18 : decode cX0_flip 18 = .ok (.lastore, 1) := by decide +kernel
theorem dX0_flip_19 : decode cX0_flip 19 = .ok (.return_, 1) := by decide +kernel
set_option maxRecDepth 20000 in
theorem ggX0_over_X11_isPlace : GoodIn wsX0_over wsX11_isPlace := goodIn_r _ [4] rfl (by decide +kernel)
set_option maxRecDepth 20000 in
theorem gX0_over_X11_isPlace_n42 : GoodIn wsX0_over (wsX11_isPlace) := ggX0_over_X11_isPlace
theorem dX0_over_0 : decode cX0_over 0 = .ok (.iload_n 1, 1) := by decide +kernel
theorem dX0_over_1 : decode cX0_over 1 = .ok (.invokestatic 42, 3) := by decide +kernel
theorem dX0_over_4 : decode cX0_over 4 = .ok (.ifCond .eq 12, 3) := by decide +kernel
theorem dX0_over_7 : decode cX0_over 7 = .ok (.aload_n 0, 1) := by decide +kernel
theorem dX0_over_8 : decode cX0_over 8 = .ok (.getfield 9, 3) := by decide +kernel
theorem dX0_over_11 : decode cX0_over 11 = .ok (.iload_n 1, 1) := by decide +kernel
theorem dX0_over_12 : decode cX0_over 12 = .ok (.laload, 1) := by decide +kernel
theorem dX0_over_13 : decode cX0_over 13 = .ok (.goto 4, 3) := by decide +kernel
theorem dX0_over_16 : decode cX0_over 16 = .ok (.lconst 0, 1) := by decide +kernel
theorem dX0_over_17 : decode cX0_over 17 = .ok (.lreturn, 1) := by decide +kernel
theorem dX0_freeToTheRight_0 : decode cX0_freeToTheRight 0 = .ok (.iload_n 1, 1) := by decide +kernel
theorem dX0_freeToTheRight_1 : decode cX0_freeToTheRight 1 = .ok (.iconst 0, 1) := by decide +kernel
theorem dX0_freeToTheRight_2 : decode cX0_freeToTheRight 2 = .ok (.invokestatic 45, 3) := by decide +kernel
theorem dX0_freeToTheRight_5 : decode cX0_freeToTheRight 5 = .ok (.istore_n 2, 1) := by decide +kernel
theorem dX0_freeToTheRight_6 : decode cX0_freeToTheRight 6 = .ok (.iload_n 2, 1) := by decide +kernel
theorem dX0_freeToTheRight_7 : decode cX0_freeToTheRight 7 = .ok (.sipush 1000, 3) := by decide +kernel
theorem dX0_freeToTheRight_10 : decode cX0_freeToTheRight 10 = .ok (.if_icmp .gt 22, 3) := by decide +kernel
theorem dX0_freeToTheRight_13 : decode cX0_freeToTheRight 13 = .ok (.aload_n 0, 1) := by decide +kernel
theorem dX0_freeToTheRight_14 : decode cX0_freeToTheRight 14 = .ok (.getfield 9, 3) := by decide +kernel
theorem dX0_freeToTheRight_17 : decode cX0_freeToTheRight 17 = .ok (.iload_n 2, 1) := by decide +kernel
theorem dX0_freeToTheRight_18 : decode cX0_freeToTheRight 18 = .ok (.laload, 1) := by decide +kernel
theorem dX0_freeToTheRight_19 : decode cX0_freeToTheRight 19 = .ok (.lconst 0, 1) := by decide +kernel
theorem dX0_freeToTheRight_20 : decode cX0_freeToTheRight 20 = .ok (.lcmp, 1) := by decide +kernel
theorem dX0_freeToTheRight_21 : decode cX0_freeToTheRight 21 = .ok (.ifCond .ne 5, 3) := by decide +kernel
theorem dX0_freeToTheRight_24 : decode cX0_freeToTheRight 24 = .ok (.iload_n 2, 1) := by decide +kernel
theorem dX0_freeToTheRight_25 : decode cX0_freeToTheRight 25 = .ok (.ireturn, 1) := by decide +kernel
theorem dX0_freeToTheRight_26 : decode cX0_freeToTheRight 26 = .ok (.iinc 2 1, 3) := by decide +kernel
theorem dX0_freeToTheRight_29 : decode cX0_freeToTheRight 29 = .ok (.goto (-23), 3) := by decide +kernel
theorem dX0_freeToTheRight_32 : decode cX0_freeToTheRight 32 = .ok (.bipush (-5), 2) := by decide +kernel
theorem dX0_freeToTheRight_34 : decode cX0_freeToTheRight 34 = .ok (.ireturn, 1) := by decide +kernel
theorem dX0_freeToTheLeft_0 : decode cX0_freeToTheLeft 0 = .ok (.iload_n 1, 1) := by decide +kernel
theorem dX0_freeToTheLeft_1 : decode cX0_freeToTheLeft 1 = .ok (.sipush 1000, 3) := by decide +kernel
theorem dX0_freeToTheLeft_4 : decode cX0_freeToTheLeft 4 = .ok (.invokestatic 51, 3) := by decide +kernel
theorem dX0_freeToTheLeft_7 : decode cX0_freeToTheLeft 7 = .ok (.istore_n 2, 1) := by decide +kernel
theorem dX0_freeToTheLeft_8 : decode cX0_freeToTheLeft 8 = .ok (.iload_n 2, 1) := by decide +kernel
theorem dX0_freeToTheLeft_9 : decode cX0_freeToTheLeft 9 = .ok (.ifCond .lt 22, 3) := by decide +kernel
theorem dX0_freeToTheLeft_12 : decode cX0_freeToTheLeft 12 = .ok (.aload_n 0, 1) := by decide +kernel
theorem dX0_freeToTheLeft_13 : decode cX0_freeToTheLeft 13 = .ok (.getfield 9, 3) := by decide +kernel
theorem dX0_freeToTheLeft_16 : decode cX0_freeToTheLeft 16 = .ok (.iload_n 2, 1) := by decide +kernel
theorem dX0_freeToTheLeft_17 : decode cX0_freeToTheLeft 17 = .ok (.laload, 1) := by decide +kernel
theorem dX0_freeToTheLeft_18 : decode cX0_freeToTheLeft 18 = .ok (.lconst 0, 1) := by decide +kernel
theorem dX0_freeToTheLeft_19 : decode cX0_freeToTheLeft 19 = .ok (.lcmp, 1) := by decide +kernel
theorem dX0_freeToTheLeft_20 : decode cX0_freeToTheLeft 20 = .ok (.ifCond .ne 5, 3) := by decide +kernel
theorem dX0_freeToTheLeft_23 : decode cX0_freeToTheLeft 23 = .ok (.iload_n 2, 1) := by decide +kernel
theorem dX0_freeToTheLeft_24 : decode cX0_freeToTheLeft 24 = .ok (.ireturn, 1) := by decide +kernel
theorem dX0_freeToTheLeft_25 : decode cX0_freeToTheLeft 25 = .ok (.iinc 2 (-1), 3) := by decide +kernel
theorem dX0_freeToTheLeft_28 : decode cX0_freeToTheLeft 28 = .ok (.goto (-20), 3) := by decide +kernel
theorem dX0_freeToTheLeft_31 : decode cX0_freeToTheLeft 31 = .ok (.bipush (-5), 2) := by decide +kernel
theorem dX0_freeToTheLeft_33 : decode cX0_freeToTheLeft 33 = .ok (.ireturn, 1) := by decide +kernel
set_option maxRecDepth 20000 in
theorem ggX0_fullestPlace_J13_bitCount_95d88 : GoodIn wsX0_fullestPlace wsJ13_bitCount_95d88 := goodIn_r _ [5, 6, 7, 8] rfl (by decide +kernel)
set_option maxRecDepth 20000 in
theorem gX0_fullestPlace_J13_bitCount_95d88 : GoodIn wsX0_fullestPlace (va_wsS RX0 54 yJ13_bitCount_95d88 wsJ13_bitCount_95d88) := goodIn_app (goodIn_of _ (by decide +kernel)) ggX0_fullestPlace_J13_bitCount_95d88
theorem dX0_fullestPlace_0 : decode cX0_fullestPlace 0 = .ok (.iconst 0, 1) := by decide +kernel
theorem dX0_fullestPlace_1 : decode cX0_fullestPlace 1 = .ok (.istore_n 1, 1) := by decide +kernel
theorem dX0_fullestPlace_2 : decode cX0_fullestPlace 2 = .ok (.iconst 1, 1) := by decide +kernel
theorem dX0_fullestPlace_3 : decode cX0_fullestPlace 3 = .ok (.istore_n 2, 1) := by decide +kernel
theorem dX0_fullestPlace_4 : decode cX0_fullestPlace 4 = .ok (.iload_n 2, 1) := by decide +kernel
theorem dX0_fullestPlace_5 : decode cX0_fullestPlace 5 = .ok (.sipush 1001, 3) := by decide +kernel
theorem dX0_fullestPlace_8 : decode cX0_fullestPlace 8 = .ok (.if_icmp .ge 32, 3) := by decide +kernel
theorem dX0_fullestPlace_11 : decode cX0_fullestPlace 11 = .ok (.aload_n 0, 1) := by decide +kernel
theorem dX0_fullestPlace_12 : decode cX0_fullestPlace 12 = .ok (.getfield 9, 3) := by decide +kernel
theorem dX0_fullestPlace_15 : decode cX0_fullestPlace 15 = .ok (.iload_n 2, 1) := by decide +kernel
theorem dX0_fullestPlace_16 : decode cX0_fullestPlace 16 = .ok (.laload, 1) := by decide +kernel
theorem dX0_fullestPlace_17 : decode cX0_fullestPlace 17 = .ok (.invokestatic 54, 3) := by decide +kernel
theorem dX0_fullestPlace_20 : decode cX0_fullestPlace 20 = .ok (.aload_n 0, 1) := by decide +kernel
theorem dX0_fullestPlace_21 : decode cX0_fullestPlace 21 = .ok (.getfield 9, 3) := by decide +kernel
theorem dX0_fullestPlace_24 : decode cX0_fullestPlace 24 = .ok (.iload_n 1, 1) := by decide +kernel
theorem dX0_fullestPlace_25 : decode cX0_fullestPlace 25 = .ok (.laload, 1) := by decide +kernel
theorem dX0_fullestPlace_26 : decode cX0_fullestPlace 26 = .ok (.invokestatic 54, 3) := by decide +kernel
theorem dX0_fullestPlace_29 : decode cX0_fullestPlace 29 = .ok (.if_icmp .le 5, 3) := by decide +kernel
theorem dX0_fullestPlace_32 : decode cX0_fullestPlace 32 = .ok (.iload_n 2, 1) := by decide +kernel
theorem dX0_fullestPlace_33 : decode cX0_fullestPlace 33 = .ok (.istore_n 1, 1) := by decide +kernel
theorem dX0_fullestPlace_34 : decode cX0_fullestPlace 34 = .ok (.iinc 2 1, 3) := by decide +kernel
theorem dX0_fullestPlace_37 : decode cX0_fullestPlace 37 = .ok (.goto (-33), 3) := by decide +kernel
theorem dX0_fullestPlace_40 : decode cX0_fullestPlace 40 = .ok (.iload_n 1, 1) := by decide +kernel
theorem dX0_fullestPlace_41 : decode cX0_fullestPlace 41 = .ok (.ireturn, 1) := by decide +kernel
theorem dX0_countFree_0 : decode cX0_countFree 0 = .ok (.iconst 0, 1) := by decide +kernel
theorem dX0_countFree_1 : decode cX0_countFree 1 = .ok (.istore_n 1, 1) := by decide +kernel
theorem dX0_countFree_2 : decode cX0_countFree 2 = .ok (.iconst 0, 1) := by decide +kernel
theorem dX0_countFree_3 : decode cX0_countFree 3 = .ok (.istore_n 2, 1) := by decide +kernel
theorem dX0_countFree_4 : decode cX0_countFree 4 = .ok (.iload_n 2, 1) := by decide +kernel
theorem dX0_countFree_5 : decode cX0_countFree 5 = .ok (.sipush 1001, 3) := by decide +kernel
theorem dX0_countFree_8 : decode cX0_countFree 8 = .ok (.if_icmp .ge 23, 3) := by decide +kernel
theorem dX0_countFree_11 : decode cX0_countFree 11 = .ok (.aload_n 0, 1) := by decide +kernel
theorem dX0_countFree_12 : decode cX0_countFree 12 = .ok (.getfield 9, 3) := by decide +kernel
theorem dX0_countFree_15 : decode cX0_countFree 15 = .ok (.iload_n 2, 1) := by decide +kernel
theorem dX0_countFree_16 : decode cX0_countFree 16 = .ok (.laload, 1) := by decide +kernel
theorem dX0_countFree_17 : decode cX0_countFree 17 = .ok (.lconst 0, 1) := by decide +kernel
theorem dX0_countFree_18 : decode cX0_countFree 18 = .ok (.lcmp, 1) := by decide +kernel
theorem dX0_countFree_19 : decode cX0_countFree 19 = .ok (.ifCond .ne 6, 3) := by decide +kernel
theorem dX0_countFree_22 : decode cX0_countFree 22 = .ok (.iinc 1 1, 3) := by decide +kernel
theorem dX0_countFree_25 : decode cX0_countFree 25 = .ok (.iinc 2 1, 3) := by decide +kernel
theorem dX0_countFree_28 : decode cX0_countFree 28 = .ok (.goto (-24), 3) := by decide +kernel
theorem dX0_countFree_31 : decode cX0_countFree 31 = .ok (.iload_n 1, 1) := by decide +kernel
theorem dX0_countFree_32 : decode cX0_countFree 32 = .ok (.ireturn, 1) := by decide +kernel
set_option maxRecDepth 20000 in
theorem ggX1_init_X6_init : GoodIn wsX1_init wsX6_init := goodIn_r _ [9, 10, 2, 3, 11, 12, 13, 14, 15, 16, 17, 18, 19, 20, 21, 22, 23, 24, 25, 26, 27, 28, 29, 30, 31, 32, 33, 34, 35, 36, 37, 38, 39, 40, 41, 42, 43, 44, 45, 46, 47, 48, 49, 50, 51, 52, 59, 60, 61, 62, 63, 64, 65, 66, 55, 56, 57, 58, 67, 68, 69, 70, 71, 72, 73, 74, 75, 76, 77, 78, 79, 80, 81] rfl (by decide +kernel)
set_option maxRecDepth 20000 in
theorem gX1_init_X6_init_n17 : GoodIn wsX1_init (wsX6_init) := ggX1_init_X6_init
theorem dX1_init_0 : decode cX1_init 0 = .ok (.aload_n 0, 1) := by decide +kernel
theorem dX1_init_1 : decode cX1_init 1 = .ok (.invokespecial 3, 3) := by decide +kernel
theorem dX1_init_4 : decode cX1_init 4 = .ok (.aload_n 0, 1) := by decide +kernel
theorem dX1_init_5 : decode cX1_init 5 = .ok (.iconst 4, 1) := by decide +kernel
theorem dX1_init_6 : decode cX1_init 6 = .ok (.anewarray 9, 3) := by decide +kernel
theorem dX1_init_9 : decode cX1_init 9 = .ok (.putfield 11, 3) := by decide +kernel
theorem dX1_init_12 : decode cX1_init 12 = .ok (.iconst 0, 1) := by decide +kernel
theorem dX1_init_13 : decode cX1_init 13 = .ok (.istore_n 1, 1) := by decide +kernel
theorem dX1_init_14 : decode cX1_init 14 = .ok (.iload_n 1, 1) := by decide +kernel
theorem dX1_init_15 : decode cX1_init 15 = .ok (.iconst 4, 1) := by decide +kernel
theorem dX1_init_16 : decode cX1_init 16 = .ok (.if_icmp .ge 22, 3) := by decide +kernel
theorem dX1_init_19 : decode cX1_init 19 = .ok (.aload_n 0, 1) := by decide +kernel
theorem dX1_init_20 : decode cX1_init 20 = .ok (.getfield 11, 3) := by decide +kernel
theorem dX1_init_23 : decode cX1_init 23 = .ok (.iload_n 1, 1) := by decide +kernel
theorem dX1_init_24 : decode cX1_init 24 = .ok (.new 9, 3) := by decide +kernel
theorem dX1_init_27 : decode cX1_init 27 = .ok (.dup, 1) := by decide +kernel
theorem dX1_init_28 : decode cX1_init 28 = .ok (.invokespecial 17, 3) := by decide +kernel
theorem dX1_init_31 : decode cX1_init 31 = .ok (.aastore, 1) := by decide +kernel
theorem dX1_init_32 : decode cX1_init 32 = .ok (.iinc 1 1, 3) := by decide +kernel
theorem dX1_init_35 : decode cX1_init 35 = .ok (.goto (-21), 3) := by decide +kernel
theorem dX1_init_38 : decode cX1_init 38 = .ok (.return_, 1) := by decide +kernel
set_option maxRecDepth 20000 in
theorem ggX1_record_X1_dropOldest : GoodIn wsX1_record wsX1_dropOldest := goodIn_r _ [7, 2, 1, 61, 62] rfl (by decide +kernel)
set_option maxRecDepth 20000 in
theorem gX1_record_X1_dropOldest : GoodIn wsX1_record (wsV RX1 22 RX1 yX1_dropOldest wsX1_dropOldest) := goodIn_app (goodIn_of _ (by decide +kernel)) ggX1_record_X1_dropOldest
set_option maxRecDepth 20000 in
theorem ggX1_record_X6_copyFrom : GoodIn wsX1_record wsX6_copyFrom := goodIn_r _ [12, 13, 14, 15, 16, 17, 18, 19, 20, 21, 22, 23, 24, 25, 26, 27, 28, 29, 30, 31, 32, 33, 34, 35, 36, 37, 38, 39, 40, 41, 42, 43, 44, 45, 46, 47, 48, 49, 50, 51, 52, 53, 54, 55, 56, 57, 58, 59, 60, 63, 64, 65, 66, 67, 68, 69, 70, 71, 72, 73, 74, 75, 76, 77, 78, 79, 80, 81, 82, 83, 84, 85, 86, 87, 88, 89] rfl (by decide +kernel)
set_option maxRecDepth 20000 in
theorem gX1_record_X6_copyFrom : GoodIn wsX1_record (wsV RX1 25 RX6 yX6_copyFrom wsX6_copyFrom) := goodIn_app (goodIn_of _ (by decide +kernel)) ggX1_record_X6_copyFrom
theorem dX1_record_0 : decode cX1_record 0 = .ok (.aload_n 0, 1) := by decide +kernel
theorem dX1_record_1 : decode cX1_record 1 = .ok (.getfield 18, 3) := by decide +kernel
theorem dX1_record_4 : decode cX1_record 4 = .ok (.iconst 4, 1) := by decide +kernel
theorem dX1_record_5 : decode cX1_record 5 = .ok (.if_icmp .lt 7, 3) := by decide +kernel
theorem dX1_record_8 : decode cX1_record 8 = .ok (.aload_n 0, 1) := by decide +kernel
theorem dX1_record_9 : decode cX1_record 9 = .ok (.invokevirtual 22, 3) := by decide +kernel
theorem dX1_record_12 : decode cX1_record 12 = .ok (.aload_n 0, 1) := by decide +kernel
theorem dX1_record_13 : decode cX1_record 13 = .ok (.getfield 11, 3) := by decide +kernel
theorem dX1_record_16 : decode cX1_record 16 = .ok (.aload_n 0, 1) := by decide +kernel
theorem dX1_record_17 : decode cX1_record 17 = .ok (.getfield 18, 3) := by decide +kernel
theorem dX1_record_20 : decode cX1_record 20 = .ok (.aaload, 1) := by decide +kernel
theorem dX1_record_21 : decode cX1_record 21 = .ok (.astore_n 2, 1) := by decide +kernel
theorem dX1_record_22 : decode cX1_record 22 = .ok (.aload_n 2, 1) := by decide +kernel
theorem dX1_record_23 : decode cX1_record 23 = .ok (.ifnull 18, 3) := by decide +kernel
theorem dX1_record_26 : decode cX1_record 26 = .ok (.aload_n 2, 1) := by decide +kernel
theorem dX1_record_27 : decode cX1_record 27 = .ok (.aload_n 1, 1) := by decide +kernel
theorem dX1_record_28 : decode cX1_record 28 = .ok (.invokevirtual 25, 3) := by decide +kernel
theorem dX1_record_31 : decode cX1_record 31 = .ok (.aload_n 0, 1) := by decide +kernel
theorem dX1_record_32 : decode cX1_record 32 = .ok (.dup, 1) := by decide +kernel
theorem dX1_record_33 : decode cX1_record 33 = .ok (.getfield 18, 3) := by decide +kernel
theorem dX1_record_36 : decode cX1_record 36 = .ok (.iconst 1, 1) := by decide +kernel
theorem dX1_record_37 : decode cX1_record 37 = .ok (.iadd, 1) := by decide +kernel
theorem dX1_record_38 : decode cX1_record 38 = .ok (.putfield 18, 3) := by decide +kernel
theorem dX1_record_41 : decode cX1_record 41 = .ok (.return_, 1) := by decide +kernel
theorem dX1_dropOldest_0 : decode cX1_dropOldest 0 = .ok (.aload_n 0, 1) := by decide +kernel
theorem dX1_dropOldest_1 : decode cX1_dropOldest 1 = .ok (.getfield 11, 3) := by decide +kernel
theorem dX1_dropOldest_4 : decode cX1_dropOldest 4 = .ok (.iconst 0, 1) := by decide +kernel
theorem dX1_dropOldest_5 : decode cX1_dropOldest 5 = .ok (.aaload, 1) := by decide +kernel
theorem dX1_dropOldest_6 : decode cX1_dropOldest 6 = .ok (.astore_n 1, 1) := by decide +kernel
theorem dX1_dropOldest_7 : decode cX1_dropOldest 7 = .ok (.iconst 1, 1) := by decide +kernel
theorem dX1_dropOldest_8 : decode cX1_dropOldest 8 = .ok (.istore_n 2, 1) := by decide +kernel
theorem dX1_dropOldest_9 : decode cX1_dropOldest 9 = .ok (.iload_n 2, 1) := by decide +kernel
theorem dX1_dropOldest_10 : decode cX1_dropOldest 10 = .ok (.iconst 4, 1) := by decide +kernel
theorem dX1_dropOldest_11 : decode cX1_dropOldest 11 = .ok (.if_icmp .ge 23, 3) := by decide +kernel
theorem dX1_dropOldest_14 : decode cX1_dropOldest 14 = .ok (.aload_n 0, 1) := by decide +kernel
theorem dX1_dropOldest_15 : decode cX1_dropOldest 15 = .ok (.getfield 11, 3) := by decide +kernel
theorem dX1_dropOldest_18 : decode cX1_dropOldest 18 = .ok (.iload_n 2, 1) := by decide +kernel
theorem dX1_dropOldest_19 : decode cX1_dropOldest 19 = .ok (.iconst 1, 1) := by decide +kernel
theorem dX1_dropOldest_20 : decode cX1_dropOldest 20 = .ok (.isub, 1) := by decide +kernel
theorem dX1_dropOldest_21 : decode cX1_dropOldest 21 = .ok (.aload_n 0, 1) := by decide +kernel
theorem dX1_dropOldest_22 : decode cX1_dropOldest 22 = .ok (.getfield 11, 3) := by decide +kernel
theorem dX1_dropOldest_25 : decode cX1_dropOldest 25 = .ok (.iload_n 2, 1) := by decide +kernel
theorem dX1_dropOldest_26 : decode cX1_dropOldest 26 = .ok (.aaload, 1) := by decide +kernel
theorem dX1_dropOldest_27 : decode cX1_dropOldest 27 = .ok (.aastore, 1) := by decide +kernel
theorem dX1_dropOldest_28 : decode cX1_dropOldest 28 = .ok (.iinc 2 1, 3) := by decide +kernel
theorem dX1_dropOldest_31 : decode cX1_dropOldest 31 = .ok (.goto (-22), 3) := by decide +kernel
theorem dX1_dropOldest_34 : decode cX1_dropOldest 34 = .ok (.aload_n 0, 1) := by decide +kernel
theorem dX1_dropOldest_35 : decode cX1_dropOldest 35 = .ok (.getfield 11, 3) := by decide +kernel
theorem dX1_dropOldest_38 : decode cX1_dropOldest 38 = .ok (.iconst 3, 1) := by decide +kernel
theorem dX1_dropOldest_39 : decode cX1_dropOldest 39 = .ok (.aload_n 1, 1) := by decide +kernel
theorem dX1_dropOldest_40 : decode cX1_dropOldest 40 = .ok (.aastore, 1) := by decide +kernel
theorem dX1_dropOldest_41 : decode cX1_dropOldest 41 = .ok (.aload_n 0, 1) := by decide +kernel
theorem dX1_dropOldest_42 : decode cX1_dropOldest 42 = .ok (.iconst 3, 1) := by decide +kernel
theorem dX1_dropOldest_43 : decode cX1_dropOldest 43 = .ok (.putfield 18, 3) := by decide +kernel
theorem dX1_dropOldest_46 : decode cX1_dropOldest 46 = .ok (.return_, 1) := by decide +kernel
theorem dX1_takeLatest_0 : decode cX1_takeLatest 0 = .ok (.aload_n 0, 1) := by decide +kernel
theorem dX1_takeLatest_1 : decode cX1_takeLatest 1 = .ok (.getfield 18, 3) := by decide +kernel
theorem dX1_takeLatest_4 : decode cX1_takeLatest 4 = .ok (.iconst 1, 1) := by decide +kernel
theorem dX1_takeLatest_5 : decode cX1_takeLatest 5 = .ok (.if_icmp .ge 5, 3) := by decide +kernel
theorem dX1_takeLatest_8 : decode cX1_takeLatest 8 = .ok (.aconst_null, 1) := by decide +kernel
theorem dX1_takeLatest_9 : decode cX1_takeLatest 9 = .ok (.areturn, 1) := by decide +kernel
theorem dX1_takeLatest_10 : decode cX1_takeLatest 10 = .ok (.aload_n 0, 1) := by decide +kernel
theorem dX1_takeLatest_11 : decode cX1_takeLatest 11 = .ok (.dup, 1) := by decide +kernel
theorem dX1_takeLatest_12 : decode cX1_takeLatest 12 = .ok (.getfield 18, 3) := by decide +kernel
theorem dX1_takeLatest_15 : decode cX1_takeLatest 15 = .ok (.iconst 1, 1) := by decide +kernel
theorem dX1_takeLatest_16 : decode cX1_takeLatest 16 = .ok (.isub, 1) := by decide +kernel
theorem dX1_takeLatest_17 : decode cX1_takeLatest 17 = .ok (.putfield 18, 3) := by decide +kernel
theorem dX1_takeLatest_20 : decode cX1_takeLatest 20 = .ok (.aload_n 0, 1) := by decide +kernel
theorem dX1_takeLatest_21 : decode cX1_takeLatest 21 = .ok (.getfield 11, 3) := by decide +kernel
theorem dX1_takeLatest_24 : decode cX1_takeLatest 24 = .ok (.aload_n 0, 1) := by decide +kernel
theorem dX1_takeLatest_25 : decode cX1_takeLatest 25 = .ok (.getfield 18, 3) := by decide +kernel
theorem dX1_takeLatest_28 : decode cX1_takeLatest 28 = .ok (.aaload, 1) := by decide +kernel
theorem dX1_takeLatest_29 : decode cX1_takeLatest 29 = .ok (.areturn, 1) := by decide +kernel
set_option maxRecDepth 20000 in
theorem ggX2_init_X6_init : GoodIn wsX2_init wsX6_init := goodIn_r _ [17, 18, 2, 3, 19, 20, 21, 22, 23, 24, 25, 26, 27, 28, 29, 30, 31, 32, 33, 34, 35, 36, 37, 38, 39, 40, 41, 42, 43, 44, 45, 46, 47, 48, 49, 50, 51, 52, 53, 54, 55, 56, 57, 58, 59, 60, 92, 93, 94, 95, 96, 97, 98, 99, 79, 80, 81, 82, 100, 101, 102, 103, 104, 105, 106, 107, 108, 109, 110, 111, 112, 113, 114] rfl (by decide +kernel)
set_option maxRecDepth 20000 in
theorem gX2_init_X6_init_n11 : GoodIn wsX2_init (wsX6_init) := ggX2_init_X6_init
set_option maxRecDepth 20000 in
theorem ggX2_init_X0_init : GoodIn wsX2_init wsX0_init := goodIn_r _ [62, 63, 2, 3, 46, 64, 86] rfl (by decide +kernel)
set_option maxRecDepth 20000 in
theorem gX2_init_X0_init_n20 : GoodIn wsX2_init (wsX0_init) := ggX2_init_X0_init
set_option maxRecDepth 20000 in
theorem ggX2_init_X8_init : GoodIn wsX2_init wsX8_init := goodIn_r _ [66, 67, 2, 3, 34, 68, 69, 70, 71, 72, 73, 74, 75, 76, 77, 78, 87, 88, 89, 90, 91, 115, 116, 117, 118] rfl (by decide +kernel)
set_option maxRecDepth 20000 in
theorem gX2_init_X8_init_n27 : GoodIn wsX2_init (wsX8_init) := ggX2_init_X8_init
theorem dX2_init_0 : decode cX2_init 0 = .ok (.aload_n 0, 1) := by decide +kernel
theorem dX2_init_1 : decode cX2_init 1 = .ok (.invokespecial 3, 3) := by decide +kernel
theorem dX2_init_4 : decode cX2_init 4 = .ok (.aload_n 0, 1) := by decide +kernel
theorem dX2_init_5 : decode cX2_init 5 = .ok (.new 9, 3) := by decide +kernel
theorem dX2_init_8 : decode cX2_init 8 = .ok (.dup, 1) := by decide +kernel
theorem dX2_init_9 : decode cX2_init 9 = .ok (.invokespecial 11, 3) := by decide +kernel
theorem dX2_init_12 : decode cX2_init 12 = .ok (.putfield 12, 3) := by decide +kernel
theorem dX2_init_15 : decode cX2_init 15 = .ok (.aload_n 0, 1) := by decide +kernel
theorem dX2_init_16 : decode cX2_init 16 = .ok (.new 18, 3) := by decide +kernel
theorem dX2_init_19 : decode cX2_init 19 = .ok (.dup, 1) := by decide +kernel
theorem dX2_init_20 : decode cX2_init 20 = .ok (.invokespecial 20, 3) := by decide +kernel
theorem dX2_init_23 : decode cX2_init 23 = .ok (.putfield 21, 3) := by decide +kernel
theorem dX2_init_26 : decode cX2_init 26 = .ok (.aload_n 0, 1) := by decide +kernel
theorem dX2_init_27 : decode cX2_init 27 = .ok (.new 25, 3) := by decide +kernel
theorem dX2_init_30 : decode cX2_init 30 = .ok (.dup, 1) := by decide +kernel
theorem dX2_init_31 : decode cX2_init 31 = .ok (.invokespecial 27, 3) := by decide +kernel
theorem dX2_init_34 : decode cX2_init 34 = .ok (.putfield 28, 3) := by decide +kernel
theorem dX2_init_37 : decode cX2_init 37 = .ok (.return_, 1) := by decide +kernel
set_option maxRecDepth 20000 in
theorem ggX2_become_X6_copyFrom : GoodIn wsX2_become wsX6_copyFrom := goodIn_r _ [6, 7, 8, 9, 10, 11, 12, 13, 14, 15, 16, 17, 18, 19, 20, 21, 22, 23, 24, 25, 26, 27, 28, 29, 30, 31, 32, 33, 34, 35, 36, 37, 38, 39, 40, 41, 42, 43, 44, 45, 46, 47, 48, 49, 50, 51, 52, 53, 54, 139, 140, 141, 142, 143, 144, 145, 146, 147, 148, 149, 150, 151, 152, 153, 154, 155, 156, 157, 158, 159, 160, 161, 162, 163, 164, 165] rfl (by decide +kernel)
set_option maxRecDepth 20000 in
theorem gX2_become_X6_copyFrom : GoodIn wsX2_become (wsV RX2 32 RX6 yX6_copyFrom wsX6_copyFrom) := goodIn_app (goodIn_of _ (by decide +kernel)) ggX2_become_X6_copyFrom
set_option maxRecDepth 20000 in
theorem ggX2_become_X2_layOut : GoodIn wsX2_become wsX2_layOut := goodIn_r _ [59, 60, 1, 61, 62, 63, 64, 65, 66, 67, 68, 69, 70, 71, 72, 73, 74, 75, 76, 77, 78, 14, 79, 17, 80, 81, 82, 83, 84, 85, 86, 87, 88, 89, 90, 91, 92, 93, 94, 95, 96, 97, 98, 99, 100, 101, 102, 103, 104, 105, 106, 107, 108, 109, 110, 111, 112, 113, 114, 115, 116, 117, 118, 119, 120, 121, 122, 123, 124, 125, 126, 127, 128, 129, 130, 131, 132, 133, 134, 135, 136, 137, 138, 139, 140, 141, 142, 166, 143, 144, 145, 146, 147, 148, 149, 150, 167, 168, 169, 170, 171, 172, 173, 174, 175] rfl (by decide +kernel)
set_option maxRecDepth 20000 in
theorem gX2_become_X2_layOut : GoodIn wsX2_become (wsV RX2 36 RX2 yX2_layOut wsX2_layOut) := goodIn_app (goodIn_of _ (by decide +kernel)) ggX2_become_X2_layOut
theorem dX2_become_0 : decode cX2_become 0 = .ok (.aload_n 0, 1) := by decide +kernel
theorem dX2_become_1 : decode cX2_become 1 = .ok (.getfield 12, 3) := by decide +kernel
theorem dX2_become_4 : decode cX2_become 4 = .ok (.aload_n 1, 1) := by decide +kernel
theorem dX2_become_5 : decode cX2_become 5 = .ok (.invokevirtual 32, 3) := by decide +kernel
theorem dX2_become_8 : decode cX2_become 8 = .ok (.aload_n 0, 1) := by decide +kernel
theorem dX2_become_9 : decode cX2_become 9 = .ok (.invokevirtual 36, 3) := by decide +kernel
theorem dX2_become_12 : decode cX2_become 12 = .ok (.return_, 1) := by decide +kernel
set_option maxRecDepth 20000 in
theorem ggX2_layOut_X0_build : GoodIn wsX2_layOut wsX0_build := goodIn_r _ [9, 10, 11, 12, 13, 14, 15, 16, 17, 18, 19, 20, 21, 22, 23, 24, 25, 26, 27, 28, 29, 8, 30, 31, 32, 87, 88, 89, 90, 91, 92, 93, 94, 95] rfl (by decide +kernel)
set_option maxRecDepth 20000 in
theorem gX2_layOut_X0_build : GoodIn wsX2_layOut (wsV RX2 43 RX0 yX0_build wsX0_build) := goodIn_app (goodIn_of _ (by decide +kernel)) ggX2_layOut_X0_build
set_option maxRecDepth 20000 in
theorem ggX2_layOut_X8_build : GoodIn wsX2_layOut wsX8_build := goodIn_r _ [37, 38, 39, 40, 41, 42, 43, 44, 16, 45, 46, 19, 20, 21, 22, 23, 24, 25, 26, 47, 48, 49, 36, 50, 51, 52, 53, 54, 55, 56, 57, 58, 59, 60, 61, 62, 63, 64, 65, 66, 67, 68, 69, 70, 71, 72, 73, 74, 75, 76, 77, 78, 79, 96, 97, 98, 99, 100, 88, 89, 90, 91, 92, 93, 94, 95, 101, 102, 103, 104] rfl (by decide +kernel)
set_option maxRecDepth 20000 in
theorem gX2_layOut_X8_build : GoodIn wsX2_layOut (wsV RX2 47 RX8 yX8_build wsX8_build) := goodIn_app (goodIn_of _ (by decide +kernel)) ggX2_layOut_X8_build
theorem dX2_layOut_0 : decode cX2_layOut 0 = .ok (.aload_n 0, 1) := by decide +kernel
theorem dX2_layOut_1 : decode cX2_layOut 1 = .ok (.getfield 21, 3) := by decide +kernel
theorem dX2_layOut_4 : decode cX2_layOut 4 = .ok (.aload_n 0, 1) := by decide +kernel
theorem dX2_layOut_5 : decode cX2_layOut 5 = .ok (.getfield 12, 3) := by decide +kernel
theorem dX2_layOut_8 : decode cX2_layOut 8 = .ok (.getfield 39, 3) := by decide +kernel
theorem dX2_layOut_11 : decode cX2_layOut 11 = .ok (.invokevirtual 43, 3) := by decide +kernel
theorem dX2_layOut_14 : decode cX2_layOut 14 = .ok (.aload_n 0, 1) := by decide +kernel
theorem dX2_layOut_15 : decode cX2_layOut 15 = .ok (.getfield 28, 3) := by decide +kernel
theorem dX2_layOut_18 : decode cX2_layOut 18 = .ok (.aload_n 0, 1) := by decide +kernel
theorem dX2_layOut_19 : decode cX2_layOut 19 = .ok (.getfield 12, 3) := by decide +kernel
theorem dX2_layOut_22 : decode cX2_layOut 22 = .ok (.getfield 39, 3) := by decide +kernel
theorem dX2_layOut_25 : decode cX2_layOut 25 = .ok (.invokevirtual 47, 3) := by decide +kernel
theorem dX2_layOut_28 : decode cX2_layOut 28 = .ok (.return_, 1) := by decide +kernel
set_option maxRecDepth 20000 in
theorem ggX2_addSpan_X5_append : GoodIn wsX2_addSpan wsX5_append := goodIn_r _ [7, 8, 9, 10, 11, 12, 13, 155, 156, 157, 158, 159, 160, 161, 162] rfl (by decide +kernel)
set_option maxRecDepth 20000 in
theorem gX2_addSpan_X5_append : GoodIn wsX2_addSpan (wsV RX2 48 RX5 yX5_append wsX5_append) := goodIn_app (goodIn_of _ (by decide +kernel)) ggX2_addSpan_X5_append
set_option maxRecDepth 20000 in
theorem ggX2_addSpan_X2_layOut : GoodIn wsX2_addSpan wsX2_layOut := goodIn_r _ [18, 19, 1, 2, 20, 21, 22, 23, 24, 25, 26, 27, 28, 29, 30, 31, 32, 33, 34, 35, 36, 6, 37, 9, 38, 39, 40, 41, 42, 43, 44, 45, 46, 47, 48, 49, 50, 51, 52, 53, 54, 55, 56, 57, 58, 59, 60, 61, 62, 63, 64, 65, 66, 67, 68, 69, 70, 71, 72, 73, 74, 75, 76, 77, 78, 79, 80, 81, 82, 83, 84, 85, 86, 87, 88, 89, 90, 91, 92, 93, 148, 149, 150, 151, 152, 153, 154, 163, 155, 156, 157, 158, 159, 160, 161, 162, 164, 165, 166, 167, 168, 169, 170, 171, 172] rfl (by decide +kernel)
set_option maxRecDepth 20000 in
theorem gX2_addSpan_X2_layOut : GoodIn wsX2_addSpan (wsV RX2 36 RX2 yX2_layOut wsX2_layOut) := goodIn_app (goodIn_of _ (by decide +kernel)) ggX2_addSpan_X2_layOut
set_option maxRecDepth 20000 in
theorem ggX2_addSpan_X2_tellAll : GoodIn wsX2_addSpan wsX2_tellAll := goodIn_r _ [97, 1, 98, 99, 100, 101, 102, 17, 103, 104, 19, 105, 2, 106, 107, 108, 109, 110, 24, 111, 26, 45, 39, 46, 38, 40, 112, 113, 114, 115, 116, 117, 118, 119, 120, 121, 122, 123, 124, 125, 126, 127, 128, 129, 130, 131, 132, 133, 134, 135, 136, 137, 138, 139, 140, 141, 142, 143, 144, 145, 146, 147, 148, 149, 150, 151, 152, 153, 154, 173, 174, 175, 176, 177, 178, 179, 180, 181, 155, 156, 157, 158, 159, 160, 161, 162, 163, 182, 183, 184, 185, 186, 187] rfl (by decide +kernel)
set_option maxRecDepth 20000 in
theorem gX2_addSpan_X2_tellAll : GoodIn wsX2_addSpan (wsV RX2 54 RX2 yX2_tellAll wsX2_tellAll) := goodIn_app (goodIn_of _ (by decide +kernel)) ggX2_addSpan_X2_tellAll
theorem dX2_addSpan_0 : decode cX2_addSpan 0 = .ok (.aload_n 0, 1) := by decide +kernel
theorem dX2_addSpan_1 : decode cX2_addSpan 1 = .ok (.getfield 12, 3) := by decide +kernel
theorem dX2_addSpan_4 : decode cX2_addSpan 4 = .ok (.getfield 39, 3) := by decide +kernel
theorem dX2_addSpan_7 : decode cX2_addSpan 7 = .ok (.iload_n 1, 1) := by decide +kernel
theorem dX2_addSpan_8 : decode cX2_addSpan 8 = .ok (.iload_n 2, 1) := by decide +kernel
theorem dX2_addSpan_9 : decode cX2_addSpan 9 = .ok (.iload_n 3, 1) := by decide +kernel
theorem dX2_addSpan_10 : decode cX2_addSpan 10 = .ok (.iload 4, 2) := by decide +kernel
theorem dX2_addSpan_12 : decode cX2_addSpan 12 = .ok (.invokevirtual 48, 3) := by decide +kernel
theorem dX2_addSpan_15 : decode cX2_addSpan 15 = .ok (.istore 5, 2) := by decide +kernel
theorem dX2_addSpan_17 : decode cX2_addSpan 17 = .ok (.aload_n 0, 1) := by decide +kernel
theorem dX2_addSpan_18 : decode cX2_addSpan 18 = .ok (.invokevirtual 36, 3) := by decide +kernel
theorem dX2_addSpan_21 : decode cX2_addSpan 21 = .ok (.aload_n 0, 1) := by decide +kernel
theorem dX2_addSpan_22 : decode cX2_addSpan 22 = .ok (.invokevirtual 54, 3) := by decide +kernel
theorem dX2_addSpan_25 : decode cX2_addSpan 25 = .ok (.pop, 1) := by decide +kernel
theorem dX2_addSpan_26 : decode cX2_addSpan 26 = .ok (.iload 5, 2) := by decide +kernel
theorem dX2_addSpan_28 : decode cX2_addSpan 28 = .ok (.ireturn, 1) := by decide +kernel
set_option maxRecDepth 20000 in
theorem ggX2_removeSpan_X5_takeAway : GoodIn wsX2_removeSpan wsX5_takeAway := goodIn_r _ [7, 8, 9, 151, 152, 153, 154, 155, 156, 157, 158] rfl (by decide +kernel)
set_option maxRecDepth 20000 in
theorem gX2_removeSpan_X5_takeAway : GoodIn wsX2_removeSpan (wsV RX2 58 RX5 yX5_takeAway wsX5_takeAway) := goodIn_app (goodIn_of _ (by decide +kernel)) ggX2_removeSpan_X5_takeAway
set_option maxRecDepth 20000 in
theorem ggX2_removeSpan_X2_layOut : GoodIn wsX2_removeSpan wsX2_layOut := goodIn_r _ [14, 15, 1, 2, 16, 17, 18, 19, 20, 21, 22, 23, 24, 25, 26, 27, 28, 29, 30, 31, 32, 6, 33, 8, 34, 35, 36, 37, 38, 39, 40, 41, 42, 43, 44, 45, 46, 47, 48, 49, 50, 51, 52, 53, 54, 55, 56, 57, 58, 59, 60, 61, 62, 63, 64, 65, 66, 67, 68, 69, 70, 71, 72, 73, 74, 75, 76, 77, 78, 79, 80, 81, 82, 83, 84, 85, 86, 87, 88, 89, 144, 145, 146, 147, 148, 149, 150, 159, 151, 152, 153, 154, 155, 156, 157, 158, 160, 161, 162, 163, 164, 165, 166, 167, 168] rfl (by decide +kernel)
set_option maxRecDepth 20000 in
theorem gX2_removeSpan_X2_layOut : GoodIn wsX2_removeSpan (wsV RX2 36 RX2 yX2_layOut wsX2_layOut) := goodIn_app (goodIn_of _ (by decide +kernel)) ggX2_removeSpan_X2_layOut
set_option maxRecDepth 20000 in
theorem ggX2_removeSpan_X2_tellAll : GoodIn wsX2_removeSpan wsX2_tellAll := goodIn_r _ [93, 1, 94, 95, 96, 97, 98, 13, 99, 100, 15, 101, 2, 102, 103, 104, 105, 106, 20, 107, 22, 41, 35, 42, 34, 36, 108, 109, 110, 111, 112, 113, 114, 115, 116, 117, 118, 119, 120, 121, 122, 123, 124, 125, 126, 127, 128, 129, 130, 131, 132, 133, 134, 135, 136, 137, 138, 139, 140, 141, 142, 143, 144, 145, 146, 147, 148, 149, 150, 169, 170, 171, 172, 173, 174, 175, 176, 177, 151, 152, 153, 154, 155, 156, 157, 158, 159, 178, 179, 180, 181, 182, 183] rfl (by decide +kernel)
set_option maxRecDepth 20000 in
theorem gX2_removeSpan_X2_tellAll : GoodIn wsX2_removeSpan (wsV RX2 54 RX2 yX2_tellAll wsX2_tellAll) := goodIn_app (goodIn_of _ (by decide +kernel)) ggX2_removeSpan_X2_tellAll
theorem dX2_removeSpan_0 : decode cX2_removeSpan 0 = .ok (.aload_n 0, 1) := by decide +kernel
theorem dX2_removeSpan_1 : decode cX2_removeSpan 1 = .ok (.getfield 12, 3) := by decide +kernel
theorem dX2_removeSpan_4 : decode cX2_removeSpan 4 = .ok (.getfield 39, 3) := by decide +kernel
theorem dX2_removeSpan_7 : decode cX2_removeSpan 7 = .ok (.iload_n 1, 1) := by decide +kernel
theorem dX2_removeSpan_8 : decode cX2_removeSpan 8 = .ok (.invokevirtual 58, 3) := by decide +kernel
theorem dX2_removeSpan_11 : decode cX2_removeSpan 11 = .ok (.aload_n 0, 1) := by decide +kernel
theorem dX2_removeSpan_12 : decode cX2_removeSpan 12 = .ok (.invokevirtual 36, 3) := by decide +kernel
theorem dX2_removeSpan_15 : decode cX2_removeSpan 15 = .ok (.aload_n 0, 1) := by decide +kernel
theorem dX2_removeSpan_16 : decode cX2_removeSpan 16 = .ok (.invokevirtual 54, 3) := by decide +kernel
theorem dX2_removeSpan_19 : decode cX2_removeSpan 19 = .ok (.ireturn, 1) := by decide +kernel
set_option maxRecDepth 20000 in
theorem ggX2_moveSpan_X5_shift : GoodIn wsX2_moveSpan wsX5_shift := goodIn_r _ [7, 8, 9, 10, 11, 154, 155, 156, 157, 158, 159, 160, 161] rfl (by decide +kernel)
set_option maxRecDepth 20000 in
theorem gX2_moveSpan_X5_shift : GoodIn wsX2_moveSpan (wsV RX2 62 RX5 yX5_shift wsX5_shift) := goodIn_app (goodIn_of _ (by decide +kernel)) ggX2_moveSpan_X5_shift
set_option maxRecDepth 20000 in
theorem ggX2_moveSpan_X2_layOut : GoodIn wsX2_moveSpan wsX2_layOut := goodIn_r _ [16, 17, 1, 2, 18, 19, 20, 21, 22, 23, 24, 25, 26, 27, 28, 29, 30, 31, 32, 33, 34, 6, 35, 36, 37, 38, 39, 40, 41, 42, 43, 44, 45, 46, 47, 48, 49, 50, 51, 52, 53, 54, 55, 56, 57, 58, 59, 60, 61, 62, 63, 64, 65, 66, 67, 68, 69, 70, 71, 72, 73, 74, 75, 76, 77, 78, 79, 80, 81, 82, 83, 84, 85, 86, 87, 88, 89, 90, 91, 92, 147, 148, 149, 150, 151, 152, 153, 162, 154, 155, 156, 157, 158, 159, 160, 161, 163, 164, 165, 166, 167, 168, 169, 170, 171] rfl (by decide +kernel)
set_option maxRecDepth 20000 in
theorem gX2_moveSpan_X2_layOut : GoodIn wsX2_moveSpan (wsV RX2 36 RX2 yX2_layOut wsX2_layOut) := goodIn_app (goodIn_of _ (by decide +kernel)) ggX2_moveSpan_X2_layOut
set_option maxRecDepth 20000 in
theorem ggX2_moveSpan_X2_tellAll : GoodIn wsX2_moveSpan wsX2_tellAll := goodIn_r _ [96, 1, 97, 98, 99, 100, 101, 15, 102, 103, 17, 104, 2, 105, 106, 107, 108, 109, 22, 110, 24, 44, 38, 45, 37, 39, 111, 112, 113, 114, 115, 116, 117, 118, 119, 120, 121, 122, 123, 124, 125, 126, 127, 128, 129, 130, 131, 132, 133, 134, 135, 136, 137, 138, 139, 140, 141, 142, 143, 144, 145, 146, 147, 148, 149, 150, 151, 152, 153, 172, 173, 174, 175, 176, 177, 178, 179, 180, 154, 155, 156, 157, 158, 159, 160, 161, 162, 181, 182, 183, 184, 185, 186] rfl (by decide +kernel)
set_option maxRecDepth 20000 in
theorem gX2_moveSpan_X2_tellAll : GoodIn wsX2_moveSpan (wsV RX2 54 RX2 yX2_tellAll wsX2_tellAll) := goodIn_app (goodIn_of _ (by decide +kernel)) ggX2_moveSpan_X2_tellAll
theorem dX2_moveSpan_0 : decode cX2_moveSpan 0 = .ok (.aload_n 0, 1) := by decide +kernel
theorem dX2_moveSpan_1 : decode cX2_moveSpan 1 = .ok (.getfield 12, 3) := by decide +kernel
theorem dX2_moveSpan_4 : decode cX2_moveSpan 4 = .ok (.getfield 39, 3) := by decide +kernel
theorem dX2_moveSpan_7 : decode cX2_moveSpan 7 = .ok (.iload_n 1, 1) := by decide +kernel
theorem dX2_moveSpan_8 : decode cX2_moveSpan 8 = .ok (.iload_n 2, 1) := by decide +kernel
theorem dX2_moveSpan_9 : decode cX2_moveSpan 9 = .ok (.invokevirtual 62, 3) := by decide +kernel
theorem dX2_moveSpan_12 : decode cX2_moveSpan 12 = .ok (.aload_n 0, 1) := by decide +kernel
theorem dX2_moveSpan_13 : decode cX2_moveSpan 13 = .ok (.invokevirtual 36, 3) := by decide +kernel
theorem dX2_moveSpan_16 : decode cX2_moveSpan 16 = .ok (.aload_n 0, 1) := by decide +kernel
theorem dX2_moveSpan_17 : decode cX2_moveSpan 17 = .ok (.invokevirtual 54, 3) := by decide +kernel
theorem dX2_moveSpan_20 : decode cX2_moveSpan 20 = .ok (.ireturn, 1) := by decide +kernel
set_option maxRecDepth 20000 in
theorem ggX2_addWalker_X9_append : GoodIn wsX2_addWalker wsX9_append := goodIn_r _ [7, 8, 9, 10, 81, 82, 83, 84, 85, 86, 87, 88, 89] rfl (by decide +kernel)
set_option maxRecDepth 20000 in
theorem gX2_addWalker_X9_append : GoodIn wsX2_addWalker (wsV RX2 70 RX9 yX9_append wsX9_append) := goodIn_app (goodIn_of _ (by decide +kernel)) ggX2_addWalker_X9_append
set_option maxRecDepth 20000 in
theorem ggX2_addWalker_X2_tellAll : GoodIn wsX2_addWalker wsX2_tellAll := goodIn_r _ [15, 1, 2, 16, 17, 18, 19, 14, 20, 21, 22, 23, 24, 25, 26, 27, 28, 29, 30, 31, 32, 33, 34, 35, 36, 37, 38, 39, 40, 41, 42, 43, 44, 45, 46, 47, 48, 49, 50, 51, 52, 53, 54, 55, 56, 57, 58, 59, 60, 61, 62, 63, 64, 65, 66, 67, 68, 69, 70, 71, 72, 73, 74, 75, 76, 77, 78, 79, 80, 81, 82, 83, 84, 85, 86, 87, 88, 89, 90, 91, 92, 93, 94, 95, 96, 97, 98, 99, 100, 101, 102, 103, 104] rfl (by decide +kernel)
set_option maxRecDepth 20000 in
theorem gX2_addWalker_X2_tellAll : GoodIn wsX2_addWalker (wsV RX2 54 RX2 yX2_tellAll wsX2_tellAll) := goodIn_app (goodIn_of _ (by decide +kernel)) ggX2_addWalker_X2_tellAll
theorem dX2_addWalker_0 : decode cX2_addWalker 0 = .ok (.aload_n 0, 1) := by decide +kernel
theorem dX2_addWalker_1 : decode cX2_addWalker 1 = .ok (.getfield 12, 3) := by decide +kernel
theorem dX2_addWalker_4 : decode cX2_addWalker 4 = .ok (.getfield 66, 3) := by decide +kernel
theorem dX2_addWalker_7 : decode cX2_addWalker 7 = .ok (.iload_n 1, 1) := by decide +kernel
theorem dX2_addWalker_8 : decode cX2_addWalker 8 = .ok (.iload_n 2, 1) := by decide +kernel
theorem dX2_addWalker_9 : decode cX2_addWalker 9 = .ok (.invokevirtual 70, 3) := by decide +kernel
theorem dX2_addWalker_12 : decode cX2_addWalker 12 = .ok (.istore_n 3, 1) := by decide +kernel
theorem dX2_addWalker_13 : decode cX2_addWalker 13 = .ok (.aload_n 0, 1) := by decide +kernel
theorem dX2_addWalker_14 : decode cX2_addWalker 14 = .ok (.invokevirtual 54, 3) := by decide +kernel
theorem dX2_addWalker_17 : decode cX2_addWalker 17 = .ok (.pop, 1) := by decide +kernel
theorem dX2_addWalker_18 : decode cX2_addWalker 18 = .ok (.iload_n 3, 1) := by decide +kernel
theorem dX2_addWalker_19 : decode cX2_addWalker 19 = .ok (.ireturn, 1) := by decide +kernel
set_option maxRecDepth 20000 in
theorem ggX2_putWalker_X2_tell : GoodIn wsX2_putWalker wsX2_tell := goodIn_r _ [8, 1, 2, 9, 10, 3, 11, 12, 13, 14, 15, 16, 17, 18, 19, 20, 21, 22, 23, 24, 25, 26, 27, 7, 28, 29, 30, 31, 32, 33, 34, 35, 36, 37, 38, 39, 40, 41, 42, 43, 44, 45, 46, 47, 48, 49, 50, 51, 52, 53, 54, 55, 56, 57, 58, 59, 60, 61, 62, 63, 64, 65, 66, 67, 68, 69, 70, 71, 72, 73, 74, 75, 76, 77, 78, 79, 80, 81, 82, 83, 84, 85, 86, 87, 88, 89, 90, 91] rfl (by decide +kernel)
set_option maxRecDepth 20000 in
theorem gX2_putWalker_X2_tell : GoodIn wsX2_putWalker (wsV RX2 79 RX2 yX2_tell wsX2_tell) := goodIn_app (goodIn_of _ (by decide +kernel)) ggX2_putWalker_X2_tell
theorem dX2_putWalker_0 : decode cX2_putWalker 0 = .ok (.aload_n 0, 1) := by decide +kernel
theorem dX2_putWalker_1 : decode cX2_putWalker 1 = .ok (.getfield 12, 3) := by decide +kernel
theorem dX2_putWalker_4 : decode cX2_putWalker 4 = .ok (.getfield 66, 3) := by decide +kernel
theorem dX2_putWalker_7 : decode cX2_putWalker 7 = .ok (.getfield 75, 3) := by decide +kernel
theorem dX2_putWalker_10 : decode cX2_putWalker 10 = .ok (.iload_n 1, 1) := by decide +kernel
theorem dX2_putWalker_11 : decode cX2_putWalker 11 = .ok (.iload_n 2, 1) := by decide +kernel
theorem dX2_putWalker_12 : decode cX2_putWalker 12 = .ok (.iastore, 1) := by decide +kernel
theorem dX2_putWalker_13 : decode cX2_putWalker 13 = .ok (.aload_n 0, 1) := by decide +kernel
theorem dX2_putWalker_14 : decode cX2_putWalker 14 = .ok (.iload_n 1, 1) := by decide +kernel
theorem dX2_putWalker_15 : decode cX2_putWalker 15 = .ok (.invokevirtual 79, 3) := by decide +kernel
theorem dX2_putWalker_18 : decode cX2_putWalker 18 = .ok (.ireturn, 1) := by decide +kernel
set_option maxRecDepth 20000 in
theorem ggX2_passTick_X9_stepTurns : GoodIn wsX2_passTick wsX9_stepTurns := goodIn_r _ [11, 12, 13, 14, 15, 16, 17, 18, 19, 20, 21, 22, 23, 24, 25, 26, 27, 28, 29, 30, 95, 96, 97, 98, 99, 100, 101, 102, 103] rfl (by decide +kernel)
set_option maxRecDepth 20000 in
theorem gX2_passTick_X9_stepTurns : GoodIn wsX2_passTick (wsV RX2 90 RX9 yX9_stepTurns wsX9_stepTurns) := goodIn_app (goodIn_of _ (by decide +kernel)) ggX2_passTick_X9_stepTurns
set_option maxRecDepth 20000 in
theorem ggX2_passTick_X3_write : GoodIn wsX2_passTick wsX3_write := goodIn_r _ [35, 36, 37, 38, 39, 40, 41, 42, 43, 44, 45, 104, 105, 106, 107, 108, 109] rfl (by decide +kernel)
set_option maxRecDepth 20000 in
theorem gX2_passTick_X3_write : GoodIn wsX2_passTick (wsV RX2 98 RX3 yX3_write wsX3_write) := goodIn_app (goodIn_of _ (by decide +kernel)) ggX2_passTick_X3_write
set_option maxRecDepth 20000 in
theorem ggX2_passTick_X2_tell : GoodIn wsX2_passTick wsX2_tell := goodIn_r _ [50, 1, 3, 51, 52, 6, 53, 54, 55, 56, 57, 58, 59, 60, 61, 24, 21, 25, 62, 63, 64, 65, 66, 49, 67, 68, 5, 2, 31, 32, 33, 34, 35, 36, 37, 38, 39, 40, 41, 42, 43, 44, 45, 69, 70, 71, 72, 73, 74, 75, 76, 77, 78, 79, 80, 81, 82, 88, 89, 90, 91, 92, 93, 94, 95, 96, 97, 98, 99, 100, 101, 102, 103, 110, 111, 112, 113, 114, 115, 116, 117, 118, 104, 105, 106, 107, 108, 109] rfl (by decide +kernel)
set_option maxRecDepth 20000 in
theorem gX2_passTick_X2_tell : GoodIn wsX2_passTick (wsV RX2 79 RX2 yX2_tell wsX2_tell) := goodIn_app (goodIn_of _ (by decide +kernel)) ggX2_passTick_X2_tell
set_option maxRecDepth 20000 in
theorem ggX2_passTick_X2_countTickInside : GoodIn wsX2_passTick wsX2_countTickInside := goodIn_r _ [86, 1, 3, 4, 53, 54, 51, 87, 62, 21, 63, 88, 89, 90, 91, 92, 93, 94, 95, 96, 97, 98, 99, 100, 101, 102, 103, 110, 111, 112, 113, 114, 115, 116, 117] rfl (by decide +kernel)
set_option maxRecDepth 20000 in
theorem gX2_passTick_X2_countTickInside : GoodIn wsX2_passTick (wsV RX2 104 RX2 yX2_countTickInside wsX2_countTickInside) := goodIn_app (goodIn_of _ (by decide +kernel)) ggX2_passTick_X2_countTickInside
theorem dX2_passTick_0 : decode cX2_passTick 0 = .ok (.aload_n 0, 1) := by decide +kernel
theorem dX2_passTick_1 : decode cX2_passTick 1 = .ok (.getfield 12, 3) := by decide +kernel
theorem dX2_passTick_4 : decode cX2_passTick 4 = .ok (.dup, 1) := by decide +kernel
theorem dX2_passTick_5 : decode cX2_passTick 5 = .ok (.getfield 83, 3) := by decide +kernel
theorem dX2_passTick_8 : decode cX2_passTick 8 = .ok (.iconst 1, 1) := by decide +kernel
theorem dX2_passTick_9 : decode cX2_passTick 9 = .ok (.iadd, 1) := by decide +kernel
theorem dX2_passTick_10 : decode cX2_passTick 10 = .ok (.putfield 83, 3) := by decide +kernel
theorem dX2_passTick_13 : decode cX2_passTick 13 = .ok (.iconst 0, 1) := by decide +kernel
theorem dX2_passTick_14 : decode cX2_passTick 14 = .ok (.istore_n 1, 1) := by decide +kernel
theorem dX2_passTick_15 : decode cX2_passTick 15 = .ok (.iconst 0, 1) := by decide +kernel
theorem dX2_passTick_16 : decode cX2_passTick 16 = .ok (.istore_n 2, 1) := by decide +kernel
theorem dX2_passTick_17 : decode cX2_passTick 17 = .ok (.iload_n 2, 1) := by decide +kernel
theorem dX2_passTick_18 : decode cX2_passTick 18 = .ok (.aload_n 0, 1) := by decide +kernel
theorem dX2_passTick_19 : decode cX2_passTick 19 = .ok (.getfield 12, 3) := by decide +kernel
theorem dX2_passTick_22 : decode cX2_passTick 22 = .ok (.getfield 66, 3) := by decide +kernel
theorem dX2_passTick_25 : decode cX2_passTick 25 = .ok (.getfield 87, 3) := by decide +kernel
theorem dX2_passTick_28 : decode cX2_passTick 28 = .ok (.if_icmp .ge 62, 3) := by decide +kernel
theorem dX2_passTick_31 : decode cX2_passTick 31 = .ok (.aload_n 0, 1) := by decide +kernel
theorem dX2_passTick_32 : decode cX2_passTick 32 = .ok (.getfield 12, 3) := by decide +kernel
theorem dX2_passTick_35 : decode cX2_passTick 35 = .ok (.getfield 66, 3) := by decide +kernel
theorem dX2_passTick_38 : decode cX2_passTick 38 = .ok (.iload_n 2, 1) := by decide +kernel
theorem dX2_passTick_39 : decode cX2_passTick 39 = .ok (.invokevirtual 90, 3) := by decide +kernel
theorem dX2_passTick_42 : decode cX2_passTick 42 = .ok (.ifCond .eq 34, 3) := by decide +kernel
theorem dX2_passTick_45 : decode cX2_passTick 45 = .ok (.aload_n 0, 1) := by decide +kernel
theorem dX2_passTick_46 : decode cX2_passTick 46 = .ok (.getfield 12, 3) := by decide +kernel
theorem dX2_passTick_49 : decode cX2_passTick 49 = .ok (.getfield 94, 3) := by decide +kernel
theorem dX2_passTick_52 : decode cX2_passTick 52 = .ok (.iconst 2, 1) := by decide +kernel
theorem dX2_passTick_53 : decode cX2_passTick 53 = .ok (.iload_n 2, 1) := by decide +kernel
theorem dX2_passTick_54 : decode cX2_passTick 54 = .ok (.aload_n 0, 1) := by decide +kernel
theorem dX2_passTick_55 : decode cX2_passTick 55 = .ok (.getfield 12, 3) := by decide +kernel
theorem dX2_passTick_58 : decode cX2_passTick 58 = .ok (.getfield 66, 3) := by decide +kernel
theorem dX2_passTick_61 : decode cX2_passTick 61 = .ok (.getfield 75, 3) := by decide +kernel
theorem dX2_passTick_64 : decode cX2_passTick 64 = .ok (.iload_n 2, 1) := by decide +kernel
theorem dX2_passTick_65 : decode cX2_passTick 65 = .ok (.iaload, 1) := by decide +kernel
theorem dX2_passTick_66 : decode cX2_passTick 66 = .ok (.aload_n 0, 1) := by decide +kernel
theorem dX2_passTick_67 : decode cX2_passTick 67 = .ok (.getfield 12, 3) := by decide +kernel
theorem dX2_passTick_70 : decode cX2_passTick 70 = .ok (.getfield 83, 3) := by decide +kernel
theorem dX2_passTick_73 : decode cX2_passTick 73 = .ok (.invokevirtual 98, 3) := by decide +kernel
theorem dX2_passTick_76 : decode cX2_passTick 76 = .ok (.iload_n 1, 1) := by decide +kernel
theorem dX2_passTick_77 : decode cX2_passTick 77 = .ok (.aload_n 0, 1) := by decide +kernel
theorem dX2_passTick_78 : decode cX2_passTick 78 = .ok (.iload_n 2, 1) := by decide +kernel
theorem dX2_passTick_79 : decode cX2_passTick 79 = .ok (.invokevirtual 79, 3) := by decide +kernel
theorem dX2_passTick_82 : decode cX2_passTick 82 = .ok (.iadd, 1) := by decide +kernel
theorem dX2_passTick_83 : decode cX2_passTick 83 = .ok (.istore_n 1, 1) := by decide +kernel
theorem dX2_passTick_84 : decode cX2_passTick 84 = .ok (.iinc 2 1, 3) := by decide +kernel
theorem dX2_passTick_87 : decode cX2_passTick 87 = .ok (.goto (-70), 3) := by decide +kernel
theorem dX2_passTick_90 : decode cX2_passTick 90 = .ok (.aload_n 0, 1) := by decide +kernel
theorem dX2_passTick_91 : decode cX2_passTick 91 = .ok (.invokevirtual 104, 3) := by decide +kernel
theorem dX2_passTick_94 : decode cX2_passTick 94 = .ok (.iload_n 1, 1) := by decide +kernel
theorem dX2_passTick_95 : decode cX2_passTick 95 = .ok (.ireturn, 1) := by decide +kernel
set_option maxRecDepth 20000 in
theorem ggX2_countTickInside_X11_isMember : GoodIn wsX2_countTickInside wsX11_isMember := goodIn_r _ [10] rfl (by decide +kernel)
set_option maxRecDepth 20000 in
theorem gX2_countTickInside_X11_isMember_n112 : GoodIn wsX2_countTickInside (wsX11_isMember) := ggX2_countTickInside_X11_isMember
theorem dX2_countTickInside_0 : decode cX2_countTickInside 0 = .ok (.iconst 0, 1) := by decide +kernel
theorem dX2_countTickInside_1 : decode cX2_countTickInside 1 = .ok (.istore_n 1, 1) := by decide +kernel
theorem dX2_countTickInside_2 : decode cX2_countTickInside 2 = .ok (.iload_n 1, 1) := by decide +kernel
theorem dX2_countTickInside_3 : decode cX2_countTickInside 3 = .ok (.aload_n 0, 1) := by decide +kernel
theorem dX2_countTickInside_4 : decode cX2_countTickInside 4 = .ok (.getfield 12, 3) := by decide +kernel
theorem dX2_countTickInside_7 : decode cX2_countTickInside 7 = .ok (.getfield 66, 3) := by decide +kernel
theorem dX2_countTickInside_10 : decode cX2_countTickInside 10 = .ok (.getfield 87, 3) := by decide +kernel
theorem dX2_countTickInside_13 : decode cX2_countTickInside 13 = .ok (.if_icmp .ge 66, 3) := by decide +kernel
theorem dX2_countTickInside_16 : decode cX2_countTickInside 16 = .ok (.iconst 0, 1) := by decide +kernel
theorem dX2_countTickInside_17 : decode cX2_countTickInside 17 = .ok (.istore_n 2, 1) := by decide +kernel
theorem dX2_countTickInside_18 : decode cX2_countTickInside 18 = .ok (.iload_n 2, 1) := by decide +kernel
theorem dX2_countTickInside_19 : decode cX2_countTickInside 19 = .ok (.aload_n 0, 1) := by decide +kernel
theorem dX2_countTickInside_20 : decode cX2_countTickInside 20 = .ok (.getfield 12, 3) := by decide +kernel
theorem dX2_countTickInside_23 : decode cX2_countTickInside 23 = .ok (.getfield 39, 3) := by decide +kernel
theorem dX2_countTickInside_26 : decode cX2_countTickInside 26 = .ok (.getfield 107, 3) := by decide +kernel
theorem dX2_countTickInside_29 : decode cX2_countTickInside 29 = .ok (.if_icmp .ge 44, 3) := by decide +kernel
theorem dX2_countTickInside_32 : decode cX2_countTickInside 32 = .ok (.aload_n 0, 1) := by decide +kernel
theorem dX2_countTickInside_33 : decode cX2_countTickInside 33 = .ok (.getfield 12, 3) := by decide +kernel
theorem dX2_countTickInside_36 : decode cX2_countTickInside 36 = .ok (.getfield 66, 3) := by decide +kernel
theorem dX2_countTickInside_39 : decode cX2_countTickInside 39 = .ok (.getfield 108, 3) := by decide +kernel
theorem dX2_countTickInside_42 : decode cX2_countTickInside 42 = .ok (.iload_n 1, 1) := by decide +kernel
theorem dX2_countTickInside_43 : decode cX2_countTickInside 43 = .ok (.laload, 1) := by decide +kernel
theorem dX2_countTickInside_44 : decode cX2_countTickInside 44 = .ok (.iload_n 2, 1) := by decide +kernel
theorem dX2_countTickInside_45 : decode cX2_countTickInside 45 = .ok (.invokestatic 112, 3) := by decide +kernel
theorem dX2_countTickInside_48 : decode cX2_countTickInside 48 = .ok (.ifCond .eq 19, 3) := by decide +kernel
theorem dX2_countTickInside_51 : decode cX2_countTickInside 51 = .ok (.aload_n 0, 1) := by decide +kernel
theorem dX2_countTickInside_52 : decode cX2_countTickInside 52 = .ok (.getfield 12, 3) := by decide +kernel
theorem dX2_countTickInside_55 : decode cX2_countTickInside 55 = .ok (.getfield 39, 3) := by decide +kernel
theorem dX2_countTickInside_58 : decode cX2_countTickInside 58 = .ok (.getfield 116, 3) := by decide +kernel
theorem dX2_countTickInside_61 : decode cX2_countTickInside 61 = .ok (.iload_n 2, 1) := by decide +kernel
theorem dX2_countTickInside_62 : decode cX2_countTickInside 62 = .ok (.dup2, 1) := by decide +kernel
theorem dX2_countTickInside_63 : decode cX2_countTickInside 63 = .ok (.iaload, 1) := by decide +kernel
theorem dX2_countTickInside_64 : decode cX2_countTickInside 64 = .ok (.iconst 1, 1) := by decide +kernel
theorem dX2_countTickInside_65 : decode cX2_countTickInside 65 = .ok (.iadd, 1) := by decide +kernel
theorem dX2_countTickInside_66 : decode cX2_countTickInside 66 = .ok (.iastore, 1) := by decide +kernel
theorem dX2_countTickInside_67 : decode cX2_countTickInside 67 = .ok (.iinc 2 1, 3) := by decide +kernel
theorem dX2_countTickInside_70 : decode cX2_countTickInside 70 = .ok (.goto (-52), 3) := by decide +kernel
theorem dX2_countTickInside_73 : decode cX2_countTickInside 73 = .ok (.iinc 1 1, 3) := by decide +kernel
theorem dX2_countTickInside_76 : decode cX2_countTickInside 76 = .ok (.goto (-74), 3) := by decide +kernel
theorem dX2_countTickInside_79 : decode cX2_countTickInside 79 = .ok (.return_, 1) := by decide +kernel
set_option maxRecDepth 20000 in
theorem ggX2_tellAll_X2_tell : GoodIn wsX2_tellAll wsX2_tell := goodIn_r _ [8, 1, 2, 9, 10, 11, 12, 13, 14, 15, 16, 17, 18, 19, 20, 21, 22, 23, 24, 25, 26, 27, 28, 7, 29, 30, 31, 32, 33, 34, 35, 36, 37, 38, 39, 40, 41, 42, 43, 44, 45, 46, 47, 48, 49, 50, 51, 52, 53, 54, 55, 56, 57, 58, 59, 60, 61, 62, 63, 64, 65, 66, 67, 68, 69, 70, 71, 72, 73, 74, 75, 76, 77, 78, 79, 80, 81, 82, 83, 84, 85, 86, 87, 88, 89, 90, 91, 92] rfl (by decide +kernel)
set_option maxRecDepth 20000 in
theorem gX2_tellAll_X2_tell : GoodIn wsX2_tellAll (wsV RX2 79 RX2 yX2_tell wsX2_tell) := goodIn_app (goodIn_of _ (by decide +kernel)) ggX2_tellAll_X2_tell
theorem dX2_tellAll_0 : decode cX2_tellAll 0 = .ok (.iconst 0, 1) := by decide +kernel
theorem dX2_tellAll_1 : decode cX2_tellAll 1 = .ok (.istore_n 1, 1) := by decide +kernel
theorem dX2_tellAll_2 : decode cX2_tellAll 2 = .ok (.iconst 0, 1) := by decide +kernel
theorem dX2_tellAll_3 : decode cX2_tellAll 3 = .ok (.istore_n 2, 1) := by decide +kernel
theorem dX2_tellAll_4 : decode cX2_tellAll 4 = .ok (.iload_n 2, 1) := by decide +kernel
theorem dX2_tellAll_5 : decode cX2_tellAll 5 = .ok (.aload_n 0, 1) := by decide +kernel
theorem dX2_tellAll_6 : decode cX2_tellAll 6 = .ok (.getfield 12, 3) := by decide +kernel
theorem dX2_tellAll_9 : decode cX2_tellAll 9 = .ok (.getfield 66, 3) := by decide +kernel
theorem dX2_tellAll_12 : decode cX2_tellAll 12 = .ok (.getfield 87, 3) := by decide +kernel
theorem dX2_tellAll_15 : decode cX2_tellAll 15 = .ok (.if_icmp .ge 17, 3) := by decide +kernel
theorem dX2_tellAll_18 : decode cX2_tellAll 18 = .ok (.iload_n 1, 1) := by decide +kernel
theorem dX2_tellAll_19 : decode cX2_tellAll 19 = .ok (.aload_n 0, 1) := by decide +kernel
theorem dX2_tellAll_20 : decode cX2_tellAll 20 = .ok (.iload_n 2, 1) := by decide +kernel
theorem dX2_tellAll_21 : decode cX2_tellAll 21 = .ok (.invokevirtual 79, 3) := by decide +kernel
theorem dX2_tellAll_24 : decode cX2_tellAll 24 = .ok (.iadd, 1) := by decide +kernel
theorem dX2_tellAll_25 : decode cX2_tellAll 25 = .ok (.istore_n 1, 1) := by decide +kernel
theorem dX2_tellAll_26 : decode cX2_tellAll 26 = .ok (.iinc 2 1, 3) := by decide +kernel
theorem dX2_tellAll_29 : decode cX2_tellAll 29 = .ok (.goto (-25), 3) := by decide +kernel
theorem dX2_tellAll_32 : decode cX2_tellAll 32 = .ok (.iload_n 1, 1) := by decide +kernel
theorem dX2_tellAll_33 : decode cX2_tellAll 33 = .ok (.ireturn, 1) := by decide +kernel
set_option maxRecDepth 20000 in
theorem ggX2_tell_X0_over : GoodIn wsX2_tell wsX0_over := goodIn_r _ [13, 14, 15, 16, 17, 81] rfl (by decide +kernel)
set_option maxRecDepth 20000 in
theorem gX2_tell_X0_over : GoodIn wsX2_tell (wsV RX2 119 RX0 yX0_over wsX0_over) := goodIn_app (goodIn_of _ (by decide +kernel)) ggX2_tell_X0_over
set_option maxRecDepth 20000 in
theorem ggX2_tell_X11_isMember : GoodIn wsX2_tell wsX11_isMember := goodIn_r _ [19] rfl (by decide +kernel)
set_option maxRecDepth 20000 in
theorem gX2_tell_X11_isMember_n112 : GoodIn wsX2_tell (wsX11_isMember) := ggX2_tell_X11_isMember
set_option maxRecDepth 20000 in
theorem ggX2_tell_X2_tellLeft : GoodIn wsX2_tell wsX2_tellLeft := goodIn_r _ [24, 1, 2, 25, 26, 27, 28, 29, 30, 31, 32, 33, 34, 35, 36, 37, 38, 39, 40, 41, 42, 57, 58, 59, 60, 61, 62, 63, 64, 65, 66, 67, 68, 69, 70, 71, 72, 82, 83, 84, 85, 86, 87] rfl (by decide +kernel)
set_option maxRecDepth 20000 in
theorem gX2_tell_X2_tellLeft : GoodIn wsX2_tell (wsV RX2 125 RX2 yX2_tellLeft wsX2_tellLeft) := goodIn_app (goodIn_of _ (by decide +kernel)) ggX2_tell_X2_tellLeft
set_option maxRecDepth 20000 in
theorem ggX2_tell_X2_tellEntered : GoodIn wsX2_tell wsX2_tellEntered := goodIn_r _ [46, 1, 2, 47, 48, 27, 6, 49, 26, 28, 29, 30, 31, 32, 33, 34, 35, 36, 37, 38, 39, 40, 41, 42, 57, 58, 59, 60, 61, 62, 63, 64, 65, 66, 67, 68, 69, 70, 71, 72, 73, 74, 75, 76, 77, 78, 79, 80, 82, 83, 84, 85, 86, 87] rfl (by decide +kernel)
set_option maxRecDepth 20000 in
theorem gX2_tell_X2_tellEntered : GoodIn wsX2_tell (wsV RX2 128 RX2 yX2_tellEntered wsX2_tellEntered) := goodIn_app (goodIn_of _ (by decide +kernel)) ggX2_tell_X2_tellEntered
set_option maxRecDepth 20000 in
theorem ggX2_tell_J13_bitCount_95d88 : GoodIn wsX2_tell wsJ13_bitCount_95d88 := goodIn_r _ [53, 54, 55, 56] rfl (by decide +kernel)
set_option maxRecDepth 20000 in
theorem gX2_tell_J13_bitCount_95d88 : GoodIn wsX2_tell (va_wsS RX2 131 yJ13_bitCount_95d88 wsJ13_bitCount_95d88) := goodIn_app (goodIn_of _ (by decide +kernel)) ggX2_tell_J13_bitCount_95d88
theorem dX2_tell_0 : decode cX2_tell 0 = .ok (.aload_n 0, 1) := by decide +kernel
theorem dX2_tell_1 : decode cX2_tell 1 = .ok (.getfield 12, 3) := by decide +kernel
theorem dX2_tell_4 : decode cX2_tell 4 = .ok (.getfield 66, 3) := by decide +kernel
theorem dX2_tell_7 : decode cX2_tell 7 = .ok (.getfield 108, 3) := by decide +kernel
theorem dX2_tell_10 : decode cX2_tell 10 = .ok (.iload_n 1, 1) := by decide +kernel
theorem dX2_tell_11 : decode cX2_tell 11 = .ok (.laload, 1) := by decide +kernel
theorem dX2_tell_12 : decode cX2_tell 12 = .ok (.lstore_n 2, 1) := by decide +kernel
theorem dX2_tell_13 : decode cX2_tell 13 = .ok (.aload_n 0, 1) := by decide +kernel
theorem dX2_tell_14 : decode cX2_tell 14 = .ok (.getfield 21, 3) := by decide +kernel
theorem dX2_tell_17 : decode cX2_tell 17 = .ok (.aload_n 0, 1) := by decide +kernel
theorem dX2_tell_18 : decode cX2_tell 18 = .ok (.getfield 12, 3) := by decide +kernel
theorem dX2_tell_21 : decode cX2_tell 21 = .ok (.getfield 66, 3) := by decide +kernel
theorem dX2_tell_24 : decode cX2_tell 24 = .ok (.getfield 75, 3) := by decide +kernel
theorem dX2_tell_27 : decode cX2_tell 27 = .ok (.iload_n 1, 1) := by decide +kernel
theorem dX2_tell_28 : decode cX2_tell 28 = .ok (.iaload, 1) := by decide +kernel
theorem dX2_tell_29 : decode cX2_tell 29 = .ok (.invokevirtual 119, 3) := by decide +kernel
theorem dX2_tell_32 : decode cX2_tell 32 = .ok (.lstore 4, 2) := by decide +kernel
theorem dX2_tell_34 : decode cX2_tell 34 = .ok (.lload_n 2, 1) := by decide +kernel
theorem dX2_tell_35 : decode cX2_tell 35 = .ok (.lload 4, 2) := by decide +kernel
theorem dX2_tell_37 : decode cX2_tell 37 = .ok (.lcmp, 1) := by decide +kernel
theorem dX2_tell_38 : decode cX2_tell 38 = .ok (.ifCond .ne 5, 3) := by decide +kernel
theorem dX2_tell_41 : decode cX2_tell 41 = .ok (.iconst 0, 1) := by decide +kernel
theorem dX2_tell_42 : decode cX2_tell 42 = .ok (.ireturn, 1) := by decide +kernel
theorem dX2_tell_43 : decode cX2_tell 43 = .ok (.iconst 0, 1) := by decide +kernel
theorem dX2_tell_44 : decode cX2_tell 44 = .ok (.istore 6, 2) := by decide +kernel
theorem dX2_tell_46 : decode cX2_tell 46 = .ok (.iload 6, 2) := by decide +kernel
theorem dX2_tell_48 : decode cX2_tell 48 = .ok (.aload_n 0, 1) := by decide +kernel
theorem dX2_tell_49 : decode cX2_tell 49 = .ok (.getfield 12, 3) := by decide +kernel
theorem dX2_tell_52 : decode cX2_tell 52 = .ok (.getfield 39, 3) := by decide +kernel
theorem dX2_tell_55 : decode cX2_tell 55 = .ok (.getfield 107, 3) := by decide +kernel
theorem dX2_tell_58 : decode cX2_tell 58 = .ok (.if_icmp .ge 32, 3) := by decide +kernel
theorem dX2_tell_61 : decode cX2_tell 61 = .ok (.lload_n 2, 1) := by decide +kernel
theorem dX2_tell_62 : decode cX2_tell 62 = .ok (.lload 4, 2) := by decide +kernel
theorem dX2_tell_64 : decode cX2_tell 64 = .ok (.ldc2_w 123, 3) := by decide +kernel
theorem dX2_tell_67 : decode cX2_tell 67 = .ok (.lxor, 1) := by decide +kernel
theorem dX2_tell_68 : decode cX2_tell 68 = .ok (.land, 1) := by decide +kernel
theorem dX2_tell_69 : decode cX2_tell 69 = .ok (.iload 6, 2) := by decide +kernel
theorem dX2_tell_71 : decode cX2_tell 71 = .ok (.invokestatic 112, 3) := by decide +kernel
theorem dX2_tell_74 : decode cX2_tell 74 = .ok (.ifCond .eq 10, 3) := by decide +kernel
theorem dX2_tell_77 : decode cX2_tell 77 = .ok (.aload_n 0, 1) := by decide +kernel
theorem dX2_tell_78 : decode cX2_tell 78 = .ok (.iload_n 1, 1) := by decide +kernel
theorem dX2_tell_79 : decode cX2_tell 79 = .ok (.iload 6, 2) := by decide +kernel
theorem dX2_tell_81 : decode cX2_tell 81 = .ok (.invokevirtual 125, 3) := by decide +kernel
theorem dX2_tell_84 : decode cX2_tell 84 = .ok (.iinc 6 1, 3) := by decide +kernel
theorem dX2_tell_87 : decode cX2_tell 87 = .ok (.goto (-41), 3) := by decide +kernel
theorem dX2_tell_90 : decode cX2_tell 90 = .ok (.iconst 0, 1) := by decide +kernel
theorem dX2_tell_91 : decode cX2_tell 91 = .ok (.istore 6, 2) := by decide +kernel
theorem dX2_tell_93 : decode cX2_tell 93 = .ok (.iload 6, 2) := by decide +kernel
theorem dX2_tell_95 : decode cX2_tell 95 = .ok (.aload_n 0, 1) := by decide +kernel
theorem dX2_tell_96 : decode cX2_tell 96 = .ok (.getfield 12, 3) := by decide +kernel
theorem dX2_tell_99 : decode cX2_tell 99 = .ok (.getfield 39, 3) := by decide +kernel
theorem dX2_tell_102 : decode cX2_tell 102 = .ok (.getfield 107, 3) := by decide +kernel
theorem dX2_tell_105 : decode cX2_tell 105 = .ok (.if_icmp .ge 32, 3) := by decide +kernel
theorem dX2_tell_108 : decode cX2_tell 108 = .ok (.lload 4, 2) := by decide +kernel
theorem dX2_tell_110 : decode cX2_tell 110 = .ok (.lload_n 2, 1) := by decide +kernel
theorem dX2_tell_111 : decode cX2_tell 111 = .ok (.ldc2_w 123, 3) := by decide +kernel
theorem dX2_tell_114 : decode cX2_tell 114 = .ok (.lxor, 1) := by decide +kernel
theorem dX2_tell_115 : decode cX2_tell 115 = .ok (.land, 1) := by decide +kernel
theorem dX2_tell_116 : decode cX2_tell 116 = .ok (.iload 6, 2) := by decide +kernel
theorem dX2_tell_118 : decode cX2_tell 118 = .ok (.invokestatic 112, 3) := by decide +kernel
theorem dX2_tell_121 : decode cX2_tell 121 = .ok (.ifCond .eq 10, 3) := by decide +kernel
theorem dX2_tell_124 : decode cX2_tell 124 = .ok (.aload_n 0, 1) := by decide +kernel
theorem dX2_tell_125 : decode cX2_tell 125 = .ok (.iload_n 1, 1) := by decide +kernel
theorem dX2_tell_126 : decode cX2_tell 126 = .ok (.iload 6, 2) := by decide +kernel
theorem dX2_tell_128 : decode cX2_tell 128 = .ok (.invokevirtual 128, 3) := by decide +kernel
theorem dX2_tell_131 : decode cX2_tell 131 = .ok (.iinc 6 1, 3) := by decide +kernel
theorem dX2_tell_134 : decode cX2_tell 134 = .ok (.goto (-41), 3) := by decide +kernel
theorem dX2_tell_137 : decode cX2_tell 137 = .ok (.aload_n 0, 1) := by decide +kernel
theorem dX2_tell_138 : decode cX2_tell 138 = .ok (.getfield 12, 3) := by decide +kernel
theorem dX2_tell_141 : decode cX2_tell 141 = .ok (.getfield 66, 3) := by decide +kernel
theorem dX2_tell_144 : decode cX2_tell 144 = .ok (.getfield 108, 3) := by decide +kernel
theorem dX2_tell_147 : decode cX2_tell 147 = .ok (.iload_n 1, 1) := by decide +kernel
theorem dX2_tell_148 : decode cX2_tell 148 = .ok (.lload 4, 2) := by decide +kernel
theorem dX2_tell_150 : decode cX2_tell 150 = .ok (.lastore, 1) := by decide +kernel
theorem dX2_tell_151 : decode cX2_tell 151 = .ok (.lload_n 2, 1) := by decide +kernel
theorem dX2_tell_152 : decode cX2_tell 152 = .ok (.lload 4, 2) := by decide +kernel
theorem dX2_tell_154 : decode cX2_tell 154 = .ok (.lxor, 1) := by decide +kernel
theorem dX2_tell_155 : decode cX2_tell 155 = .ok (.invokestatic 131, 3) := by decide +kernel
theorem dX2_tell_158 : decode cX2_tell 158 = .ok (.ireturn, 1) := by decide +kernel
set_option maxRecDepth 20000 in
theorem ggX2_tellLeft_X3_write : GoodIn wsX2_tellLeft wsX3_write := goodIn_r _ [10, 11, 12, 13, 14, 15, 16, 17, 18, 19, 20, 37, 38, 39, 40, 41, 42] rfl (by decide +kernel)
set_option maxRecDepth 20000 in
theorem gX2_tellLeft_X3_write : GoodIn wsX2_tellLeft (wsV RX2 98 RX3 yX3_write wsX3_write) := goodIn_app (goodIn_of _ (by decide +kernel)) ggX2_tellLeft_X3_write
theorem dX2_tellLeft_0 : decode cX2_tellLeft 0 = .ok (.aload_n 0, 1) := by decide +kernel
theorem dX2_tellLeft_1 : decode cX2_tellLeft 1 = .ok (.getfield 12, 3) := by decide +kernel
theorem dX2_tellLeft_4 : decode cX2_tellLeft 4 = .ok (.getfield 66, 3) := by decide +kernel
theorem dX2_tellLeft_7 : decode cX2_tellLeft 7 = .ok (.getfield 137, 3) := by decide +kernel
theorem dX2_tellLeft_10 : decode cX2_tellLeft 10 = .ok (.iload_n 1, 1) := by decide +kernel
theorem dX2_tellLeft_11 : decode cX2_tellLeft 11 = .ok (.dup2, 1) := by decide +kernel
theorem dX2_tellLeft_12 : decode cX2_tellLeft 12 = .ok (.iaload, 1) := by decide +kernel
theorem dX2_tellLeft_13 : decode cX2_tellLeft 13 = .ok (.iconst 1, 1) := by decide +kernel
theorem dX2_tellLeft_14 : decode cX2_tellLeft 14 = .ok (.iadd, 1) := by decide +kernel
theorem dX2_tellLeft_15 : decode cX2_tellLeft 15 = .ok (.iastore, 1) := by decide +kernel
theorem dX2_tellLeft_16 : decode cX2_tellLeft 16 = .ok (.aload_n 0, 1) := by decide +kernel
theorem dX2_tellLeft_17 : decode cX2_tellLeft 17 = .ok (.getfield 12, 3) := by decide +kernel
theorem dX2_tellLeft_20 : decode cX2_tellLeft 20 = .ok (.getfield 94, 3) := by decide +kernel
theorem dX2_tellLeft_23 : decode cX2_tellLeft 23 = .ok (.iconst 1, 1) := by decide +kernel
theorem dX2_tellLeft_24 : decode cX2_tellLeft 24 = .ok (.iload_n 1, 1) := by decide +kernel
theorem dX2_tellLeft_25 : decode cX2_tellLeft 25 = .ok (.iload_n 2, 1) := by decide +kernel
theorem dX2_tellLeft_26 : decode cX2_tellLeft 26 = .ok (.aload_n 0, 1) := by decide +kernel
theorem dX2_tellLeft_27 : decode cX2_tellLeft 27 = .ok (.getfield 12, 3) := by decide +kernel
theorem dX2_tellLeft_30 : decode cX2_tellLeft 30 = .ok (.getfield 83, 3) := by decide +kernel
theorem dX2_tellLeft_33 : decode cX2_tellLeft 33 = .ok (.invokevirtual 98, 3) := by decide +kernel
theorem dX2_tellLeft_36 : decode cX2_tellLeft 36 = .ok (.return_, 1) := by decide +kernel
set_option maxRecDepth 20000 in
theorem ggX2_tellEntered_X3_write : GoodIn wsX2_tellEntered wsX3_write := goodIn_r _ [13, 14, 15, 16, 17, 18, 19, 20, 21, 22, 23, 48, 49, 50, 51, 52, 53] rfl (by decide +kernel)
set_option maxRecDepth 20000 in
theorem gX2_tellEntered_X3_write : GoodIn wsX2_tellEntered (wsV RX2 98 RX3 yX3_write wsX3_write) := goodIn_app (goodIn_of _ (by decide +kernel)) ggX2_tellEntered_X3_write
theorem dX2_tellEntered_0 : decode cX2_tellEntered 0 = .ok (.aload_n 0, 1) := by decide +kernel
theorem dX2_tellEntered_1 : decode cX2_tellEntered 1 = .ok (.getfield 12, 3) := by decide +kernel
theorem dX2_tellEntered_4 : decode cX2_tellEntered 4 = .ok (.getfield 66, 3) := by decide +kernel
theorem dX2_tellEntered_7 : decode cX2_tellEntered 7 = .ok (.getfield 140, 3) := by decide +kernel
theorem dX2_tellEntered_10 : decode cX2_tellEntered 10 = .ok (.iload_n 1, 1) := by decide +kernel
theorem dX2_tellEntered_11 : decode cX2_tellEntered 11 = .ok (.dup2, 1) := by decide +kernel
theorem dX2_tellEntered_12 : decode cX2_tellEntered 12 = .ok (.iaload, 1) := by decide +kernel
theorem dX2_tellEntered_13 : decode cX2_tellEntered 13 = .ok (.iconst 1, 1) := by decide +kernel
theorem dX2_tellEntered_14 : decode cX2_tellEntered 14 = .ok (.iadd, 1) := by decide +kernel
theorem dX2_tellEntered_15 : decode cX2_tellEntered 15 = .ok (.iastore, 1) := by decide +kernel
theorem dX2_tellEntered_16 : decode cX2_tellEntered 16 = .ok (.aload_n 0, 1) := by decide +kernel
theorem dX2_tellEntered_17 : decode cX2_tellEntered 17 = .ok (.getfield 12, 3) := by decide +kernel
theorem dX2_tellEntered_20 : decode cX2_tellEntered 20 = .ok (.getfield 66, 3) := by decide +kernel
theorem dX2_tellEntered_23 : decode cX2_tellEntered 23 = .ok (.getfield 143, 3) := by decide +kernel
theorem dX2_tellEntered_26 : decode cX2_tellEntered 26 = .ok (.iload_n 1, 1) := by decide +kernel
theorem dX2_tellEntered_27 : decode cX2_tellEntered 27 = .ok (.aaload, 1) := by decide +kernel
theorem dX2_tellEntered_28 : decode cX2_tellEntered 28 = .ok (.iload_n 2, 1) := by decide +kernel
theorem dX2_tellEntered_29 : decode cX2_tellEntered 29 = .ok (.aload_n 0, 1) := by decide +kernel
theorem dX2_tellEntered_30 : decode cX2_tellEntered 30 = .ok (.getfield 12, 3) := by decide +kernel
theorem dX2_tellEntered_33 : decode cX2_tellEntered 33 = .ok (.getfield 83, 3) := by decide +kernel
theorem dX2_tellEntered_36 : decode cX2_tellEntered 36 = .ok (.iastore, 1) := by decide +kernel
theorem dX2_tellEntered_37 : decode cX2_tellEntered 37 = .ok (.aload_n 0, 1) := by decide +kernel
theorem dX2_tellEntered_38 : decode cX2_tellEntered 38 = .ok (.getfield 12, 3) := by decide +kernel
theorem dX2_tellEntered_41 : decode cX2_tellEntered 41 = .ok (.getfield 39, 3) := by decide +kernel
theorem dX2_tellEntered_44 : decode cX2_tellEntered 44 = .ok (.getfield 147, 3) := by decide +kernel
theorem dX2_tellEntered_47 : decode cX2_tellEntered 47 = .ok (.iload_n 2, 1) := by decide +kernel
theorem dX2_tellEntered_48 : decode cX2_tellEntered 48 = .ok (.dup2, 1) := by decide +kernel
theorem dX2_tellEntered_49 : decode cX2_tellEntered 49 = .ok (.iaload, 1) := by decide +kernel
theorem dX2_tellEntered_50 : decode cX2_tellEntered 50 = .ok (.iconst 1, 1) := by decide +kernel
theorem dX2_tellEntered_51 : decode cX2_tellEntered 51 = .ok (.iadd, 1) := by decide +kernel
theorem dX2_tellEntered_52 : decode cX2_tellEntered 52 = .ok (.iastore, 1) := by decide +kernel
theorem dX2_tellEntered_53 : decode cX2_tellEntered 53 = .ok (.aload_n 0, 1) := by decide +kernel
theorem dX2_tellEntered_54 : decode cX2_tellEntered 54 = .ok (.getfield 12, 3) := by decide +kernel
theorem dX2_tellEntered_57 : decode cX2_tellEntered 57 = .ok (.getfield 94, 3) := by decide +kernel
theorem dX2_tellEntered_60 : decode cX2_tellEntered 60 = .ok (.iconst 0, 1) := by decide +kernel
theorem dX2_tellEntered_61 : decode cX2_tellEntered 61 = .ok (.iload_n 1, 1) := by decide +kernel
theorem dX2_tellEntered_62 : decode cX2_tellEntered 62 = .ok (.iload_n 2, 1) := by decide +kernel
theorem dX2_tellEntered_63 : decode cX2_tellEntered 63 = .ok (.aload_n 0, 1) := by decide +kernel
theorem dX2_tellEntered_64 : decode cX2_tellEntered 64 = .ok (.getfield 12, 3) := by decide +kernel
theorem dX2_tellEntered_67 : decode cX2_tellEntered 67 = .ok (.getfield 83, 3) := by decide +kernel
theorem dX2_tellEntered_70 : decode cX2_tellEntered 70 = .ok (.invokevirtual 98, 3) := by decide +kernel
theorem dX2_tellEntered_73 : decode cX2_tellEntered 73 = .ok (.return_, 1) := by decide +kernel
set_option maxRecDepth 20000 in
theorem ggX2_ticksToChange_X0_over : GoodIn wsX2_ticksToChange wsX0_over := goodIn_r _ [10, 11, 12, 13, 14, 39] rfl (by decide +kernel)
set_option maxRecDepth 20000 in
theorem gX2_ticksToChange_X0_over : GoodIn wsX2_ticksToChange (wsV RX2 119 RX0 yX0_over wsX0_over) := goodIn_app (goodIn_of _ (by decide +kernel)) ggX2_ticksToChange_X0_over
set_option maxRecDepth 20000 in
theorem ggX2_ticksToChange_X11_nextPlace : GoodIn wsX2_ticksToChange wsX11_nextPlace := goodIn_r _ [16] rfl (by decide +kernel)
set_option maxRecDepth 20000 in
theorem gX2_ticksToChange_X11_nextPlace_n153 : GoodIn wsX2_ticksToChange (wsX11_nextPlace) := ggX2_ticksToChange_X11_nextPlace
set_option maxRecDepth 20000 in
theorem ggX2_ticksToChange_X11_nextSpeed : GoodIn wsX2_ticksToChange wsX11_nextSpeed := goodIn_r _ [18, 19, 20, 13, 21, 22, 12, 14] rfl (by decide +kernel)
set_option maxRecDepth 20000 in
theorem gX2_ticksToChange_X11_nextSpeed_n156 : GoodIn wsX2_ticksToChange (wsX11_nextSpeed) := ggX2_ticksToChange_X11_nextSpeed
theorem dX2_ticksToChange_0 : decode cX2_ticksToChange 0 = .ok (.aload_n 0, 1) := by decide +kernel
theorem dX2_ticksToChange_1 : decode cX2_ticksToChange 1 = .ok (.getfield 12, 3) := by decide +kernel
theorem dX2_ticksToChange_4 : decode cX2_ticksToChange 4 = .ok (.getfield 66, 3) := by decide +kernel
theorem dX2_ticksToChange_7 : decode cX2_ticksToChange 7 = .ok (.getfield 75, 3) := by decide +kernel
theorem dX2_ticksToChange_10 : decode cX2_ticksToChange 10 = .ok (.iload_n 1, 1) := by decide +kernel
theorem dX2_ticksToChange_11 : decode cX2_ticksToChange 11 = .ok (.iaload, 1) := by decide +kernel
theorem dX2_ticksToChange_12 : decode cX2_ticksToChange 12 = .ok (.istore_n 2, 1) := by decide +kernel
theorem dX2_ticksToChange_13 : decode cX2_ticksToChange 13 = .ok (.aload_n 0, 1) := by decide +kernel
theorem dX2_ticksToChange_14 : decode cX2_ticksToChange 14 = .ok (.getfield 12, 3) := by decide +kernel
theorem dX2_ticksToChange_17 : decode cX2_ticksToChange 17 = .ok (.getfield 66, 3) := by decide +kernel
theorem dX2_ticksToChange_20 : decode cX2_ticksToChange 20 = .ok (.getfield 150, 3) := by decide +kernel
theorem dX2_ticksToChange_23 : decode cX2_ticksToChange 23 = .ok (.iload_n 1, 1) := by decide +kernel
theorem dX2_ticksToChange_24 : decode cX2_ticksToChange 24 = .ok (.iaload, 1) := by decide +kernel
theorem dX2_ticksToChange_25 : decode cX2_ticksToChange 25 = .ok (.istore_n 3, 1) := by decide +kernel
theorem dX2_ticksToChange_26 : decode cX2_ticksToChange 26 = .ok (.aload_n 0, 1) := by decide +kernel
theorem dX2_ticksToChange_27 : decode cX2_ticksToChange 27 = .ok (.getfield 21, 3) := by decide +kernel
theorem dX2_ticksToChange_30 : decode cX2_ticksToChange 30 = .ok (.iload_n 2, 1) := by decide +kernel
theorem dX2_ticksToChange_31 : decode cX2_ticksToChange 31 = .ok (.invokevirtual 119, 3) := by decide +kernel
theorem dX2_ticksToChange_34 : decode cX2_ticksToChange 34 = .ok (.lstore 4, 2) := by decide +kernel
theorem dX2_ticksToChange_36 : decode cX2_ticksToChange 36 = .ok (.iconst 1, 1) := by decide +kernel
theorem dX2_ticksToChange_37 : decode cX2_ticksToChange 37 = .ok (.istore 6, 2) := by decide +kernel
theorem dX2_ticksToChange_39 : decode cX2_ticksToChange 39 = .ok (.iload 6, 2) := by decide +kernel
theorem dX2_ticksToChange_41 : decode cX2_ticksToChange 41 = .ok (.sipush 200, 3) := by decide +kernel
theorem dX2_ticksToChange_44 : decode cX2_ticksToChange 44 = .ok (.if_icmp .gt 43, 3) := by decide +kernel
theorem dX2_ticksToChange_47 : decode cX2_ticksToChange 47 = .ok (.iload_n 2, 1) := by decide +kernel
theorem dX2_ticksToChange_48 : decode cX2_ticksToChange 48 = .ok (.istore 7, 2) := by decide +kernel
theorem dX2_ticksToChange_50 : decode cX2_ticksToChange 50 = .ok (.iload 7, 2) := by decide +kernel
theorem dX2_ticksToChange_52 : decode cX2_ticksToChange 52 = .ok (.iload_n 3, 1) := by decide +kernel
theorem dX2_ticksToChange_53 : decode cX2_ticksToChange 53 = .ok (.invokestatic 153, 3) := by decide +kernel
theorem dX2_ticksToChange_56 : decode cX2_ticksToChange 56 = .ok (.istore_n 2, 1) := by decide +kernel
theorem dX2_ticksToChange_57 : decode cX2_ticksToChange 57 = .ok (.iload 7, 2) := by decide +kernel
theorem dX2_ticksToChange_59 : decode cX2_ticksToChange 59 = .ok (.iload_n 3, 1) := by decide +kernel
theorem dX2_ticksToChange_60 : decode cX2_ticksToChange 60 = .ok (.invokestatic 156, 3) := by decide +kernel
theorem dX2_ticksToChange_63 : decode cX2_ticksToChange 63 = .ok (.istore_n 3, 1) := by decide +kernel
theorem dX2_ticksToChange_64 : decode cX2_ticksToChange 64 = .ok (.aload_n 0, 1) := by decide +kernel
theorem dX2_ticksToChange_65 : decode cX2_ticksToChange 65 = .ok (.getfield 21, 3) := by decide +kernel
theorem dX2_ticksToChange_68 : decode cX2_ticksToChange 68 = .ok (.iload_n 2, 1) := by decide +kernel
theorem dX2_ticksToChange_69 : decode cX2_ticksToChange 69 = .ok (.invokevirtual 119, 3) := by decide +kernel
theorem dX2_ticksToChange_72 : decode cX2_ticksToChange 72 = .ok (.lload 4, 2) := by decide +kernel
theorem dX2_ticksToChange_74 : decode cX2_ticksToChange 74 = .ok (.lcmp, 1) := by decide +kernel
theorem dX2_ticksToChange_75 : decode cX2_ticksToChange 75 = .ok (.ifCond .eq 6, 3) := by decide +kernel
theorem dX2_ticksToChange_78 : decode cX2_ticksToChange 78 = .ok (.iload 6, 2) := by decide +kernel
theorem dX2_ticksToChange_80 : decode cX2_ticksToChange 80 = .ok (.ireturn, 1) := by decide +kernel
theorem dX2_ticksToChange_81 : decode cX2_ticksToChange 81 = .ok (.iinc 6 1, 3) := by decide +kernel
theorem dX2_ticksToChange_84 : decode cX2_ticksToChange 84 = .ok (.goto (-45), 3) := by decide +kernel
theorem dX2_ticksToChange_87 : decode cX2_ticksToChange 87 = .ok (.bipush (-5), 2) := by decide +kernel
theorem dX2_ticksToChange_89 : decode cX2_ticksToChange 89 = .ok (.ireturn, 1) := by decide +kernel
theorem dX3_init_0 : decode cX3_init 0 = .ok (.aload_n 0, 1) := by decide +kernel
theorem dX3_init_1 : decode cX3_init 1 = .ok (.invokespecial 3, 3) := by decide +kernel
theorem dX3_init_4 : decode cX3_init 4 = .ok (.aload_n 0, 1) := by decide +kernel
theorem dX3_init_5 : decode cX3_init 5 = .ok (.bipush 12, 2) := by decide +kernel
theorem dX3_init_7 : decode cX3_init 7 = .ok (.newarray .int, 2) := by decide +kernel
theorem dX3_init_9 : decode cX3_init 9 = .ok (.putfield 9, 3) := by decide +kernel
theorem dX3_init_12 : decode cX3_init 12 = .ok (.aload_n 0, 1) := by decide +kernel
theorem dX3_init_13 : decode cX3_init 13 = .ok (.bipush 12, 2) := by decide +kernel
theorem dX3_init_15 : decode cX3_init 15 = .ok (.newarray .int, 2) := by decide +kernel
theorem dX3_init_17 : decode cX3_init 17 = .ok (.putfield 15, 3) := by decide +kernel
theorem dX3_init_20 : decode cX3_init 20 = .ok (.aload_n 0, 1) := by decide +kernel
theorem dX3_init_21 : decode cX3_init 21 = .ok (.bipush 12, 2) := by decide +kernel
theorem dX3_init_23 : decode cX3_init 23 = .ok (.newarray .int, 2) := by decide +kernel
theorem dX3_init_25 : decode cX3_init 25 = .ok (.putfield 18, 3) := by decide +kernel
theorem dX3_init_28 : decode cX3_init 28 = .ok (.aload_n 0, 1) := by decide +kernel
theorem dX3_init_29 : decode cX3_init 29 = .ok (.bipush 12, 2) := by decide +kernel
theorem dX3_init_31 : decode cX3_init 31 = .ok (.newarray .int, 2) := by decide +kernel
theorem dX3_init_33 : decode cX3_init 33 = .ok (.putfield 21, 3) := by decide +kernel
theorem dX3_init_36 : decode cX3_init 36 = .ok (.return_, 1) := by decide +kernel
set_option maxRecDepth 20000 in
theorem ggX3_write_J9_floorMod_7cf53 : GoodIn wsX3_write wsJ9_floorMod_7cf53 := goodIn_r _ [10] rfl (by decide +kernel)
set_option maxRecDepth 20000 in
theorem gX3_write_J9_floorMod_7cf53 : GoodIn wsX3_write (va_wsS RX3 28 yJ9_floorMod_7cf53 wsJ9_floorMod_7cf53) := goodIn_app (goodIn_of _ (by decide +kernel)) ggX3_write_J9_floorMod_7cf53
theorem dX3_write_0 : decode cX3_write 0 = .ok (.aload_n 0, 1) := by decide +kernel
theorem dX3_write_1 : decode cX3_write 1 = .ok (.aload_n 0, 1) := by decide +kernel
theorem dX3_write_2 : decode cX3_write 2 = .ok (.getfield 24, 3) := by decide +kernel
theorem dX3_write_5 : decode cX3_write 5 = .ok (.iconst 1, 1) := by decide +kernel
theorem dX3_write_6 : decode cX3_write 6 = .ok (.iadd, 1) := by decide +kernel
theorem dX3_write_7 : decode cX3_write 7 = .ok (.bipush 12, 2) := by decide +kernel
theorem dX3_write_9 : decode cX3_write 9 = .ok (.invokestatic 28, 3) := by decide +kernel
theorem dX3_write_12 : decode cX3_write 12 = .ok (.putfield 24, 3) := by decide +kernel
theorem dX3_write_15 : decode cX3_write 15 = .ok (.aload_n 0, 1) := by decide +kernel
theorem dX3_write_16 : decode cX3_write 16 = .ok (.getfield 9, 3) := by decide +kernel
theorem dX3_write_19 : decode cX3_write 19 = .ok (.aload_n 0, 1) := by decide +kernel
theorem dX3_write_20 : decode cX3_write 20 = .ok (.getfield 24, 3) := by decide +kernel
theorem dX3_write_23 : decode cX3_write 23 = .ok (.iload_n 1, 1) := by decide +kernel
theorem dX3_write_24 : decode cX3_write 24 = .ok (.iastore, 1) := by decide +kernel
theorem dX3_write_25 : decode cX3_write 25 = .ok (.aload_n 0, 1) := by decide +kernel
theorem dX3_write_26 : decode cX3_write 26 = .ok (.getfield 15, 3) := by decide +kernel
theorem dX3_write_29 : decode cX3_write 29 = .ok (.aload_n 0, 1) := by decide +kernel
theorem dX3_write_30 : decode cX3_write 30 = .ok (.getfield 24, 3) := by decide +kernel
theorem dX3_write_33 : decode cX3_write 33 = .ok (.iload_n 2, 1) := by decide +kernel
theorem dX3_write_34 : decode cX3_write 34 = .ok (.iastore, 1) := by decide +kernel
theorem dX3_write_35 : decode cX3_write 35 = .ok (.aload_n 0, 1) := by decide +kernel
theorem dX3_write_36 : decode cX3_write 36 = .ok (.getfield 18, 3) := by decide +kernel
theorem dX3_write_39 : decode cX3_write 39 = .ok (.aload_n 0, 1) := by decide +kernel
theorem dX3_write_40 : decode cX3_write 40 = .ok (.getfield 24, 3) := by decide +kernel
theorem dX3_write_43 : decode cX3_write 43 = .ok (.iload_n 3, 1) := by decide +kernel
theorem dX3_write_44 : decode cX3_write 44 = .ok (.iastore, 1) := by decide +kernel
theorem dX3_write_45 : decode cX3_write 45 = .ok (.aload_n 0, 1) := by decide +kernel
theorem dX3_write_46 : decode cX3_write 46 = .ok (.getfield 21, 3) := by decide +kernel
theorem dX3_write_49 : decode cX3_write 49 = .ok (.aload_n 0, 1) := by decide +kernel
theorem dX3_write_50 : decode cX3_write 50 = .ok (.getfield 24, 3) := by decide +kernel
theorem dX3_write_53 : decode cX3_write 53 = .ok (.iload 4, 2) := by decide +kernel
theorem dX3_write_55 : decode cX3_write 55 = .ok (.iastore, 1) := by decide +kernel
theorem dX3_write_56 : decode cX3_write 56 = .ok (.aload_n 0, 1) := by decide +kernel
theorem dX3_write_57 : decode cX3_write 57 = .ok (.getfield 34, 3) := by decide +kernel
theorem dX3_write_60 : decode cX3_write 60 = .ok (.bipush 12, 2) := by decide +kernel
theorem dX3_write_62 : decode cX3_write 62 = .ok (.if_icmp .ge 13, 3) := by decide +kernel
theorem dX3_write_65 : decode cX3_write 65 = .ok (.aload_n 0, 1) := by decide +kernel
theorem dX3_write_66 : decode cX3_write 66 = .ok (.dup, 1) := by decide +kernel
theorem dX3_write_67 : decode cX3_write 67 = .ok (.getfield 34, 3) := by decide +kernel
theorem dX3_write_70 : decode cX3_write 70 = .ok (.iconst 1, 1) := by decide +kernel
theorem dX3_write_71 : decode cX3_write 71 = .ok (.iadd, 1) := by decide +kernel
theorem dX3_write_72 : decode cX3_write 72 = .ok (.putfield 34, 3) := by decide +kernel
theorem dX3_write_75 : decode cX3_write 75 = .ok (.return_, 1) := by decide +kernel
set_option maxRecDepth 20000 in
theorem ggX3_slotOf_J9_floorMod_7cf53 : GoodIn wsX3_slotOf wsJ9_floorMod_7cf53 := goodIn_r _ [5] rfl (by decide +kernel)
set_option maxRecDepth 20000 in
theorem gX3_slotOf_J9_floorMod_7cf53 : GoodIn wsX3_slotOf (va_wsS RX3 28 yJ9_floorMod_7cf53 wsJ9_floorMod_7cf53) := goodIn_app (goodIn_of _ (by decide +kernel)) ggX3_slotOf_J9_floorMod_7cf53
theorem dX3_slotOf_0 : decode cX3_slotOf 0 = .ok (.aload_n 0, 1) := by decide +kernel
theorem dX3_slotOf_1 : decode cX3_slotOf 1 = .ok (.getfield 24, 3) := by decide +kernel
theorem dX3_slotOf_4 : decode cX3_slotOf 4 = .ok (.iload_n 1, 1) := by decide +kernel
theorem dX3_slotOf_5 : decode cX3_slotOf 5 = .ok (.isub, 1) := by decide +kernel
theorem dX3_slotOf_6 : decode cX3_slotOf 6 = .ok (.bipush 12, 2) := by decide +kernel
theorem dX3_slotOf_8 : decode cX3_slotOf 8 = .ok (.invokestatic 28, 3) := by decide +kernel
theorem dX3_slotOf_11 : decode cX3_slotOf 11 = .ok (.ireturn, 1) := by decide +kernel
theorem dX3_copyFrom_0 : decode cX3_copyFrom 0 = .ok (.aload_n 0, 1) := by decide +kernel
theorem dX3_copyFrom_1 : decode cX3_copyFrom 1 = .ok (.aload_n 1, 1) := by decide +kernel
theorem dX3_copyFrom_2 : decode cX3_copyFrom 2 = .ok (.getfield 34, 3) := by decide +kernel
theorem dX3_copyFrom_5 : decode cX3_copyFrom 5 = .ok (.putfield 34, 3) := by decide +kernel
theorem dX3_copyFrom_8 : decode cX3_copyFrom 8 = .ok (.aload_n 0, 1) := by decide +kernel
theorem dX3_copyFrom_9 : decode cX3_copyFrom 9 = .ok (.aload_n 1, 1) := by decide +kernel
theorem dX3_copyFrom_10 : decode cX3_copyFrom 10 = .ok (.getfield 24, 3) := by decide +kernel
theorem dX3_copyFrom_13 : decode cX3_copyFrom 13 = .ok (.putfield 24, 3) := by decide +kernel
theorem dX3_copyFrom_16 : decode cX3_copyFrom 16 = .ok (.aload_n 1, 1) := by decide +kernel
theorem dX3_copyFrom_17 : decode cX3_copyFrom 17 = .ok (.getfield 9, 3) := by decide +kernel
theorem dX3_copyFrom_20 : decode cX3_copyFrom 20 = .ok (.iconst 0, 1) := by decide +kernel
theorem dX3_copyFrom_21 : decode cX3_copyFrom 21 = .ok (.aload_n 0, 1) := by decide +kernel
theorem dX3_copyFrom_22 : decode cX3_copyFrom 22 = .ok (.getfield 9, 3) := by decide +kernel
theorem dX3_copyFrom_25 : decode cX3_copyFrom 25 = .ok (.iconst 0, 1) := by decide +kernel
theorem dX3_copyFrom_26 : decode cX3_copyFrom 26 = .ok (.bipush 12, 2) := by decide +kernel
theorem dX3_copyFrom_28 : decode cX3_copyFrom 28 = .ok (.invokestatic 37, 3) := by decide +kernel
theorem dX3_copyFrom_31 : decode cX3_copyFrom 31 = .ok (.aload_n 1, 1) := by decide +kernel
theorem dX3_copyFrom_32 : decode cX3_copyFrom 32 = .ok (.getfield 15, 3) := by decide +kernel
theorem dX3_copyFrom_35 : decode cX3_copyFrom 35 = .ok (.iconst 0, 1) := by decide +kernel
theorem dX3_copyFrom_36 : decode cX3_copyFrom 36 = .ok (.aload_n 0, 1) := by decide +kernel
theorem dX3_copyFrom_37 : decode cX3_copyFrom 37 = .ok (.getfield 15, 3) := by decide +kernel
theorem dX3_copyFrom_40 : decode cX3_copyFrom 40 = .ok (.iconst 0, 1) := by decide +kernel
theorem dX3_copyFrom_41 : decode cX3_copyFrom 41 = .ok (.bipush 12, 2) := by decide +kernel
theorem dX3_copyFrom_43 : decode cX3_copyFrom 43 = .ok (.invokestatic 37, 3) := by decide +kernel
theorem dX3_copyFrom_46 : decode cX3_copyFrom 46 = .ok (.aload_n 1, 1) := by decide +kernel
theorem dX3_copyFrom_47 : decode cX3_copyFrom 47 = .ok (.getfield 18, 3) := by decide +kernel
theorem dX3_copyFrom_50 : decode cX3_copyFrom 50 = .ok (.iconst 0, 1) := by decide +kernel
theorem dX3_copyFrom_51 : decode cX3_copyFrom 51 = .ok (.aload_n 0, 1) := by decide +kernel
theorem dX3_copyFrom_52 : decode cX3_copyFrom 52 = .ok (.getfield 18, 3) := by decide +kernel
theorem dX3_copyFrom_55 : decode cX3_copyFrom 55 = .ok (.iconst 0, 1) := by decide +kernel
theorem dX3_copyFrom_56 : decode cX3_copyFrom 56 = .ok (.bipush 12, 2) := by decide +kernel
theorem dX3_copyFrom_58 : decode cX3_copyFrom 58 = .ok (.invokestatic 37, 3) := by decide +kernel
theorem dX3_copyFrom_61 : decode cX3_copyFrom 61 = .ok (.aload_n 1, 1) := by decide +kernel
theorem dX3_copyFrom_62 : decode cX3_copyFrom 62 = .ok (.getfield 21, 3) := by decide +kernel
theorem dX3_copyFrom_65 : decode cX3_copyFrom 65 = .ok (.iconst 0, 1) := by decide +kernel
theorem dX3_copyFrom_66 : decode cX3_copyFrom 66 = .ok (.aload_n 0, 1) := by decide +kernel
theorem dX3_copyFrom_67 : decode cX3_copyFrom 67 = .ok (.getfield 21, 3) := by decide +kernel
theorem dX3_copyFrom_70 : decode cX3_copyFrom 70 = .ok (.iconst 0, 1) := by decide +kernel
theorem dX3_copyFrom_71 : decode cX3_copyFrom 71 = .ok (.bipush 12, 2) := by decide +kernel
theorem dX3_copyFrom_73 : decode cX3_copyFrom 73 = .ok (.invokestatic 37, 3) := by decide +kernel
theorem dX3_copyFrom_76 : decode cX3_copyFrom 76 = .ok (.return_, 1) := by decide +kernel
theorem dX4_init_0 : decode cX4_init 0 = .ok (.aload_n 0, 1) := by decide +kernel
theorem dX4_init_1 : decode cX4_init 1 = .ok (.invokespecial 3, 3) := by decide +kernel
theorem dX4_init_4 : decode cX4_init 4 = .ok (.aload_n 0, 1) := by decide +kernel
theorem dX4_init_5 : decode cX4_init 5 = .ok (.bipush 12, 2) := by decide +kernel
theorem dX4_init_7 : decode cX4_init 7 = .ok (.newarray .int, 2) := by decide +kernel
theorem dX4_init_9 : decode cX4_init 9 = .ok (.putfield 11, 3) := by decide +kernel
theorem dX4_init_12 : decode cX4_init 12 = .ok (.aload_n 0, 1) := by decide +kernel
theorem dX4_init_13 : decode cX4_init 13 = .ok (.bipush 12, 2) := by decide +kernel
theorem dX4_init_15 : decode cX4_init 15 = .ok (.newarray .int, 2) := by decide +kernel
theorem dX4_init_17 : decode cX4_init 17 = .ok (.putfield 15, 3) := by decide +kernel
theorem dX4_init_20 : decode cX4_init 20 = .ok (.aload_n 0, 1) := by decide +kernel
theorem dX4_init_21 : decode cX4_init 21 = .ok (.bipush 12, 2) := by decide +kernel
theorem dX4_init_23 : decode cX4_init 23 = .ok (.newarray .boolean, 2) := by decide +kernel
theorem dX4_init_25 : decode cX4_init 25 = .ok (.putfield 18, 3) := by decide +kernel
theorem dX4_init_28 : decode cX4_init 28 = .ok (.aload_n 0, 1) := by decide +kernel
theorem dX4_init_29 : decode cX4_init 29 = .ok (.bipush 12, 2) := by decide +kernel
theorem dX4_init_31 : decode cX4_init 31 = .ok (.newarray .boolean, 2) := by decide +kernel
theorem dX4_init_33 : decode cX4_init 33 = .ok (.putfield 22, 3) := by decide +kernel
theorem dX4_init_36 : decode cX4_init 36 = .ok (.return_, 1) := by decide +kernel
set_option maxRecDepth 20000 in
theorem ggX4_readRow_X4_readOne : GoodIn wsX4_readRow wsX4_readOne := goodIn_r _ [8, 9, 2, 10, 11, 12, 13, 14, 15, 16, 17, 18, 19, 20, 21, 22, 7, 23, 24, 25, 26, 27, 28, 29, 30, 31, 32, 33, 34, 35, 36, 37, 38, 39, 40, 41, 42, 43, 44] rfl (by decide +kernel)
set_option maxRecDepth 20000 in
theorem gX4_readRow_X4_readOne : GoodIn wsX4_readRow (wsV RX4 32 RX4 yX4_readOne wsX4_readOne) := goodIn_app (goodIn_of _ (by decide +kernel)) ggX4_readRow_X4_readOne
set_option maxRecDepth 20000 in
theorem ggX4_readRow_X4_readSign : GoodIn wsX4_readRow wsX4_readSign := goodIn_r _ [36, 2, 13, 14, 15, 16, 17, 18, 19, 37, 38, 39, 40, 41, 42, 43, 44] rfl (by decide +kernel)
set_option maxRecDepth 20000 in
theorem gX4_readRow_X4_readSign : GoodIn wsX4_readRow (wsV RX4 41 RX4 yX4_readSign wsX4_readSign) := goodIn_app (goodIn_of _ (by decide +kernel)) ggX4_readRow_X4_readSign
theorem dX4_readRow_0 : decode cX4_readRow 0 = .ok (.aload_n 0, 1) := by decide +kernel
theorem dX4_readRow_1 : decode cX4_readRow 1 = .ok (.iconst 0, 1) := by decide +kernel
theorem dX4_readRow_2 : decode cX4_readRow 2 = .ok (.putfield 25, 3) := by decide +kernel
theorem dX4_readRow_5 : decode cX4_readRow 5 = .ok (.aload_n 0, 1) := by decide +kernel
theorem dX4_readRow_6 : decode cX4_readRow 6 = .ok (.iconst 0, 1) := by decide +kernel
theorem dX4_readRow_7 : decode cX4_readRow 7 = .ok (.putfield 29, 3) := by decide +kernel
theorem dX4_readRow_10 : decode cX4_readRow 10 = .ok (.iconst 0, 1) := by decide +kernel
theorem dX4_readRow_11 : decode cX4_readRow 11 = .ok (.istore_n 2, 1) := by decide +kernel
theorem dX4_readRow_12 : decode cX4_readRow 12 = .ok (.iload_n 2, 1) := by decide +kernel
theorem dX4_readRow_13 : decode cX4_readRow 13 = .ok (.bipush 12, 2) := by decide +kernel
theorem dX4_readRow_15 : decode cX4_readRow 15 = .ok (.if_icmp .ge 61, 3) := by decide +kernel
theorem dX4_readRow_18 : decode cX4_readRow 18 = .ok (.aload_n 0, 1) := by decide +kernel
theorem dX4_readRow_19 : decode cX4_readRow 19 = .ok (.aload_n 1, 1) := by decide +kernel
theorem dX4_readRow_20 : decode cX4_readRow 20 = .ok (.iload_n 2, 1) := by decide +kernel
theorem dX4_readRow_21 : decode cX4_readRow 21 = .ok (.invokevirtual 32, 3) := by decide +kernel
theorem dX4_readRow_24 : decode cX4_readRow 24 = .ok (.ifCond .ne 8, 3) := by decide +kernel
theorem dX4_readRow_27 : decode cX4_readRow 27 = .ok (.aload_n 0, 1) := by decide +kernel
theorem dX4_readRow_28 : decode cX4_readRow 28 = .ok (.getfield 29, 3) := by decide +kernel
theorem dX4_readRow_31 : decode cX4_readRow 31 = .ok (.ireturn, 1) := by decide +kernel
theorem dX4_readRow_32 : decode cX4_readRow 32 = .ok (.aload_n 0, 1) := by decide +kernel
theorem dX4_readRow_33 : decode cX4_readRow 33 = .ok (.dup, 1) := by decide +kernel
theorem dX4_readRow_34 : decode cX4_readRow 34 = .ok (.getfield 25, 3) := by decide +kernel
theorem dX4_readRow_37 : decode cX4_readRow 37 = .ok (.iconst 1, 1) := by decide +kernel
theorem dX4_readRow_38 : decode cX4_readRow 38 = .ok (.iadd, 1) := by decide +kernel
theorem dX4_readRow_39 : decode cX4_readRow 39 = .ok (.putfield 25, 3) := by decide +kernel
theorem dX4_readRow_42 : decode cX4_readRow 42 = .ok (.aload_n 0, 1) := by decide +kernel
theorem dX4_readRow_43 : decode cX4_readRow 43 = .ok (.getfield 29, 3) := by decide +kernel
theorem dX4_readRow_46 : decode cX4_readRow 46 = .ok (.aload_n 1, 1) := by decide +kernel
theorem dX4_readRow_47 : decode cX4_readRow 47 = .ok (.getfield 36, 3) := by decide +kernel
theorem dX4_readRow_50 : decode cX4_readRow 50 = .ok (.if_icmp .ne 5, 3) := by decide +kernel
theorem dX4_readRow_53 : decode cX4_readRow 53 = .ok (.iconst (-1), 1) := by decide +kernel
theorem dX4_readRow_54 : decode cX4_readRow 54 = .ok (.ireturn, 1) := by decide +kernel
theorem dX4_readRow_55 : decode cX4_readRow 55 = .ok (.aload_n 0, 1) := by decide +kernel
theorem dX4_readRow_56 : decode cX4_readRow 56 = .ok (.aload_n 1, 1) := by decide +kernel
theorem dX4_readRow_57 : decode cX4_readRow 57 = .ok (.bipush 59, 2) := by decide +kernel
theorem dX4_readRow_59 : decode cX4_readRow 59 = .ok (.invokevirtual 41, 3) := by decide +kernel
theorem dX4_readRow_62 : decode cX4_readRow 62 = .ok (.ifCond .ne 8, 3) := by decide +kernel
theorem dX4_readRow_65 : decode cX4_readRow 65 = .ok (.aload_n 0, 1) := by decide +kernel
theorem dX4_readRow_66 : decode cX4_readRow 66 = .ok (.getfield 29, 3) := by decide +kernel
theorem dX4_readRow_69 : decode cX4_readRow 69 = .ok (.ireturn, 1) := by decide +kernel
theorem dX4_readRow_70 : decode cX4_readRow 70 = .ok (.iinc 2 1, 3) := by decide +kernel
theorem dX4_readRow_73 : decode cX4_readRow 73 = .ok (.goto (-61), 3) := by decide +kernel
theorem dX4_readRow_76 : decode cX4_readRow 76 = .ok (.aload_n 0, 1) := by decide +kernel
theorem dX4_readRow_77 : decode cX4_readRow 77 = .ok (.getfield 29, 3) := by decide +kernel
theorem dX4_readRow_80 : decode cX4_readRow 80 = .ok (.ireturn, 1) := by decide +kernel
set_option maxRecDepth 20000 in
theorem ggX4_readOne_X7_hasAt : GoodIn wsX4_readOne wsX7_hasAt := goodIn_r _ [10, 11, 12, 37, 38] rfl (by decide +kernel)
set_option maxRecDepth 20000 in
theorem gX4_readOne_X7_hasAt : GoodIn wsX4_readOne (wsV RX4 45 RX7 yX7_hasAt wsX7_hasAt) := goodIn_app (goodIn_of _ (by decide +kernel)) ggX4_readOne_X7_hasAt
set_option maxRecDepth 20000 in
theorem ggX4_readOne_X4_readNumber : GoodIn wsX4_readOne wsX4_readNumber := goodIn_r _ [17, 2, 18, 19, 20, 9, 21, 11, 12, 22, 23, 24, 25, 26, 31, 32, 33, 34, 35, 36, 37, 38] rfl (by decide +kernel)
set_option maxRecDepth 20000 in
theorem gX4_readOne_X4_readNumber : GoodIn wsX4_readOne (wsV RX4 49 RX4 yX4_readNumber wsX4_readNumber) := goodIn_app (goodIn_of _ (by decide +kernel)) ggX4_readOne_X4_readNumber
set_option maxRecDepth 20000 in
theorem ggX4_readOne_X4_readSign : GoodIn wsX4_readOne wsX4_readSign := goodIn_r _ [30, 2, 6, 7, 8, 9, 10, 11, 12, 31, 32, 33, 34, 35, 36, 37, 38] rfl (by decide +kernel)
set_option maxRecDepth 20000 in
theorem gX4_readOne_X4_readSign : GoodIn wsX4_readOne (wsV RX4 41 RX4 yX4_readSign wsX4_readSign) := goodIn_app (goodIn_of _ (by decide +kernel)) ggX4_readOne_X4_readSign
theorem dX4_readOne_0 : decode cX4_readOne 0 = .ok (.aload_n 0, 1) := by decide +kernel
theorem dX4_readOne_1 : decode cX4_readOne 1 = .ok (.getfield 18, 3) := by decide +kernel
theorem dX4_readOne_4 : decode cX4_readOne 4 = .ok (.iload_n 2, 1) := by decide +kernel
theorem dX4_readOne_5 : decode cX4_readOne 5 = .ok (.aload_n 1, 1) := by decide +kernel
theorem dX4_readOne_6 : decode cX4_readOne 6 = .ok (.aload_n 0, 1) := by decide +kernel
theorem dX4_readOne_7 : decode cX4_readOne 7 = .ok (.getfield 29, 3) := by decide +kernel
theorem dX4_readOne_10 : decode cX4_readOne 10 = .ok (.bipush 91, 2) := by decide +kernel
theorem dX4_readOne_12 : decode cX4_readOne 12 = .ok (.invokevirtual 45, 3) := by decide +kernel
theorem dX4_readOne_15 : decode cX4_readOne 15 = .ok (.bastore, 1) := by decide +kernel
theorem dX4_readOne_16 : decode cX4_readOne 16 = .ok (.aload_n 0, 1) := by decide +kernel
theorem dX4_readOne_17 : decode cX4_readOne 17 = .ok (.getfield 18, 3) := by decide +kernel
theorem dX4_readOne_20 : decode cX4_readOne 20 = .ok (.iload_n 2, 1) := by decide +kernel
theorem dX4_readOne_21 : decode cX4_readOne 21 = .ok (.baload, 1) := by decide +kernel
theorem dX4_readOne_22 : decode cX4_readOne 22 = .ok (.ifCond .ne 18, 3) := by decide +kernel
theorem dX4_readOne_25 : decode cX4_readOne 25 = .ok (.aload_n 1, 1) := by decide +kernel
theorem dX4_readOne_26 : decode cX4_readOne 26 = .ok (.aload_n 0, 1) := by decide +kernel
theorem dX4_readOne_27 : decode cX4_readOne 27 = .ok (.getfield 29, 3) := by decide +kernel
theorem dX4_readOne_30 : decode cX4_readOne 30 = .ok (.bipush 40, 2) := by decide +kernel
theorem dX4_readOne_32 : decode cX4_readOne 32 = .ok (.invokevirtual 45, 3) := by decide +kernel
theorem dX4_readOne_35 : decode cX4_readOne 35 = .ok (.ifCond .ne 5, 3) := by decide +kernel
theorem dX4_readOne_38 : decode cX4_readOne 38 = .ok (.iconst 0, 1) := by decide +kernel
theorem dX4_readOne_39 : decode cX4_readOne 39 = .ok (.ireturn, 1) := by decide +kernel
theorem dX4_readOne_40 : decode cX4_readOne 40 = .ok (.aload_n 0, 1) := by decide +kernel
theorem dX4_readOne_41 : decode cX4_readOne 41 = .ok (.dup, 1) := by decide +kernel
theorem dX4_readOne_42 : decode cX4_readOne 42 = .ok (.getfield 29, 3) := by decide +kernel
theorem dX4_readOne_45 : decode cX4_readOne 45 = .ok (.iconst 1, 1) := by decide +kernel
theorem dX4_readOne_46 : decode cX4_readOne 46 = .ok (.iadd, 1) := by decide +kernel
theorem dX4_readOne_47 : decode cX4_readOne 47 = .ok (.putfield 29, 3) := by decide +kernel
theorem dX4_readOne_50 : decode cX4_readOne 50 = .ok (.aload_n 0, 1) := by decide +kernel
theorem dX4_readOne_51 : decode cX4_readOne 51 = .ok (.getfield 11, 3) := by decide +kernel
theorem dX4_readOne_54 : decode cX4_readOne 54 = .ok (.iload_n 2, 1) := by decide +kernel
theorem dX4_readOne_55 : decode cX4_readOne 55 = .ok (.aload_n 0, 1) := by decide +kernel
theorem dX4_readOne_56 : decode cX4_readOne 56 = .ok (.aload_n 1, 1) := by decide +kernel
theorem dX4_readOne_57 : decode cX4_readOne 57 = .ok (.invokevirtual 49, 3) := by decide +kernel
theorem dX4_readOne_60 : decode cX4_readOne 60 = .ok (.iastore, 1) := by decide +kernel
theorem dX4_readOne_61 : decode cX4_readOne 61 = .ok (.aload_n 0, 1) := by decide +kernel
theorem dX4_readOne_62 : decode cX4_readOne 62 = .ok (.getfield 11, 3) := by decide +kernel
theorem dX4_readOne_65 : decode cX4_readOne 65 = .ok (.iload_n 2, 1) := by decide +kernel
theorem dX4_readOne_66 : decode cX4_readOne 66 = .ok (.iaload, 1) := by decide +kernel
theorem dX4_readOne_67 : decode cX4_readOne 67 = .ok (.iconst (-1), 1) := by decide +kernel
theorem dX4_readOne_68 : decode cX4_readOne 68 = .ok (.if_icmp .eq 13, 3) := by decide +kernel
theorem dX4_readOne_71 : decode cX4_readOne 71 = .ok (.aload_n 0, 1) := by decide +kernel
theorem dX4_readOne_72 : decode cX4_readOne 72 = .ok (.aload_n 1, 1) := by decide +kernel
theorem dX4_readOne_73 : decode cX4_readOne 73 = .ok (.bipush 44, 2) := by decide +kernel
theorem dX4_readOne_75 : decode cX4_readOne 75 = .ok (.invokevirtual 41, 3) := by decide +kernel
theorem dX4_readOne_78 : decode cX4_readOne 78 = .ok (.ifCond .ne 5, 3) := by decide +kernel
theorem dX4_readOne_81 : decode cX4_readOne 81 = .ok (.iconst 0, 1) := by decide +kernel
theorem dX4_readOne_82 : decode cX4_readOne 82 = .ok (.ireturn, 1) := by decide +kernel
theorem dX4_readOne_83 : decode cX4_readOne 83 = .ok (.aload_n 0, 1) := by decide +kernel
theorem dX4_readOne_84 : decode cX4_readOne 84 = .ok (.getfield 15, 3) := by decide +kernel
theorem dX4_readOne_87 : decode cX4_readOne 87 = .ok (.iload_n 2, 1) := by decide +kernel
theorem dX4_readOne_88 : decode cX4_readOne 88 = .ok (.aload_n 0, 1) := by decide +kernel
theorem dX4_readOne_89 : decode cX4_readOne 89 = .ok (.aload_n 1, 1) := by decide +kernel
theorem dX4_readOne_90 : decode cX4_readOne 90 = .ok (.invokevirtual 49, 3) := by decide +kernel
theorem dX4_readOne_93 : decode cX4_readOne 93 = .ok (.iastore, 1) := by decide +kernel
theorem dX4_readOne_94 : decode cX4_readOne 94 = .ok (.aload_n 0, 1) := by decide +kernel
theorem dX4_readOne_95 : decode cX4_readOne 95 = .ok (.getfield 15, 3) := by decide +kernel
theorem dX4_readOne_98 : decode cX4_readOne 98 = .ok (.iload_n 2, 1) := by decide +kernel
theorem dX4_readOne_99 : decode cX4_readOne 99 = .ok (.iaload, 1) := by decide +kernel
theorem dX4_readOne_100 : decode cX4_readOne 100 = .ok (.iconst (-1), 1) := by decide +kernel
theorem dX4_readOne_101 : decode cX4_readOne 101 = .ok (.if_icmp .ne 5, 3) := by decide +kernel
theorem dX4_readOne_104 : decode cX4_readOne 104 = .ok (.iconst 0, 1) := by decide +kernel
theorem dX4_readOne_105 : decode cX4_readOne 105 = .ok (.ireturn, 1) := by decide +kernel
theorem dX4_readOne_106 : decode cX4_readOne 106 = .ok (.aload_n 0, 1) := by decide +kernel
theorem dX4_readOne_107 : decode cX4_readOne 107 = .ok (.getfield 22, 3) := by decide +kernel
theorem dX4_readOne_110 : decode cX4_readOne 110 = .ok (.iload_n 2, 1) := by decide +kernel
theorem dX4_readOne_111 : decode cX4_readOne 111 = .ok (.aload_n 1, 1) := by decide +kernel
theorem dX4_readOne_112 : decode cX4_readOne 112 = .ok (.aload_n 0, 1) := by decide +kernel
theorem dX4_readOne_113 : decode cX4_readOne 113 = .ok (.getfield 29, 3) := by decide +kernel
theorem dX4_readOne_116 : decode cX4_readOne 116 = .ok (.bipush 93, 2) := by decide +kernel
theorem dX4_readOne_118 : decode cX4_readOne 118 = .ok (.invokevirtual 45, 3) := by decide +kernel
theorem dX4_readOne_121 : decode cX4_readOne 121 = .ok (.bastore, 1) := by decide +kernel
theorem dX4_readOne_122 : decode cX4_readOne 122 = .ok (.aload_n 0, 1) := by decide +kernel
theorem dX4_readOne_123 : decode cX4_readOne 123 = .ok (.aload_n 1, 1) := by decide +kernel
theorem dX4_readOne_124 : decode cX4_readOne 124 = .ok (.aload_n 0, 1) := by decide +kernel
theorem dX4_readOne_125 : decode cX4_readOne 125 = .ok (.getfield 22, 3) := by decide +kernel
theorem dX4_readOne_128 : decode cX4_readOne 128 = .ok (.iload_n 2, 1) := by decide +kernel
theorem dX4_readOne_129 : decode cX4_readOne 129 = .ok (.baload, 1) := by decide +kernel
theorem dX4_readOne_130 : decode cX4_readOne 130 = .ok (.ifCond .eq 8, 3) := by decide +kernel
theorem dX4_readOne_133 : decode cX4_readOne 133 = .ok (.bipush 93, 2) := by decide +kernel
theorem dX4_readOne_135 : decode cX4_readOne 135 = .ok (.goto 5, 3) := by decide +kernel
theorem dX4_readOne_138 : decode cX4_readOne 138 = .ok (.bipush 41, 2) := by decide +kernel
theorem dX4_readOne_140 : decode cX4_readOne 140 = .ok (.invokevirtual 41, 3) := by decide +kernel
theorem dX4_readOne_143 : decode cX4_readOne 143 = .ok (.ireturn, 1) := by decide +kernel
set_option maxRecDepth 20000 in
theorem ggX4_readSign_X7_hasAt : GoodIn wsX4_readSign wsX7_hasAt := goodIn_r _ [6, 7, 8, 15, 16] rfl (by decide +kernel)
set_option maxRecDepth 20000 in
theorem gX4_readSign_X7_hasAt : GoodIn wsX4_readSign (wsV RX4 45 RX7 yX7_hasAt wsX7_hasAt) := goodIn_app (goodIn_of _ (by decide +kernel)) ggX4_readSign_X7_hasAt
theorem dX4_readSign_0 : decode cX4_readSign 0 = .ok (.aload_n 1, 1) := by decide +kernel
theorem dX4_readSign_1 : decode cX4_readSign 1 = .ok (.aload_n 0, 1) := by decide +kernel
theorem dX4_readSign_2 : decode cX4_readSign 2 = .ok (.getfield 29, 3) := by decide +kernel
theorem dX4_readSign_5 : decode cX4_readSign 5 = .ok (.iload_n 2, 1) := by decide +kernel
theorem dX4_readSign_6 : decode cX4_readSign 6 = .ok (.invokevirtual 45, 3) := by decide +kernel
theorem dX4_readSign_9 : decode cX4_readSign 9 = .ok (.ifCond .ne 5, 3) := by decide +kernel
theorem dX4_readSign_12 : decode cX4_readSign 12 = .ok (.iconst 0, 1) := by decide +kernel
theorem dX4_readSign_13 : decode cX4_readSign 13 = .ok (.ireturn, 1) := by decide +kernel
theorem dX4_readSign_14 : decode cX4_readSign 14 = .ok (.aload_n 0, 1) := by decide +kernel
theorem dX4_readSign_15 : decode cX4_readSign 15 = .ok (.dup, 1) := by decide +kernel
theorem dX4_readSign_16 : decode cX4_readSign 16 = .ok (.getfield 29, 3) := by decide +kernel
theorem dX4_readSign_19 : decode cX4_readSign 19 = .ok (.iconst 1, 1) := by decide +kernel
theorem dX4_readSign_20 : decode cX4_readSign 20 = .ok (.iadd, 1) := by decide +kernel
theorem dX4_readSign_21 : decode cX4_readSign 21 = .ok (.putfield 29, 3) := by decide +kernel
theorem dX4_readSign_24 : decode cX4_readSign 24 = .ok (.iconst 1, 1) := by decide +kernel
theorem dX4_readSign_25 : decode cX4_readSign 25 = .ok (.ireturn, 1) := by decide +kernel
set_option maxRecDepth 20000 in
theorem ggX4_readNumber_X7_hasDigitAt : GoodIn wsX4_readNumber wsX7_hasDigitAt := goodIn_r _ [6, 7, 8, 20, 21] rfl (by decide +kernel)
set_option maxRecDepth 20000 in
theorem gX4_readNumber_X7_hasDigitAt : GoodIn wsX4_readNumber (wsV RX4 53 RX7 yX7_hasDigitAt wsX7_hasDigitAt) := goodIn_app (goodIn_of _ (by decide +kernel)) ggX4_readNumber_X7_hasDigitAt
set_option maxRecDepth 20000 in
theorem ggX4_readNumber_X7_digitAt : GoodIn wsX4_readNumber wsX7_digitAt := goodIn_r _ [12, 8, 13, 3, 4, 5, 6, 7, 20, 21] rfl (by decide +kernel)
set_option maxRecDepth 20000 in
theorem gX4_readNumber_X7_digitAt : GoodIn wsX4_readNumber (wsV RX4 57 RX7 yX7_digitAt wsX7_digitAt) := goodIn_app (goodIn_of _ (by decide +kernel)) ggX4_readNumber_X7_digitAt
theorem dX4_readNumber_0 : decode cX4_readNumber 0 = .ok (.iconst 0, 1) := by decide +kernel
theorem dX4_readNumber_1 : decode cX4_readNumber 1 = .ok (.istore_n 2, 1) := by decide +kernel
theorem dX4_readNumber_2 : decode cX4_readNumber 2 = .ok (.iconst 0, 1) := by decide +kernel
theorem dX4_readNumber_3 : decode cX4_readNumber 3 = .ok (.istore_n 3, 1) := by decide +kernel
theorem dX4_readNumber_4 : decode cX4_readNumber 4 = .ok (.iload_n 3, 1) := by decide +kernel
theorem dX4_readNumber_5 : decode cX4_readNumber 5 = .ok (.iconst 4, 1) := by decide +kernel
theorem dX4_readNumber_6 : decode cX4_readNumber 6 = .ok (.if_icmp .ge 52, 3) := by decide +kernel
theorem dX4_readNumber_9 : decode cX4_readNumber 9 = .ok (.aload_n 1, 1) := by decide +kernel
theorem dX4_readNumber_10 : decode cX4_readNumber 10 = .ok (.aload_n 0, 1) := by decide +kernel
theorem dX4_readNumber_11 : decode cX4_readNumber 11 = .ok (.getfield 29, 3) := by decide +kernel
theorem dX4_readNumber_14 : decode cX4_readNumber 14 = .ok (.invokevirtual 53, 3) := by decide +kernel
theorem dX4_readNumber_17 : decode cX4_readNumber 17 = .ok (.ifCond .eq 41, 3) := by decide +kernel
theorem dX4_readNumber_20 : decode cX4_readNumber 20 = .ok (.iload_n 3, 1) := by decide +kernel
theorem dX4_readNumber_21 : decode cX4_readNumber 21 = .ok (.ifCond .eq 7, 3) := by decide +kernel
theorem dX4_readNumber_24 : decode cX4_readNumber 24 = .ok (.iload_n 2, 1) := by decide +kernel
theorem dX4_readNumber_25 : decode cX4_readNumber 25 = .ok (.ifCond .le 33, 3) := by decide +kernel
theorem dX4_readNumber_28 : decode cX4_readNumber 28 = .ok (.bipush 10, 2) := by decide +kernel
theorem dX4_readNumber_30 : decode cX4_readNumber 30 = .ok (.iload_n 2, 1) := by decide +kernel
theorem dX4_readNumber_31 : decode cX4_readNumber 31 = .ok (.imul, 1) := by decide +kernel
theorem dX4_readNumber_32 : decode cX4_readNumber 32 = .ok (.aload_n 1, 1) := by decide +kernel
theorem dX4_readNumber_33 : decode cX4_readNumber 33 = .ok (.aload_n 0, 1) := by decide +kernel
theorem dX4_readNumber_34 : decode cX4_readNumber 34 = .ok (.getfield 29, 3) := by decide +kernel
theorem dX4_readNumber_37 : decode cX4_readNumber 37 = .ok (.invokevirtual 57, 3) := by decide +kernel
theorem dX4_readNumber_40 : decode cX4_readNumber 40 = .ok (.iadd, 1) := by decide +kernel
theorem dX4_readNumber_41 : decode cX4_readNumber 41 = .ok (.istore_n 2, 1) := by decide +kernel
theorem dX4_readNumber_42 : decode cX4_readNumber 42 = .ok (.iinc 3 1, 3) := by decide +kernel
theorem dX4_readNumber_45 : decode cX4_readNumber 45 = .ok (.aload_n 0, 1) := by decide +kernel
theorem dX4_readNumber_46 : decode cX4_readNumber 46 = .ok (.dup, 1) := by decide +kernel
theorem dX4_readNumber_47 : decode cX4_readNumber 47 = .ok (.getfield 29, 3) := by decide +kernel
theorem dX4_readNumber_50 : decode cX4_readNumber 50 = .ok (.iconst 1, 1) := by decide +kernel
theorem dX4_readNumber_51 : decode cX4_readNumber 51 = .ok (.iadd, 1) := by decide +kernel
theorem dX4_readNumber_52 : decode cX4_readNumber 52 = .ok (.putfield 29, 3) := by decide +kernel
theorem dX4_readNumber_55 : decode cX4_readNumber 55 = .ok (.goto (-51), 3) := by decide +kernel
theorem dX4_readNumber_58 : decode cX4_readNumber 58 = .ok (.iload_n 3, 1) := by decide +kernel
theorem dX4_readNumber_59 : decode cX4_readNumber 59 = .ok (.ifCond .ne 7, 3) := by decide +kernel
theorem dX4_readNumber_62 : decode cX4_readNumber 62 = .ok (.iconst (-1), 1) := by decide +kernel
theorem dX4_readNumber_63 : decode cX4_readNumber 63 = .ok (.goto 4, 3) := by decide +kernel
theorem dX4_readNumber_66 : decode cX4_readNumber 66 = .ok (.iload_n 2, 1) := by decide +kernel
theorem dX4_readNumber_67 : decode cX4_readNumber 67 = .ok (.ireturn, 1) := by decide +kernel
theorem dX4_allAreSpans_0 : decode cX4_allAreSpans 0 = .ok (.iconst 0, 1) := by decide +kernel
theorem dX4_allAreSpans_1 : decode cX4_allAreSpans 1 = .ok (.istore_n 1, 1) := by decide +kernel
theorem dX4_allAreSpans_2 : decode cX4_allAreSpans 2 = .ok (.iload_n 1, 1) := by decide +kernel
theorem dX4_allAreSpans_3 : decode cX4_allAreSpans 3 = .ok (.aload_n 0, 1) := by decide +kernel
theorem dX4_allAreSpans_4 : decode cX4_allAreSpans 4 = .ok (.getfield 25, 3) := by decide +kernel
theorem dX4_allAreSpans_7 : decode cX4_allAreSpans 7 = .ok (.if_icmp .ge 109, 3) := by decide +kernel
theorem dX4_allAreSpans_10 : decode cX4_allAreSpans 10 = .ok (.aload_n 0, 1) := by decide +kernel
theorem dX4_allAreSpans_11 : decode cX4_allAreSpans 11 = .ok (.getfield 18, 3) := by decide +kernel
theorem dX4_allAreSpans_14 : decode cX4_allAreSpans 14 = .ok (.iload_n 1, 1) := by decide +kernel
theorem dX4_allAreSpans_15 : decode cX4_allAreSpans 15 = .ok (.baload, 1) := by decide +kernel
theorem dX4_allAreSpans_16 : decode cX4_allAreSpans 16 = .ok (.ifCond .eq 12, 3) := by decide +kernel
theorem dX4_allAreSpans_19 : decode cX4_allAreSpans 19 = .ok (.aload_n 0, 1) := by decide +kernel
theorem dX4_allAreSpans_20 : decode cX4_allAreSpans 20 = .ok (.getfield 11, 3) := by decide +kernel
theorem dX4_allAreSpans_23 : decode cX4_allAreSpans 23 = .ok (.iload_n 1, 1) := by decide +kernel
