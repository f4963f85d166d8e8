set_option maxRecDepth 20000 in
theorem gX12_put_X12_in : GoodIn wsX12_put (va_wsS RX12 34 yX12_in wsX12_in) := goodIn_app (goodIn_of _ (by decide +kernel)) ggX12_put_X12_in
set_option maxRecDepth 20000 in
theorem ggX12_put_X12_its : GoodIn wsX12_put wsX12_its := goodIn_r _ [13, 6, 52, 53, 54, 55, 56, 57, 58, 59, 60, 61, 62, 63, 64, 65, 66, 67, 68, 69] rfl (by decide +kernel)
set_option maxRecDepth 20000 in
theorem gX12_put_X12_its : GoodIn wsX12_put (wsV RX12 46 RX12 yX12_its wsX12_its) := goodIn_app (goodIn_of _ (by decide +kernel)) ggX12_put_X12_its
set_option maxRecDepth 20000 in
theorem ggX12_put_X12_record : GoodIn wsX12_put wsX12_record := goodIn_r _ [17, 18, 19, 6, 52, 53, 54, 55, 56, 57, 58, 59, 60, 61, 62, 63, 64, 65, 66, 67, 68, 69] rfl (by decide +kernel)
set_option maxRecDepth 20000 in
theorem gX12_put_X12_record : GoodIn wsX12_put (wsV RX12 74 RX12 yX12_record wsX12_record) := goodIn_app (goodIn_of _ (by decide +kernel)) ggX12_put_X12_record
set_option maxRecDepth 20000 in
theorem ggX12_put_X12_gives : GoodIn wsX12_put wsX12_gives := goodIn_r _ [23, 6, 52, 53, 54, 55, 56, 57, 58, 59, 60, 61, 62, 63, 64, 65, 66, 67, 68, 69] rfl (by decide +kernel)
set_option maxRecDepth 20000 in
theorem gX12_put_X12_gives : GoodIn wsX12_put (wsV RX12 56 RX12 yX12_gives wsX12_gives) := goodIn_app (goodIn_of _ (by decide +kernel)) ggX12_put_X12_gives
set_option maxRecDepth 20000 in
theorem ggX12_put_X12_changes : GoodIn wsX12_put wsX12_changes := goodIn_r _ [27, 6, 10, 11, 12, 4, 13, 28, 29, 30, 31, 32, 33, 34, 35, 36, 37, 38, 39, 40, 41, 42, 43, 7, 8, 9, 20, 21, 22, 23, 44, 45, 46, 47, 48, 49, 50, 51, 52, 53, 54, 55, 56, 57, 58, 59, 60, 61, 62, 63, 64, 65, 66, 67, 68, 69] rfl (by decide +kernel)
set_option maxRecDepth 20000 in
theorem gX12_put_X12_changes : GoodIn wsX12_put (wsV RX12 66 RX12 yX12_changes wsX12_changes) := goodIn_app (goodIn_of _ (by decide +kernel)) ggX12_put_X12_changes
theorem dX12_put_0 : decode cX12_put 0 = .ok (.aload_n 0, 1) := by decide +kernel
theorem dX12_put_1 : decode cX12_put 1 = .ok (.iload_n 1, 1) := by decide +kernel
theorem dX12_put_2 : decode cX12_put 2 = .ok (.invokevirtual 84, 3) := by decide +kernel
theorem dX12_put_5 : decode cX12_put 5 = .ok (.ifCond .eq 5, 3) := by decide +kernel
theorem dX12_put_8 : decode cX12_put 8 = .ok (.iconst (-1), 1) := by decide +kernel
theorem dX12_put_9 : decode cX12_put 9 = .ok (.ireturn, 1) := by decide +kernel
theorem dX12_put_10 : decode cX12_put 10 = .ok (.iload_n 2, 1) := by decide +kernel
theorem dX12_put_11 : decode cX12_put 11 = .ok (.iconst 0, 1) := by decide +kernel
theorem dX12_put_12 : decode cX12_put 12 = .ok (.sipush 1000, 3) := by decide +kernel
theorem dX12_put_15 : decode cX12_put 15 = .ok (.invokestatic 34, 3) := by decide +kernel
theorem dX12_put_18 : decode cX12_put 18 = .ok (.ifCond .ne 6, 3) := by decide +kernel
theorem dX12_put_21 : decode cX12_put 21 = .ok (.bipush (-2), 2) := by decide +kernel
theorem dX12_put_23 : decode cX12_put 23 = .ok (.ireturn, 1) := by decide +kernel
theorem dX12_put_24 : decode cX12_put 24 = .ok (.aload_n 0, 1) := by decide +kernel
theorem dX12_put_25 : decode cX12_put 25 = .ok (.iload_n 1, 1) := by decide +kernel
theorem dX12_put_26 : decode cX12_put 26 = .ok (.iconst 0, 1) := by decide +kernel
theorem dX12_put_27 : decode cX12_put 27 = .ok (.invokevirtual 46, 3) := by decide +kernel
theorem dX12_put_30 : decode cX12_put 30 = .ok (.iload_n 2, 1) := by decide +kernel
theorem dX12_put_31 : decode cX12_put 31 = .ok (.if_icmp .ne 6, 3) := by decide +kernel
theorem dX12_put_34 : decode cX12_put 34 = .ok (.bipush (-5), 2) := by decide +kernel
theorem dX12_put_36 : decode cX12_put 36 = .ok (.ireturn, 1) := by decide +kernel
theorem dX12_put_37 : decode cX12_put 37 = .ok (.aload_n 0, 1) := by decide +kernel
theorem dX12_put_38 : decode cX12_put 38 = .ok (.invokevirtual 74, 3) := by decide +kernel
theorem dX12_put_41 : decode cX12_put 41 = .ok (.aload_n 0, 1) := by decide +kernel
theorem dX12_put_42 : decode cX12_put 42 = .ok (.iload_n 1, 1) := by decide +kernel
theorem dX12_put_43 : decode cX12_put 43 = .ok (.iconst 0, 1) := by decide +kernel
theorem dX12_put_44 : decode cX12_put 44 = .ok (.iload_n 2, 1) := by decide +kernel
theorem dX12_put_45 : decode cX12_put 45 = .ok (.invokevirtual 56, 3) := by decide +kernel
theorem dX12_put_48 : decode cX12_put 48 = .ok (.aload_n 0, 1) := by decide +kernel
theorem dX12_put_49 : decode cX12_put 49 = .ok (.iload_n 1, 1) := by decide +kernel
theorem dX12_put_50 : decode cX12_put 50 = .ok (.invokevirtual 66, 3) := by decide +kernel
theorem dX12_put_53 : decode cX12_put 53 = .ok (.ireturn, 1) := by decide +kernel
set_option maxRecDepth 20000 in
theorem ggX12_speed_X12_noWalker : GoodIn wsX12_speed wsX12_noWalker := goodIn_r _ [5, 6, 7, 8, 4, 9, 24, 25, 26, 27, 28, 29, 30, 31, 32, 33, 34, 35, 36, 37, 38, 39, 40, 41] rfl (by decide +kernel)
set_option maxRecDepth 20000 in
theorem gX12_speed_X12_noWalker : GoodIn wsX12_speed (wsV RX12 84 RX12 yX12_noWalker wsX12_noWalker) := goodIn_app (goodIn_of _ (by decide +kernel)) ggX12_speed_X12_noWalker
set_option maxRecDepth 20000 in
theorem ggX12_speed_X12_in : GoodIn wsX12_speed wsX12_in := goodIn_r _ [9] rfl (by decide +kernel)
set_option maxRecDepth 20000 in
theorem gX12_speed_X12_in : GoodIn wsX12_speed (va_wsS RX12 34 yX12_in wsX12_in) := goodIn_app (goodIn_of _ (by decide +kernel)) ggX12_speed_X12_in
set_option maxRecDepth 20000 in
theorem ggX12_speed_X12_its : GoodIn wsX12_speed wsX12_its := goodIn_r _ [13, 6, 24, 25, 26, 27, 28, 29, 30, 31, 32, 33, 34, 35, 36, 37, 38, 39, 40, 41] rfl (by decide +kernel)
set_option maxRecDepth 20000 in
theorem gX12_speed_X12_its : GoodIn wsX12_speed (wsV RX12 46 RX12 yX12_its wsX12_its) := goodIn_app (goodIn_of _ (by decide +kernel)) ggX12_speed_X12_its
set_option maxRecDepth 20000 in
theorem ggX12_speed_X12_record : GoodIn wsX12_speed wsX12_record := goodIn_r _ [17, 18, 19, 6, 24, 25, 26, 27, 28, 29, 30, 31, 32, 33, 34, 35, 36, 37, 38, 39, 40, 41] rfl (by decide +kernel)
set_option maxRecDepth 20000 in
theorem gX12_speed_X12_record : GoodIn wsX12_speed (wsV RX12 74 RX12 yX12_record wsX12_record) := goodIn_app (goodIn_of _ (by decide +kernel)) ggX12_speed_X12_record
set_option maxRecDepth 20000 in
theorem ggX12_speed_X12_gives : GoodIn wsX12_speed wsX12_gives := goodIn_r _ [23, 6, 24, 25, 26, 27, 28, 29, 30, 31, 32, 33, 34, 35, 36, 37, 38, 39, 40, 41] rfl (by decide +kernel)
set_option maxRecDepth 20000 in
theorem gX12_speed_X12_gives : GoodIn wsX12_speed (wsV RX12 56 RX12 yX12_gives wsX12_gives) := goodIn_app (goodIn_of _ (by decide +kernel)) ggX12_speed_X12_gives
theorem dX12_speed_0 : decode cX12_speed 0 = .ok (.aload_n 0, 1) := by decide +kernel
theorem dX12_speed_1 : decode cX12_speed 1 = .ok (.iload_n 1, 1) := by decide +kernel
theorem dX12_speed_2 : decode cX12_speed 2 = .ok (.invokevirtual 84, 3) := by decide +kernel
theorem dX12_speed_5 : decode cX12_speed 5 = .ok (.ifCond .eq 5, 3) := by decide +kernel
theorem dX12_speed_8 : decode cX12_speed 8 = .ok (.iconst (-1), 1) := by decide +kernel
theorem dX12_speed_9 : decode cX12_speed 9 = .ok (.ireturn, 1) := by decide +kernel
theorem dX12_speed_10 : decode cX12_speed 10 = .ok (.iload_n 2, 1) := by decide +kernel
theorem dX12_speed_11 : decode cX12_speed 11 = .ok (.bipush (-50), 2) := by decide +kernel
theorem dX12_speed_13 : decode cX12_speed 13 = .ok (.bipush 50, 2) := by decide +kernel
theorem dX12_speed_15 : decode cX12_speed 15 = .ok (.invokestatic 34, 3) := by decide +kernel
theorem dX12_speed_18 : decode cX12_speed 18 = .ok (.ifCond .ne 6, 3) := by decide +kernel
theorem dX12_speed_21 : decode cX12_speed 21 = .ok (.bipush (-2), 2) := by decide +kernel
theorem dX12_speed_23 : decode cX12_speed 23 = .ok (.ireturn, 1) := by decide +kernel
theorem dX12_speed_24 : decode cX12_speed 24 = .ok (.aload_n 0, 1) := by decide +kernel
theorem dX12_speed_25 : decode cX12_speed 25 = .ok (.iload_n 1, 1) := by decide +kernel
theorem dX12_speed_26 : decode cX12_speed 26 = .ok (.iconst 1, 1) := by decide +kernel
theorem dX12_speed_27 : decode cX12_speed 27 = .ok (.invokevirtual 46, 3) := by decide +kernel
theorem dX12_speed_30 : decode cX12_speed 30 = .ok (.istore_n 3, 1) := by decide +kernel
theorem dX12_speed_31 : decode cX12_speed 31 = .ok (.iload_n 3, 1) := by decide +kernel
theorem dX12_speed_32 : decode cX12_speed 32 = .ok (.iload_n 2, 1) := by decide +kernel
theorem dX12_speed_33 : decode cX12_speed 33 = .ok (.if_icmp .ne 6, 3) := by decide +kernel
theorem dX12_speed_36 : decode cX12_speed 36 = .ok (.bipush (-5), 2) := by decide +kernel
theorem dX12_speed_38 : decode cX12_speed 38 = .ok (.ireturn, 1) := by decide +kernel
theorem dX12_speed_39 : decode cX12_speed 39 = .ok (.aload_n 0, 1) := by decide +kernel
theorem dX12_speed_40 : decode cX12_speed 40 = .ok (.invokevirtual 74, 3) := by decide +kernel
theorem dX12_speed_43 : decode cX12_speed 43 = .ok (.aload_n 0, 1) := by decide +kernel
theorem dX12_speed_44 : decode cX12_speed 44 = .ok (.iload_n 1, 1) := by decide +kernel
theorem dX12_speed_45 : decode cX12_speed 45 = .ok (.iconst 1, 1) := by decide +kernel
theorem dX12_speed_46 : decode cX12_speed 46 = .ok (.iload_n 2, 1) := by decide +kernel
theorem dX12_speed_47 : decode cX12_speed 47 = .ok (.invokevirtual 56, 3) := by decide +kernel
theorem dX12_speed_50 : decode cX12_speed 50 = .ok (.sipush 1000, 3) := by decide +kernel
theorem dX12_speed_53 : decode cX12_speed 53 = .ok (.iload_n 3, 1) := by decide +kernel
theorem dX12_speed_54 : decode cX12_speed 54 = .ok (.iadd, 1) := by decide +kernel
theorem dX12_speed_55 : decode cX12_speed 55 = .ok (.ireturn, 1) := by decide +kernel
theorem dX12_turned_0 : decode cX12_turned 0 = .ok (.iload_n 0, 1) := by decide +kernel
theorem dX12_turned_1 : decode cX12_turned 1 = .ok (.ifCond .ge 8, 3) := by decide +kernel
theorem dX12_turned_4 : decode cX12_turned 4 = .ok (.iload_n 0, 1) := by decide +kernel
theorem dX12_turned_5 : decode cX12_turned 5 = .ok (.ineg, 1) := by decide +kernel
theorem dX12_turned_6 : decode cX12_turned 6 = .ok (.goto 19, 3) := by decide +kernel
theorem dX12_turned_9 : decode cX12_turned 9 = .ok (.iload_n 0, 1) := by decide +kernel
theorem dX12_turned_10 : decode cX12_turned 10 = .ok (.sipush 1000, 3) := by decide +kernel
theorem dX12_turned_13 : decode cX12_turned 13 = .ok (.if_icmp .le 11, 3) := by decide +kernel
theorem dX12_turned_16 : decode cX12_turned 16 = .ok (.sipush 2000, 3) := by decide +kernel
theorem dX12_turned_19 : decode cX12_turned 19 = .ok (.iload_n 0, 1) := by decide +kernel
theorem dX12_turned_20 : decode cX12_turned 20 = .ok (.isub, 1) := by decide +kernel
theorem dX12_turned_21 : decode cX12_turned 21 = .ok (.goto 4, 3) := by decide +kernel
theorem dX12_turned_24 : decode cX12_turned 24 = .ok (.iload_n 0, 1) := by decide +kernel
theorem dX12_turned_25 : decode cX12_turned 25 = .ok (.ireturn, 1) := by decide +kernel
set_option maxRecDepth 20000 in
theorem ggX12_goes_X12_its : GoodIn wsX12_goes wsX12_its := goodIn_r _ [5, 6, 45, 46, 47, 48, 49, 50, 51, 52, 53, 54, 55, 56, 57, 58, 59, 60, 61, 62] rfl (by decide +kernel)
set_option maxRecDepth 20000 in
theorem gX12_goes_X12_its : GoodIn wsX12_goes (wsV RX12 46 RX12 yX12_its wsX12_its) := goodIn_app (goodIn_of _ (by decide +kernel)) ggX12_goes_X12_its
set_option maxRecDepth 20000 in
theorem ggX12_goes_X12_turned : GoodIn wsX12_goes wsX12_turned := goodIn_r _ [9] rfl (by decide +kernel)
set_option maxRecDepth 20000 in
theorem gX12_goes_X12_turned : GoodIn wsX12_goes (va_wsS RX12 87 yX12_turned wsX12_turned) := goodIn_app (goodIn_of _ (by decide +kernel)) ggX12_goes_X12_turned
set_option maxRecDepth 20000 in
theorem ggX12_goes_X12_gives : GoodIn wsX12_goes wsX12_gives := goodIn_r _ [13, 6, 45, 46, 47, 48, 49, 50, 51, 52, 53, 54, 55, 56, 57, 58, 59, 60, 61, 62] rfl (by decide +kernel)
set_option maxRecDepth 20000 in
theorem gX12_goes_X12_gives : GoodIn wsX12_goes (wsV RX12 56 RX12 yX12_gives wsX12_gives) := goodIn_app (goodIn_of _ (by decide +kernel)) ggX12_goes_X12_gives
set_option maxRecDepth 20000 in
theorem ggX12_goes_X12_tells : GoodIn wsX12_goes wsX12_tells := goodIn_r _ [17, 6, 45, 46, 47, 48, 49, 50, 51, 52, 53, 54, 55, 56, 57, 58, 59, 60, 61, 62] rfl (by decide +kernel)
set_option maxRecDepth 20000 in
theorem gX12_goes_X12_tells : GoodIn wsX12_goes (wsV RX12 60 RX12 yX12_tells wsX12_tells) := goodIn_app (goodIn_of _ (by decide +kernel)) ggX12_goes_X12_tells
set_option maxRecDepth 20000 in
theorem ggX12_goes_X12_changes : GoodIn wsX12_goes wsX12_changes := goodIn_r _ [21, 6, 1, 2, 3, 4, 5, 22, 23, 24, 25, 26, 27, 28, 29, 30, 31, 32, 33, 34, 35, 36, 37, 38, 39, 40, 10, 11, 12, 13, 14, 15, 16, 17, 41, 42, 43, 44, 45, 46, 47, 48, 49, 50, 51, 52, 53, 54, 55, 56, 57, 58, 59, 60, 61, 62] rfl (by decide +kernel)
set_option maxRecDepth 20000 in
theorem gX12_goes_X12_changes : GoodIn wsX12_goes (wsV RX12 66 RX12 yX12_changes wsX12_changes) := goodIn_app (goodIn_of _ (by decide +kernel)) ggX12_goes_X12_changes
theorem dX12_goes_0 : decode cX12_goes 0 = .ok (.aload_n 0, 1) := by decide +kernel
theorem dX12_goes_1 : decode cX12_goes 1 = .ok (.iload_n 1, 1) := by decide +kernel
theorem dX12_goes_2 : decode cX12_goes 2 = .ok (.iconst 1, 1) := by decide +kernel
theorem dX12_goes_3 : decode cX12_goes 3 = .ok (.invokevirtual 46, 3) := by decide +kernel
theorem dX12_goes_6 : decode cX12_goes 6 = .ok (.istore_n 2, 1) := by decide +kernel
theorem dX12_goes_7 : decode cX12_goes 7 = .ok (.aload_n 0, 1) := by decide +kernel
theorem dX12_goes_8 : decode cX12_goes 8 = .ok (.iload_n 1, 1) := by decide +kernel
theorem dX12_goes_9 : decode cX12_goes 9 = .ok (.iconst 0, 1) := by decide +kernel
theorem dX12_goes_10 : decode cX12_goes 10 = .ok (.invokevirtual 46, 3) := by decide +kernel
theorem dX12_goes_13 : decode cX12_goes 13 = .ok (.iload_n 2, 1) := by decide +kernel
theorem dX12_goes_14 : decode cX12_goes 14 = .ok (.iadd, 1) := by decide +kernel
theorem dX12_goes_15 : decode cX12_goes 15 = .ok (.istore_n 3, 1) := by decide +kernel
theorem dX12_goes_16 : decode cX12_goes 16 = .ok (.iload_n 3, 1) := by decide +kernel
theorem dX12_goes_17 : decode cX12_goes 17 = .ok (.invokestatic 87, 3) := by decide +kernel
theorem dX12_goes_20 : decode cX12_goes 20 = .ok (.istore 4, 2) := by decide +kernel
theorem dX12_goes_22 : decode cX12_goes 22 = .ok (.aload_n 0, 1) := by decide +kernel
theorem dX12_goes_23 : decode cX12_goes 23 = .ok (.iload_n 1, 1) := by decide +kernel
theorem dX12_goes_24 : decode cX12_goes 24 = .ok (.iconst 0, 1) := by decide +kernel
theorem dX12_goes_25 : decode cX12_goes 25 = .ok (.iload 4, 2) := by decide +kernel
theorem dX12_goes_27 : decode cX12_goes 27 = .ok (.invokevirtual 56, 3) := by decide +kernel
theorem dX12_goes_30 : decode cX12_goes 30 = .ok (.aload_n 0, 1) := by decide +kernel
theorem dX12_goes_31 : decode cX12_goes 31 = .ok (.iload_n 1, 1) := by decide +kernel
theorem dX12_goes_32 : decode cX12_goes 32 = .ok (.iconst 4, 1) := by decide +kernel
theorem dX12_goes_33 : decode cX12_goes 33 = .ok (.aload_n 0, 1) := by decide +kernel
theorem dX12_goes_34 : decode cX12_goes 34 = .ok (.iload_n 1, 1) := by decide +kernel
theorem dX12_goes_35 : decode cX12_goes 35 = .ok (.iconst 4, 1) := by decide +kernel
theorem dX12_goes_36 : decode cX12_goes 36 = .ok (.invokevirtual 46, 3) := by decide +kernel
theorem dX12_goes_39 : decode cX12_goes 39 = .ok (.iload_n 2, 1) := by decide +kernel
theorem dX12_goes_40 : decode cX12_goes 40 = .ok (.ifCond .ge 8, 3) := by decide +kernel
theorem dX12_goes_43 : decode cX12_goes 43 = .ok (.iload_n 2, 1) := by decide +kernel
theorem dX12_goes_44 : decode cX12_goes 44 = .ok (.ineg, 1) := by decide +kernel
theorem dX12_goes_45 : decode cX12_goes 45 = .ok (.goto 4, 3) := by decide +kernel
theorem dX12_goes_48 : decode cX12_goes 48 = .ok (.iload_n 2, 1) := by decide +kernel
theorem dX12_goes_49 : decode cX12_goes 49 = .ok (.iadd, 1) := by decide +kernel
theorem dX12_goes_50 : decode cX12_goes 50 = .ok (.invokevirtual 56, 3) := by decide +kernel
theorem dX12_goes_53 : decode cX12_goes 53 = .ok (.iload 4, 2) := by decide +kernel
theorem dX12_goes_55 : decode cX12_goes 55 = .ok (.iload_n 3, 1) := by decide +kernel
theorem dX12_goes_56 : decode cX12_goes 56 = .ok (.if_icmp .eq 33, 3) := by decide +kernel
theorem dX12_goes_59 : decode cX12_goes 59 = .ok (.aload_n 0, 1) := by decide +kernel
theorem dX12_goes_60 : decode cX12_goes 60 = .ok (.iload_n 1, 1) := by decide +kernel
theorem dX12_goes_61 : decode cX12_goes 61 = .ok (.iconst 1, 1) := by decide +kernel
theorem dX12_goes_62 : decode cX12_goes 62 = .ok (.iload_n 2, 1) := by decide +kernel
theorem dX12_goes_63 : decode cX12_goes 63 = .ok (.ineg, 1) := by decide +kernel
theorem dX12_goes_64 : decode cX12_goes 64 = .ok (.invokevirtual 56, 3) := by decide +kernel
theorem dX12_goes_67 : decode cX12_goes 67 = .ok (.aload_n 0, 1) := by decide +kernel
theorem dX12_goes_68 : decode cX12_goes 68 = .ok (.iload_n 1, 1) := by decide +kernel
theorem dX12_goes_69 : decode cX12_goes 69 = .ok (.iconst 5, 1) := by decide +kernel
theorem dX12_goes_70 : decode cX12_goes 70 = .ok (.aload_n 0, 1) := by decide +kernel
theorem dX12_goes_71 : decode cX12_goes 71 = .ok (.iload_n 1, 1) := by decide +kernel
theorem dX12_goes_72 : decode cX12_goes 72 = .ok (.iconst 5, 1) := by decide +kernel
theorem dX12_goes_73 : decode cX12_goes 73 = .ok (.invokevirtual 46, 3) := by decide +kernel
theorem dX12_goes_76 : decode cX12_goes 76 = .ok (.iconst 1, 1) := by decide +kernel
theorem dX12_goes_77 : decode cX12_goes 77 = .ok (.iadd, 1) := by decide +kernel
theorem dX12_goes_78 : decode cX12_goes 78 = .ok (.invokevirtual 56, 3) := by decide +kernel
theorem dX12_goes_81 : decode cX12_goes 81 = .ok (.aload_n 0, 1) := by decide +kernel
theorem dX12_goes_82 : decode cX12_goes 82 = .ok (.iconst 2, 1) := by decide +kernel
theorem dX12_goes_83 : decode cX12_goes 83 = .ok (.iload_n 1, 1) := by decide +kernel
theorem dX12_goes_84 : decode cX12_goes 84 = .ok (.iload 4, 2) := by decide +kernel
theorem dX12_goes_86 : decode cX12_goes 86 = .ok (.invokevirtual 60, 3) := by decide +kernel
theorem dX12_goes_89 : decode cX12_goes 89 = .ok (.aload_n 0, 1) := by decide +kernel
theorem dX12_goes_90 : decode cX12_goes 90 = .ok (.iload_n 1, 1) := by decide +kernel
theorem dX12_goes_91 : decode cX12_goes 91 = .ok (.invokevirtual 66, 3) := by decide +kernel
theorem dX12_goes_94 : decode cX12_goes 94 = .ok (.ireturn, 1) := by decide +kernel
set_option maxRecDepth 20000 in
theorem ggX12_aTick_X12_goes : GoodIn wsX12_aTick wsX12_goes := goodIn_r _ [6, 7, 8, 9, 5, 10, 1, 11, 12, 13, 14, 15, 16, 17, 18, 19, 20, 21, 22, 23, 24, 25, 26, 27, 28, 29, 30, 31, 32, 33, 34, 35, 36, 37, 38, 39, 40, 41, 42, 43, 44, 45, 46, 47, 48, 49, 50, 51, 52, 53, 54, 55, 56, 57, 58, 59, 60, 61, 62, 63, 64, 65, 66] rfl (by decide +kernel)
set_option maxRecDepth 20000 in
theorem gX12_aTick_X12_goes : GoodIn wsX12_aTick (wsV RX12 90 RX12 yX12_goes wsX12_goes) := goodIn_app (goodIn_of _ (by decide +kernel)) ggX12_aTick_X12_goes
set_option maxRecDepth 20000 in
theorem ggX12_aTick_X12_of : GoodIn wsX12_aTick wsX12_of := goodIn_r _ [41, 1, 49, 50, 51, 52, 53, 54, 55, 56, 57, 58, 59, 60, 61, 62, 63, 64, 65, 66] rfl (by decide +kernel)
set_option maxRecDepth 20000 in
theorem gX12_aTick_X12_of : GoodIn wsX12_aTick (wsV RX12 30 RX12 yX12_of wsX12_of) := goodIn_app (goodIn_of _ (by decide +kernel)) ggX12_aTick_X12_of
set_option maxRecDepth 20000 in
theorem ggX12_aTick_X12_isInside : GoodIn wsX12_aTick wsX12_isInside := goodIn_r _ [29, 1, 49, 50, 51, 52, 53, 54, 55, 56, 57, 58, 59, 60, 61, 62, 63, 64, 65, 66] rfl (by decide +kernel)
set_option maxRecDepth 20000 in
theorem gX12_aTick_X12_isInside : GoodIn wsX12_aTick (wsV RX12 49 RX12 yX12_isInside wsX12_isInside) := goodIn_app (goodIn_of _ (by decide +kernel)) ggX12_aTick_X12_isInside
set_option maxRecDepth 20000 in
theorem ggX12_aTick_X12_puts : GoodIn wsX12_aTick wsX12_puts := goodIn_r _ [48, 1, 49, 50, 51, 52, 53, 54, 55, 56, 57, 58, 59, 60, 61, 62, 63, 64, 65, 66] rfl (by decide +kernel)
set_option maxRecDepth 20000 in
theorem gX12_aTick_X12_puts : GoodIn wsX12_aTick (wsV RX12 63 RX12 yX12_puts wsX12_puts) := goodIn_app (goodIn_of _ (by decide +kernel)) ggX12_aTick_X12_puts
theorem dX12_aTick_0 : decode cX12_aTick 0 = .ok (.aload_n 0, 1) := by decide +kernel
theorem dX12_aTick_1 : decode cX12_aTick 1 = .ok (.getfield 7, 3) := by decide +kernel
theorem dX12_aTick_4 : decode cX12_aTick 4 = .ok (.iconst 0, 1) := by decide +kernel
theorem dX12_aTick_5 : decode cX12_aTick 5 = .ok (.dup2, 1) := by decide +kernel
theorem dX12_aTick_6 : decode cX12_aTick 6 = .ok (.iaload, 1) := by decide +kernel
theorem dX12_aTick_7 : decode cX12_aTick 7 = .ok (.iconst 1, 1) := by decide +kernel
theorem dX12_aTick_8 : decode cX12_aTick 8 = .ok (.iadd, 1) := by decide +kernel
theorem dX12_aTick_9 : decode cX12_aTick 9 = .ok (.iastore, 1) := by decide +kernel
theorem dX12_aTick_10 : decode cX12_aTick 10 = .ok (.iconst 0, 1) := by decide +kernel
theorem dX12_aTick_11 : decode cX12_aTick 11 = .ok (.istore_n 1, 1) := by decide +kernel
theorem dX12_aTick_12 : decode cX12_aTick 12 = .ok (.iconst 0, 1) := by decide +kernel
theorem dX12_aTick_13 : decode cX12_aTick 13 = .ok (.istore_n 2, 1) := by decide +kernel
theorem dX12_aTick_14 : decode cX12_aTick 14 = .ok (.iload_n 2, 1) := by decide +kernel
theorem dX12_aTick_15 : decode cX12_aTick 15 = .ok (.aload_n 0, 1) := by decide +kernel
theorem dX12_aTick_16 : decode cX12_aTick 16 = .ok (.getfield 7, 3) := by decide +kernel
theorem dX12_aTick_19 : decode cX12_aTick 19 = .ok (.iconst 2, 1) := by decide +kernel
theorem dX12_aTick_20 : decode cX12_aTick 20 = .ok (.iaload, 1) := by decide +kernel
theorem dX12_aTick_21 : decode cX12_aTick 21 = .ok (.if_icmp .ge 17, 3) := by decide +kernel
theorem dX12_aTick_24 : decode cX12_aTick 24 = .ok (.iload_n 1, 1) := by decide +kernel
theorem dX12_aTick_25 : decode cX12_aTick 25 = .ok (.aload_n 0, 1) := by decide +kernel
theorem dX12_aTick_26 : decode cX12_aTick 26 = .ok (.iload_n 2, 1) := by decide +kernel
theorem dX12_aTick_27 : decode cX12_aTick 27 = .ok (.invokevirtual 90, 3) := by decide +kernel
theorem dX12_aTick_30 : decode cX12_aTick 30 = .ok (.iadd, 1) := by decide +kernel
theorem dX12_aTick_31 : decode cX12_aTick 31 = .ok (.istore_n 1, 1) := by decide +kernel
theorem dX12_aTick_32 : decode cX12_aTick 32 = .ok (.iinc 2 1, 3) := by decide +kernel
theorem dX12_aTick_35 : decode cX12_aTick 35 = .ok (.goto (-21), 3) := by decide +kernel
theorem dX12_aTick_38 : decode cX12_aTick 38 = .ok (.iconst 0, 1) := by decide +kernel
theorem dX12_aTick_39 : decode cX12_aTick 39 = .ok (.istore_n 2, 1) := by decide +kernel
theorem dX12_aTick_40 : decode cX12_aTick 40 = .ok (.iload_n 2, 1) := by decide +kernel
theorem dX12_aTick_41 : decode cX12_aTick 41 = .ok (.aload_n 0, 1) := by decide +kernel
theorem dX12_aTick_42 : decode cX12_aTick 42 = .ok (.getfield 7, 3) := by decide +kernel
theorem dX12_aTick_45 : decode cX12_aTick 45 = .ok (.iconst 2, 1) := by decide +kernel
theorem dX12_aTick_46 : decode cX12_aTick 46 = .ok (.iaload, 1) := by decide +kernel
theorem dX12_aTick_47 : decode cX12_aTick 47 = .ok (.if_icmp .ge 54, 3) := by decide +kernel
theorem dX12_aTick_50 : decode cX12_aTick 50 = .ok (.iconst 0, 1) := by decide +kernel
theorem dX12_aTick_51 : decode cX12_aTick 51 = .ok (.istore_n 3, 1) := by decide +kernel
theorem dX12_aTick_52 : decode cX12_aTick 52 = .ok (.iload_n 3, 1) := by decide +kernel
theorem dX12_aTick_53 : decode cX12_aTick 53 = .ok (.aload_n 0, 1) := by decide +kernel
theorem dX12_aTick_54 : decode cX12_aTick 54 = .ok (.getfield 7, 3) := by decide +kernel
theorem dX12_aTick_57 : decode cX12_aTick 57 = .ok (.iconst 1, 1) := by decide +kernel
theorem dX12_aTick_58 : decode cX12_aTick 58 = .ok (.iaload, 1) := by decide +kernel
theorem dX12_aTick_59 : decode cX12_aTick 59 = .ok (.if_icmp .ge 36, 3) := by decide +kernel
theorem dX12_aTick_62 : decode cX12_aTick 62 = .ok (.aload_n 0, 1) := by decide +kernel
theorem dX12_aTick_63 : decode cX12_aTick 63 = .ok (.iload_n 3, 1) := by decide +kernel
theorem dX12_aTick_64 : decode cX12_aTick 64 = .ok (.iconst 5, 1) := by decide +kernel
theorem dX12_aTick_65 : decode cX12_aTick 65 = .ok (.aload_n 0, 1) := by decide +kernel
theorem dX12_aTick_66 : decode cX12_aTick 66 = .ok (.iload_n 3, 1) := by decide +kernel
theorem dX12_aTick_67 : decode cX12_aTick 67 = .ok (.iconst 5, 1) := by decide +kernel
theorem dX12_aTick_68 : decode cX12_aTick 68 = .ok (.invokevirtual 30, 3) := by decide +kernel
theorem dX12_aTick_71 : decode cX12_aTick 71 = .ok (.aload_n 0, 1) := by decide +kernel
theorem dX12_aTick_72 : decode cX12_aTick 72 = .ok (.iload_n 2, 1) := by decide +kernel
theorem dX12_aTick_73 : decode cX12_aTick 73 = .ok (.iload_n 3, 1) := by decide +kernel
theorem dX12_aTick_74 : decode cX12_aTick 74 = .ok (.invokevirtual 49, 3) := by decide +kernel
theorem dX12_aTick_77 : decode cX12_aTick 77 = .ok (.ifCond .eq 7, 3) := by decide +kernel
theorem dX12_aTick_80 : decode cX12_aTick 80 = .ok (.iconst 1, 1) := by decide +kernel
theorem dX12_aTick_81 : decode cX12_aTick 81 = .ok (.goto 4, 3) := by decide +kernel
theorem dX12_aTick_84 : decode cX12_aTick 84 = .ok (.iconst 0, 1) := by decide +kernel
theorem dX12_aTick_85 : decode cX12_aTick 85 = .ok (.iadd, 1) := by decide +kernel
theorem dX12_aTick_86 : decode cX12_aTick 86 = .ok (.invokevirtual 63, 3) := by decide +kernel
theorem dX12_aTick_89 : decode cX12_aTick 89 = .ok (.iinc 3 1, 3) := by decide +kernel
theorem dX12_aTick_92 : decode cX12_aTick 92 = .ok (.goto (-40), 3) := by decide +kernel
theorem dX12_aTick_95 : decode cX12_aTick 95 = .ok (.iinc 2 1, 3) := by decide +kernel
theorem dX12_aTick_98 : decode cX12_aTick 98 = .ok (.goto (-58), 3) := by decide +kernel
theorem dX12_aTick_101 : decode cX12_aTick 101 = .ok (.iload_n 1, 1) := by decide +kernel
theorem dX12_aTick_102 : decode cX12_aTick 102 = .ok (.ireturn, 1) := by decide +kernel
set_option maxRecDepth 20000 in
theorem ggX12_pass_X12_in : GoodIn wsX12_pass wsX12_in := goodIn_r _ [5] rfl (by decide +kernel)
set_option maxRecDepth 20000 in
theorem gX12_pass_X12_in : GoodIn wsX12_pass (va_wsS RX12 34 yX12_in wsX12_in) := goodIn_app (goodIn_of _ (by decide +kernel)) ggX12_pass_X12_in
set_option maxRecDepth 20000 in
theorem ggX12_pass_X12_record : GoodIn wsX12_pass wsX12_record := goodIn_r _ [9, 10, 11, 1, 59, 60, 61, 62, 63, 64, 65, 66, 67, 68, 69, 70, 71, 72, 73, 74, 75, 76] rfl (by decide +kernel)
set_option maxRecDepth 20000 in
theorem gX12_pass_X12_record : GoodIn wsX12_pass (wsV RX12 74 RX12 yX12_record wsX12_record) := goodIn_app (goodIn_of _ (by decide +kernel)) ggX12_pass_X12_record
set_option maxRecDepth 20000 in
theorem ggX12_pass_X12_aTick : GoodIn wsX12_pass wsX12_aTick := goodIn_r _ [15, 1, 16, 17, 18, 4, 19, 20, 21, 22, 23, 24, 25, 26, 27, 28, 29, 30, 31, 32, 33, 34, 35, 36, 37, 38, 39, 40, 41, 42, 43, 44, 45, 46, 47, 48, 49, 50, 51, 52, 53, 54, 2, 3, 5, 55, 56, 57, 58, 59, 60, 61, 62, 63, 64, 65, 66, 67, 68, 69, 70, 71, 72, 73, 74, 75, 76] rfl (by decide +kernel)
set_option maxRecDepth 20000 in
theorem gX12_pass_X12_aTick : GoodIn wsX12_pass (wsV RX12 93 RX12 yX12_aTick wsX12_aTick) := goodIn_app (goodIn_of _ (by decide +kernel)) ggX12_pass_X12_aTick
theorem dX12_pass_0 : decode cX12_pass 0 = .ok (.iload_n 1, 1) := by decide +kernel
theorem dX12_pass_1 : decode cX12_pass 1 = .ok (.iconst 1, 1) := by decide +kernel
theorem dX12_pass_2 : decode cX12_pass 2 = .ok (.bipush 100, 2) := by decide +kernel
theorem dX12_pass_4 : decode cX12_pass 4 = .ok (.invokestatic 34, 3) := by decide +kernel
theorem dX12_pass_7 : decode cX12_pass 7 = .ok (.ifCond .ne 6, 3) := by decide +kernel
theorem dX12_pass_10 : decode cX12_pass 10 = .ok (.bipush (-2), 2) := by decide +kernel
theorem dX12_pass_12 : decode cX12_pass 12 = .ok (.ireturn, 1) := by decide +kernel
theorem dX12_pass_13 : decode cX12_pass 13 = .ok (.aload_n 0, 1) := by decide +kernel
theorem dX12_pass_14 : decode cX12_pass 14 = .ok (.getfield 7, 3) := by decide +kernel
theorem dX12_pass_17 : decode cX12_pass 17 = .ok (.iconst 0, 1) := by decide +kernel
theorem dX12_pass_18 : decode cX12_pass 18 = .ok (.iaload, 1) := by decide +kernel
theorem dX12_pass_19 : decode cX12_pass 19 = .ok (.iload_n 1, 1) := by decide +kernel
theorem dX12_pass_20 : decode cX12_pass 20 = .ok (.iadd, 1) := by decide +kernel
theorem dX12_pass_21 : decode cX12_pass 21 = .ok (.sipush 9999, 3) := by decide +kernel
theorem dX12_pass_24 : decode cX12_pass 24 = .ok (.if_icmp .le 6, 3) := by decide +kernel
theorem dX12_pass_27 : decode cX12_pass 27 = .ok (.bipush (-4), 2) := by decide +kernel
theorem dX12_pass_29 : decode cX12_pass 29 = .ok (.ireturn, 1) := by decide +kernel
theorem dX12_pass_30 : decode cX12_pass 30 = .ok (.aload_n 0, 1) := by decide +kernel
theorem dX12_pass_31 : decode cX12_pass 31 = .ok (.invokevirtual 74, 3) := by decide +kernel
theorem dX12_pass_34 : decode cX12_pass 34 = .ok (.iconst 0, 1) := by decide +kernel
theorem dX12_pass_35 : decode cX12_pass 35 = .ok (.istore_n 2, 1) := by decide +kernel
theorem dX12_pass_36 : decode cX12_pass 36 = .ok (.iconst 0, 1) := by decide +kernel
theorem dX12_pass_37 : decode cX12_pass 37 = .ok (.istore_n 3, 1) := by decide +kernel
theorem dX12_pass_38 : decode cX12_pass 38 = .ok (.iload_n 3, 1) := by decide +kernel
theorem dX12_pass_39 : decode cX12_pass 39 = .ok (.iload_n 1, 1) := by decide +kernel
theorem dX12_pass_40 : decode cX12_pass 40 = .ok (.if_icmp .ge 16, 3) := by decide +kernel
theorem dX12_pass_43 : decode cX12_pass 43 = .ok (.iload_n 2, 1) := by decide +kernel
theorem dX12_pass_44 : decode cX12_pass 44 = .ok (.aload_n 0, 1) := by decide +kernel
theorem dX12_pass_45 : decode cX12_pass 45 = .ok (.invokevirtual 93, 3) := by decide +kernel
theorem dX12_pass_48 : decode cX12_pass 48 = .ok (.iadd, 1) := by decide +kernel
theorem dX12_pass_49 : decode cX12_pass 49 = .ok (.istore_n 2, 1) := by decide +kernel
theorem dX12_pass_50 : decode cX12_pass 50 = .ok (.iinc 3 1, 3) := by decide +kernel
theorem dX12_pass_53 : decode cX12_pass 53 = .ok (.goto (-15), 3) := by decide +kernel
theorem dX12_pass_56 : decode cX12_pass 56 = .ok (.iload_n 2, 1) := by decide +kernel
theorem dX12_pass_57 : decode cX12_pass 57 = .ok (.ireturn, 1) := by decide +kernel
theorem dX12_type_0 : decode cX12_type 0 = .ok (.aload_n 0, 1) := by decide +kernel
theorem dX12_type_1 : decode cX12_type 1 = .ok (.getfield 96, 3) := by decide +kernel
theorem dX12_type_4 : decode cX12_type 4 = .ok (.bipush 60, 2) := by decide +kernel
theorem dX12_type_6 : decode cX12_type 6 = .ok (.if_icmp .ne 6, 3) := by decide +kernel
theorem dX12_type_9 : decode cX12_type 9 = .ok (.bipush (-3), 2) := by decide +kernel
theorem dX12_type_11 : decode cX12_type 11 = .ok (.ireturn, 1) := by decide +kernel
theorem dX12_type_12 : decode cX12_type 12 = .ok (.aload_n 0, 1) := by decide +kernel
theorem dX12_type_13 : decode cX12_type 13 = .ok (.getfield 19, 3) := by decide +kernel
theorem dX12_type_16 : decode cX12_type 16 = .ok (.aload_n 0, 1) := by decide +kernel
theorem dX12_type_17 : decode cX12_type 17 = .ok (.getfield 96, 3) := by decide +kernel
theorem dX12_type_20 : decode cX12_type 20 = .ok (.iload_n 1, 1) := by decide +kernel
theorem dX12_type_21 : decode cX12_type 21 = .ok (.castore, 1) := by decide +kernel
theorem dX12_type_22 : decode cX12_type 22 = .ok (.aload_n 0, 1) := by decide +kernel
theorem dX12_type_23 : decode cX12_type 23 = .ok (.dup, 1) := by decide +kernel
theorem dX12_type_24 : decode cX12_type 24 = .ok (.getfield 96, 3) := by decide +kernel
theorem dX12_type_27 : decode cX12_type 27 = .ok (.iconst 1, 1) := by decide +kernel
theorem dX12_type_28 : decode cX12_type 28 = .ok (.iadd, 1) := by decide +kernel
theorem dX12_type_29 : decode cX12_type 29 = .ok (.putfield 96, 3) := by decide +kernel
theorem dX12_type_32 : decode cX12_type 32 = .ok (.aload_n 0, 1) := by decide +kernel
theorem dX12_type_33 : decode cX12_type 33 = .ok (.getfield 96, 3) := by decide +kernel
theorem dX12_type_36 : decode cX12_type 36 = .ok (.ireturn, 1) := by decide +kernel
theorem dX12_clearText_0 : decode cX12_clearText 0 = .ok (.aload_n 0, 1) := by decide +kernel
theorem dX12_clearText_1 : decode cX12_clearText 1 = .ok (.getfield 96, 3) := by decide +kernel
theorem dX12_clearText_4 : decode cX12_clearText 4 = .ok (.istore_n 1, 1) := by decide +kernel
theorem dX12_clearText_5 : decode cX12_clearText 5 = .ok (.aload_n 0, 1) := by decide +kernel
theorem dX12_clearText_6 : decode cX12_clearText 6 = .ok (.iconst 0, 1) := by decide +kernel
theorem dX12_clearText_7 : decode cX12_clearText 7 = .ok (.putfield 96, 3) := by decide +kernel
theorem dX12_clearText_10 : decode cX12_clearText 10 = .ok (.iload_n 1, 1) := by decide +kernel
theorem dX12_clearText_11 : decode cX12_clearText 11 = .ok (.ireturn, 1) := by decide +kernel
set_option maxRecDepth 20000 in
theorem ggX12_isDigit_X12_in : GoodIn wsX12_isDigit wsX12_in := goodIn_r _ [7] rfl (by decide +kernel)
set_option maxRecDepth 20000 in
theorem gX12_isDigit_X12_in : GoodIn wsX12_isDigit (va_wsS RX12 34 yX12_in wsX12_in) := goodIn_app (goodIn_of _ (by decide +kernel)) ggX12_isDigit_X12_in
theorem dX12_isDigit_0 : decode cX12_isDigit 0 = .ok (.aload_n 0, 1) := by decide +kernel
theorem dX12_isDigit_1 : decode cX12_isDigit 1 = .ok (.getfield 99, 3) := by decide +kernel
theorem dX12_isDigit_4 : decode cX12_isDigit 4 = .ok (.aload_n 0, 1) := by decide +kernel
theorem dX12_isDigit_5 : decode cX12_isDigit 5 = .ok (.getfield 96, 3) := by decide +kernel
theorem dX12_isDigit_8 : decode cX12_isDigit 8 = .ok (.if_icmp .ge 26, 3) := by decide +kernel
theorem dX12_isDigit_11 : decode cX12_isDigit 11 = .ok (.aload_n 0, 1) := by decide +kernel
theorem dX12_isDigit_12 : decode cX12_isDigit 12 = .ok (.getfield 19, 3) := by decide +kernel
theorem dX12_isDigit_15 : decode cX12_isDigit 15 = .ok (.aload_n 0, 1) := by decide +kernel
theorem dX12_isDigit_16 : decode cX12_isDigit 16 = .ok (.getfield 99, 3) := by decide +kernel
theorem dX12_isDigit_19 : decode cX12_isDigit 19 = .ok (.caload, 1) := by decide +kernel
theorem dX12_isDigit_20 : decode cX12_isDigit 20 = .ok (.bipush 48, 2) := by decide +kernel
theorem dX12_isDigit_22 : decode cX12_isDigit 22 = .ok (.bipush 57, 2) := by decide +kernel
theorem dX12_isDigit_24 : decode cX12_isDigit 24 = .ok (.invokestatic 34, 3) := by decide +kernel
theorem dX12_isDigit_27 : decode cX12_isDigit 27 = .ok (.ifCond .eq 7, 3) := by decide +kernel
theorem dX12_isDigit_30 : decode cX12_isDigit 30 = .ok (.iconst 1, 1) := by decide +kernel
theorem dX12_isDigit_31 : decode cX12_isDigit 31 = .ok (.goto 4, 3) := by decide +kernel
theorem dX12_isDigit_34 : decode cX12_isDigit 34 = .ok (.iconst 0, 1) := by decide +kernel
theorem dX12_isDigit_35 : decode cX12_isDigit 35 = .ok (.ireturn, 1) := by decide +kernel
theorem dX12_takes_0 : decode cX12_takes 0 = .ok (.aload_n 0, 1) := by decide +kernel
theorem dX12_takes_1 : decode cX12_takes 1 = .ok (.getfield 99, 3) := by decide +kernel
theorem dX12_takes_4 : decode cX12_takes 4 = .ok (.aload_n 0, 1) := by decide +kernel
theorem dX12_takes_5 : decode cX12_takes 5 = .ok (.getfield 96, 3) := by decide +kernel
theorem dX12_takes_8 : decode cX12_takes 8 = .ok (.if_icmp .eq 16, 3) := by decide +kernel
theorem dX12_takes_11 : decode cX12_takes 11 = .ok (.aload_n 0, 1) := by decide +kernel
theorem dX12_takes_12 : decode cX12_takes 12 = .ok (.getfield 19, 3) := by decide +kernel
theorem dX12_takes_15 : decode cX12_takes 15 = .ok (.aload_n 0, 1) := by decide +kernel
theorem dX12_takes_16 : decode cX12_takes 16 = .ok (.getfield 99, 3) := by decide +kernel
theorem dX12_takes_19 : decode cX12_takes 19 = .ok (.caload, 1) := by decide +kernel
theorem dX12_takes_20 : decode cX12_takes 20 = .ok (.iload_n 1, 1) := by decide +kernel
theorem dX12_takes_21 : decode cX12_takes 21 = .ok (.if_icmp .eq 5, 3) := by decide +kernel
theorem dX12_takes_24 : decode cX12_takes 24 = .ok (.iconst 0, 1) := by decide +kernel
theorem dX12_takes_25 : decode cX12_takes 25 = .ok (.ireturn, 1) := by decide +kernel
theorem dX12_takes_26 : decode cX12_takes 26 = .ok (.aload_n 0, 1) := by decide +kernel
theorem dX12_takes_27 : decode cX12_takes 27 = .ok (.dup, 1) := by decide +kernel
theorem dX12_takes_28 : decode cX12_takes 28 = .ok (.getfield 99, 3) := by decide +kernel
theorem dX12_takes_31 : decode cX12_takes 31 = .ok (.iconst 1, 1) := by decide +kernel
theorem dX12_takes_32 : decode cX12_takes 32 = .ok (.iadd, 1) := by decide +kernel
theorem dX12_takes_33 : decode cX12_takes 33 = .ok (.putfield 99, 3) := by decide +kernel
theorem dX12_takes_36 : decode cX12_takes 36 = .ok (.iconst 1, 1) := by decide +kernel
theorem dX12_takes_37 : decode cX12_takes 37 = .ok (.ireturn, 1) := by decide +kernel
set_option maxRecDepth 20000 in
theorem ggX12_takesNumber_X12_isDigit : GoodIn wsX12_takesNumber wsX12_isDigit := goodIn_r _ [8, 2, 9, 1, 10, 11, 7, 12, 13, 14, 15, 16, 17, 18, 19, 20, 21, 22, 23, 24, 25, 26, 27, 28, 29, 30] rfl (by decide +kernel)
set_option maxRecDepth 20000 in
theorem gX12_takesNumber_X12_isDigit : GoodIn wsX12_takesNumber (wsV RX12 102 RX12 yX12_isDigit wsX12_isDigit) := goodIn_app (goodIn_of _ (by decide +kernel)) ggX12_takesNumber_X12_isDigit
theorem dX12_takesNumber_0 : decode cX12_takesNumber 0 = .ok (.aload_n 0, 1) := by decide +kernel
theorem dX12_takesNumber_1 : decode cX12_takesNumber 1 = .ok (.invokevirtual 102, 3) := by decide +kernel
theorem dX12_takesNumber_4 : decode cX12_takesNumber 4 = .ok (.ifCond .ne 5, 3) := by decide +kernel
theorem dX12_takesNumber_7 : decode cX12_takesNumber 7 = .ok (.iconst 0, 1) := by decide +kernel
theorem dX12_takesNumber_8 : decode cX12_takesNumber 8 = .ok (.ireturn, 1) := by decide +kernel
theorem dX12_takesNumber_9 : decode cX12_takesNumber 9 = .ok (.aload_n 0, 1) := by decide +kernel
theorem dX12_takesNumber_10 : decode cX12_takesNumber 10 = .ok (.aload_n 0, 1) := by decide +kernel
theorem dX12_takesNumber_11 : decode cX12_takesNumber 11 = .ok (.getfield 19, 3) := by decide +kernel
theorem dX12_takesNumber_14 : decode cX12_takesNumber 14 = .ok (.aload_n 0, 1) := by decide +kernel
theorem dX12_takesNumber_15 : decode cX12_takesNumber 15 = .ok (.getfield 99, 3) := by decide +kernel
theorem dX12_takesNumber_18 : decode cX12_takesNumber 18 = .ok (.caload, 1) := by decide +kernel
theorem dX12_takesNumber_19 : decode cX12_takesNumber 19 = .ok (.bipush 48, 2) := by decide +kernel
theorem dX12_takesNumber_21 : decode cX12_takesNumber 21 = .ok (.isub, 1) := by decide +kernel
theorem dX12_takesNumber_22 : decode cX12_takesNumber 22 = .ok (.putfield 106, 3) := by decide +kernel
theorem dX12_takesNumber_25 : decode cX12_takesNumber 25 = .ok (.aload_n 0, 1) := by decide +kernel
theorem dX12_takesNumber_26 : decode cX12_takesNumber 26 = .ok (.dup, 1) := by decide +kernel
theorem dX12_takesNumber_27 : decode cX12_takesNumber 27 = .ok (.getfield 99, 3) := by decide +kernel
theorem dX12_takesNumber_30 : decode cX12_takesNumber 30 = .ok (.iconst 1, 1) := by decide +kernel
theorem dX12_takesNumber_31 : decode cX12_takesNumber 31 = .ok (.iadd, 1) := by decide +kernel
theorem dX12_takesNumber_32 : decode cX12_takesNumber 32 = .ok (.putfield 99, 3) := by decide +kernel
theorem dX12_takesNumber_35 : decode cX12_takesNumber 35 = .ok (.iconst 1, 1) := by decide +kernel
theorem dX12_takesNumber_36 : decode cX12_takesNumber 36 = .ok (.istore_n 1, 1) := by decide +kernel
theorem dX12_takesNumber_37 : decode cX12_takesNumber 37 = .ok (.iload_n 1, 1) := by decide +kernel
theorem dX12_takesNumber_38 : decode cX12_takesNumber 38 = .ok (.iconst 4, 1) := by decide +kernel
theorem dX12_takesNumber_39 : decode cX12_takesNumber 39 = .ok (.if_icmp .ge 57, 3) := by decide +kernel
theorem dX12_takesNumber_42 : decode cX12_takesNumber 42 = .ok (.aload_n 0, 1) := by decide +kernel
theorem dX12_takesNumber_43 : decode cX12_takesNumber 43 = .ok (.getfield 106, 3) := by decide +kernel
theorem dX12_takesNumber_46 : decode cX12_takesNumber 46 = .ok (.ifCond .le 50, 3) := by decide +kernel
theorem dX12_takesNumber_49 : decode cX12_takesNumber 49 = .ok (.aload_n 0, 1) := by decide +kernel
theorem dX12_takesNumber_50 : decode cX12_takesNumber 50 = .ok (.invokevirtual 102, 3) := by decide +kernel
theorem dX12_takesNumber_53 : decode cX12_takesNumber 53 = .ok (.ifCond .eq 43, 3) := by decide +kernel
theorem dX12_takesNumber_56 : decode cX12_takesNumber 56 = .ok (.aload_n 0, 1) := by decide +kernel
theorem dX12_takesNumber_57 : decode cX12_takesNumber 57 = .ok (.bipush 10, 2) := by decide +kernel
theorem dX12_takesNumber_59 : decode cX12_takesNumber 59 = .ok (.aload_n 0, 1) := by decide +kernel
theorem dX12_takesNumber_60 : decode cX12_takesNumber 60 = .ok (.getfield 106, 3) := by decide +kernel
theorem dX12_takesNumber_63 : decode cX12_takesNumber 63 = .ok (.imul, 1) := by decide +kernel
theorem dX12_takesNumber_64 : decode cX12_takesNumber 64 = .ok (.aload_n 0, 1) := by decide +kernel
theorem dX12_takesNumber_65 : decode cX12_takesNumber 65 = .ok (.getfield 19, 3) := by decide +kernel
theorem dX12_takesNumber_68 : decode cX12_takesNumber 68 = .ok (.aload_n 0, 1) := by decide +kernel
theorem dX12_takesNumber_69 : decode cX12_takesNumber 69 = .ok (.getfield 99, 3) := by decide +kernel
theorem dX12_takesNumber_72 : decode cX12_takesNumber 72 = .ok (.caload, 1) := by decide +kernel
theorem dX12_takesNumber_73 : decode cX12_takesNumber 73 = .ok (.iadd, 1) := by decide +kernel
theorem dX12_takesNumber_74 : decode cX12_takesNumber 74 = .ok (.bipush 48, 2) := by decide +kernel
theorem dX12_takesNumber_76 : decode cX12_takesNumber 76 = .ok (.isub, 1) := by decide +kernel
theorem dX12_takesNumber_77 : decode cX12_takesNumber 77 = .ok (.putfield 106, 3) := by decide +kernel
theorem dX12_takesNumber_80 : decode cX12_takesNumber 80 = .ok (.aload_n 0, 1) := by decide +kernel
theorem dX12_takesNumber_81 : decode cX12_takesNumber 81 = .ok (.dup, 1) := by decide +kernel
theorem dX12_takesNumber_82 : decode cX12_takesNumber 82 = .ok (.getfield 99, 3) := by decide +kernel
theorem dX12_takesNumber_85 : decode cX12_takesNumber 85 = .ok (.iconst 1, 1) := by decide +kernel
theorem dX12_takesNumber_86 : decode cX12_takesNumber 86 = .ok (.iadd, 1) := by decide +kernel
theorem dX12_takesNumber_87 : decode cX12_takesNumber 87 = .ok (.putfield 99, 3) := by decide +kernel
theorem dX12_takesNumber_90 : decode cX12_takesNumber 90 = .ok (.iinc 1 1, 3) := by decide +kernel
theorem dX12_takesNumber_93 : decode cX12_takesNumber 93 = .ok (.goto (-56), 3) := by decide +kernel
theorem dX12_takesNumber_96 : decode cX12_takesNumber 96 = .ok (.iconst 1, 1) := by decide +kernel
theorem dX12_takesNumber_97 : decode cX12_takesNumber 97 = .ok (.ireturn, 1) := by decide +kernel
set_option maxRecDepth 20000 in
theorem ggX12_takesSpan_X12_takes : GoodIn wsX12_takesSpan wsX12_takes := goodIn_r _ [10, 11, 12, 13, 25, 26, 27, 28, 29, 30, 31, 32, 33, 34, 35, 36, 37, 38, 39, 40, 41, 42] rfl (by decide +kernel)
set_option maxRecDepth 20000 in
theorem gX12_takesSpan_X12_takes : GoodIn wsX12_takesSpan (wsV RX12 109 RX12 yX12_takes wsX12_takes) := goodIn_app (goodIn_of _ (by decide +kernel)) ggX12_takesSpan_X12_takes
set_option maxRecDepth 20000 in
theorem ggX12_takesSpan_X12_takesNumber : GoodIn wsX12_takesSpan wsX12_takesNumber := goodIn_r _ [17, 13, 11, 1, 18, 19, 20, 9, 21, 12, 22, 23, 24, 25, 26, 27, 28, 29, 30, 31, 32, 33, 34, 35, 36, 37, 38, 39, 40, 41, 42] rfl (by decide +kernel)
set_option maxRecDepth 20000 in
theorem gX12_takesSpan_X12_takesNumber : GoodIn wsX12_takesSpan (wsV RX12 112 RX12 yX12_takesNumber wsX12_takesNumber) := goodIn_app (goodIn_of _ (by decide +kernel)) ggX12_takesSpan_X12_takesNumber
theorem dX12_takesSpan_0 : decode cX12_takesSpan 0 = .ok (.aload_n 0, 1) := by decide +kernel
theorem dX12_takesSpan_1 : decode cX12_takesSpan 1 = .ok (.bipush 40, 2) := by decide +kernel
theorem dX12_takesSpan_3 : decode cX12_takesSpan 3 = .ok (.invokevirtual 109, 3) := by decide +kernel
theorem dX12_takesSpan_6 : decode cX12_takesSpan 6 = .ok (.istore_n 1, 1) := by decide +kernel
theorem dX12_takesSpan_7 : decode cX12_takesSpan 7 = .ok (.iload_n 1, 1) := by decide +kernel
theorem dX12_takesSpan_8 : decode cX12_takesSpan 8 = .ok (.ifCond .ne 14, 3) := by decide +kernel
theorem dX12_takesSpan_11 : decode cX12_takesSpan 11 = .ok (.aload_n 0, 1) := by decide +kernel
theorem dX12_takesSpan_12 : decode cX12_takesSpan 12 = .ok (.bipush 91, 2) := by decide +kernel
theorem dX12_takesSpan_14 : decode cX12_takesSpan 14 = .ok (.invokevirtual 109, 3) := by decide +kernel
theorem dX12_takesSpan_17 : decode cX12_takesSpan 17 = .ok (.ifCond .ne 5, 3) := by decide +kernel
theorem dX12_takesSpan_20 : decode cX12_takesSpan 20 = .ok (.iconst 0, 1) := by decide +kernel
theorem dX12_takesSpan_21 : decode cX12_takesSpan 21 = .ok (.ireturn, 1) := by decide +kernel
theorem dX12_takesSpan_22 : decode cX12_takesSpan 22 = .ok (.aload_n 0, 1) := by decide +kernel
theorem dX12_takesSpan_23 : decode cX12_takesSpan 23 = .ok (.invokevirtual 112, 3) := by decide +kernel
theorem dX12_takesSpan_26 : decode cX12_takesSpan 26 = .ok (.ifCond .ne 5, 3) := by decide +kernel
theorem dX12_takesSpan_29 : decode cX12_takesSpan 29 = .ok (.iconst 0, 1) := by decide +kernel
theorem dX12_takesSpan_30 : decode cX12_takesSpan 30 = .ok (.ireturn, 1) := by decide +kernel
theorem dX12_takesSpan_31 : decode cX12_takesSpan 31 = .ok (.aload_n 0, 1) := by decide +kernel
theorem dX12_takesSpan_32 : decode cX12_takesSpan 32 = .ok (.aload_n 0, 1) := by decide +kernel
theorem dX12_takesSpan_33 : decode cX12_takesSpan 33 = .ok (.getfield 106, 3) := by decide +kernel
theorem dX12_takesSpan_36 : decode cX12_takesSpan 36 = .ok (.putfield 115, 3) := by decide +kernel
theorem dX12_takesSpan_39 : decode cX12_takesSpan 39 = .ok (.aload_n 0, 1) := by decide +kernel
theorem dX12_takesSpan_40 : decode cX12_takesSpan 40 = .ok (.iload_n 1, 1) := by decide +kernel
theorem dX12_takesSpan_41 : decode cX12_takesSpan 41 = .ok (.ifCond .eq 12, 3) := by decide +kernel
theorem dX12_takesSpan_44 : decode cX12_takesSpan 44 = .ok (.aload_n 0, 1) := by decide +kernel
theorem dX12_takesSpan_45 : decode cX12_takesSpan 45 = .ok (.getfield 115, 3) := by decide +kernel
theorem dX12_takesSpan_48 : decode cX12_takesSpan 48 = .ok (.iconst 1, 1) := by decide +kernel
theorem dX12_takesSpan_49 : decode cX12_takesSpan 49 = .ok (.iadd, 1) := by decide +kernel
theorem dX12_takesSpan_50 : decode cX12_takesSpan 50 = .ok (.goto 7, 3) := by decide +kernel
theorem dX12_takesSpan_53 : decode cX12_takesSpan 53 = .ok (.aload_n 0, 1) := by decide +kernel
theorem dX12_takesSpan_54 : decode cX12_takesSpan 54 = .ok (.getfield 115, 3) := by decide +kernel
theorem dX12_takesSpan_57 : decode cX12_takesSpan 57 = .ok (.putfield 118, 3) := by decide +kernel
theorem dX12_takesSpan_60 : decode cX12_takesSpan 60 = .ok (.aload_n 0, 1) := by decide +kernel
theorem dX12_takesSpan_61 : decode cX12_takesSpan 61 = .ok (.bipush 44, 2) := by decide +kernel
theorem dX12_takesSpan_63 : decode cX12_takesSpan 63 = .ok (.invokevirtual 109, 3) := by decide +kernel
theorem dX12_takesSpan_66 : decode cX12_takesSpan 66 = .ok (.ifCond .eq 10, 3) := by decide +kernel
theorem dX12_takesSpan_69 : decode cX12_takesSpan 69 = .ok (.aload_n 0, 1) := by decide +kernel
theorem dX12_takesSpan_70 : decode cX12_takesSpan 70 = .ok (.invokevirtual 112, 3) := by decide +kernel
theorem dX12_takesSpan_73 : decode cX12_takesSpan 73 = .ok (.ifCond .ne 5, 3) := by decide +kernel
theorem dX12_takesSpan_76 : decode cX12_takesSpan 76 = .ok (.iconst 0, 1) := by decide +kernel
theorem dX12_takesSpan_77 : decode cX12_takesSpan 77 = .ok (.ireturn, 1) := by decide +kernel
theorem dX12_takesSpan_78 : decode cX12_takesSpan 78 = .ok (.aload_n 0, 1) := by decide +kernel
theorem dX12_takesSpan_79 : decode cX12_takesSpan 79 = .ok (.aload_n 0, 1) := by decide +kernel
theorem dX12_takesSpan_80 : decode cX12_takesSpan 80 = .ok (.getfield 106, 3) := by decide +kernel
theorem dX12_takesSpan_83 : decode cX12_takesSpan 83 = .ok (.putfield 121, 3) := by decide +kernel
theorem dX12_takesSpan_86 : decode cX12_takesSpan 86 = .ok (.aload_n 0, 1) := by decide +kernel
theorem dX12_takesSpan_87 : decode cX12_takesSpan 87 = .ok (.bipush 41, 2) := by decide +kernel
theorem dX12_takesSpan_89 : decode cX12_takesSpan 89 = .ok (.invokevirtual 109, 3) := by decide +kernel
theorem dX12_takesSpan_92 : decode cX12_takesSpan 92 = .ok (.istore_n 2, 1) := by decide +kernel
theorem dX12_takesSpan_93 : decode cX12_takesSpan 93 = .ok (.aload_n 0, 1) := by decide +kernel
theorem dX12_takesSpan_94 : decode cX12_takesSpan 94 = .ok (.iload_n 2, 1) := by decide +kernel
theorem dX12_takesSpan_95 : decode cX12_takesSpan 95 = .ok (.ifCond .eq 12, 3) := by decide +kernel
theorem dX12_takesSpan_98 : decode cX12_takesSpan 98 = .ok (.aload_n 0, 1) := by decide +kernel
theorem dX12_takesSpan_99 : decode cX12_takesSpan 99 = .ok (.getfield 121, 3) := by decide +kernel
theorem dX12_takesSpan_102 : decode cX12_takesSpan 102 = .ok (.iconst 1, 1) := by decide +kernel
theorem dX12_takesSpan_103 : decode cX12_takesSpan 103 = .ok (.isub, 1) := by decide +kernel
theorem dX12_takesSpan_104 : decode cX12_takesSpan 104 = .ok (.goto 7, 3) := by decide +kernel
theorem dX12_takesSpan_107 : decode cX12_takesSpan 107 = .ok (.aload_n 0, 1) := by decide +kernel
theorem dX12_takesSpan_108 : decode cX12_takesSpan 108 = .ok (.getfield 121, 3) := by decide +kernel
theorem dX12_takesSpan_111 : decode cX12_takesSpan 111 = .ok (.putfield 124, 3) := by decide +kernel
theorem dX12_takesSpan_114 : decode cX12_takesSpan 114 = .ok (.iload_n 2, 1) := by decide +kernel
theorem dX12_takesSpan_115 : decode cX12_takesSpan 115 = .ok (.ifCond .ne 12, 3) := by decide +kernel
theorem dX12_takesSpan_118 : decode cX12_takesSpan 118 = .ok (.aload_n 0, 1) := by decide +kernel
theorem dX12_takesSpan_119 : decode cX12_takesSpan 119 = .ok (.bipush 93, 2) := by decide +kernel
theorem dX12_takesSpan_121 : decode cX12_takesSpan 121 = .ok (.invokevirtual 109, 3) := by decide +kernel
theorem dX12_takesSpan_124 : decode cX12_takesSpan 124 = .ok (.ifCond .eq 7, 3) := by decide +kernel
theorem dX12_takesSpan_127 : decode cX12_takesSpan 127 = .ok (.iconst 1, 1) := by decide +kernel
theorem dX12_takesSpan_128 : decode cX12_takesSpan 128 = .ok (.goto 4, 3) := by decide +kernel
theorem dX12_takesSpan_131 : decode cX12_takesSpan 131 = .ok (.iconst 0, 1) := by decide +kernel
theorem dX12_takesSpan_132 : decode cX12_takesSpan 132 = .ok (.ireturn, 1) := by decide +kernel
set_option maxRecDepth 20000 in
theorem ggX12_spansOfText_X12_takesSpan : GoodIn wsX12_spansOfText wsX12_takesSpan := goodIn_r _ [7, 8, 9, 10, 11, 12, 13, 14, 15, 6, 16, 1, 2, 17, 18, 19, 20, 21, 22, 23, 24, 25, 26, 27, 28, 29, 30, 31, 32, 33, 34, 35, 36, 37, 38, 39, 40, 41, 42, 43, 44, 45, 46] rfl (by decide +kernel)
set_option maxRecDepth 20000 in
theorem gX12_spansOfText_X12_takesSpan : GoodIn wsX12_spansOfText (wsV RX12 127 RX12 yX12_takesSpan wsX12_takesSpan) := goodIn_app (goodIn_of _ (by decide +kernel)) ggX12_spansOfText_X12_takesSpan
set_option maxRecDepth 20000 in
theorem ggX12_spansOfText_X12_takes : GoodIn wsX12_spansOfText wsX12_takes := goodIn_r _ [16, 1, 2, 17, 29, 30, 31, 32, 33, 34, 35, 36, 37, 38, 39, 40, 41, 42, 43, 44, 45, 46] rfl (by decide +kernel)
set_option maxRecDepth 20000 in
theorem gX12_spansOfText_X12_takes : GoodIn wsX12_spansOfText (wsV RX12 109 RX12 yX12_takes wsX12_takes) := goodIn_app (goodIn_of _ (by decide +kernel)) ggX12_spansOfText_X12_takes
theorem dX12_spansOfText_0 : decode cX12_spansOfText 0 = .ok (.aload_n 0, 1) := by decide +kernel
theorem dX12_spansOfText_1 : decode cX12_spansOfText 1 = .ok (.iconst 0, 1) := by decide +kernel
theorem dX12_spansOfText_2 : decode cX12_spansOfText 2 = .ok (.putfield 99, 3) := by decide +kernel
theorem dX12_spansOfText_5 : decode cX12_spansOfText 5 = .ok (.iconst 0, 1) := by decide +kernel
theorem dX12_spansOfText_6 : decode cX12_spansOfText 6 = .ok (.istore_n 1, 1) := by decide +kernel
theorem dX12_spansOfText_7 : decode cX12_spansOfText 7 = .ok (.iconst 1, 1) := by decide +kernel
theorem dX12_spansOfText_8 : decode cX12_spansOfText 8 = .ok (.istore_n 2, 1) := by decide +kernel
theorem dX12_spansOfText_9 : decode cX12_spansOfText 9 = .ok (.iload_n 2, 1) := by decide +kernel
theorem dX12_spansOfText_10 : decode cX12_spansOfText 10 = .ok (.ifCond .eq 49, 3) := by decide +kernel
theorem dX12_spansOfText_13 : decode cX12_spansOfText 13 = .ok (.aload_n 0, 1) := by decide +kernel
theorem dX12_spansOfText_14 : decode cX12_spansOfText 14 = .ok (.invokevirtual 127, 3) := by decide +kernel
theorem dX12_spansOfText_17 : decode cX12_spansOfText 17 = .ok (.ifCond .ne 6, 3) := by decide +kernel
theorem dX12_spansOfText_20 : decode cX12_spansOfText 20 = .ok (.bipush (-5), 2) := by decide +kernel
theorem dX12_spansOfText_22 : decode cX12_spansOfText 22 = .ok (.ireturn, 1) := by decide +kernel
theorem dX12_spansOfText_23 : decode cX12_spansOfText 23 = .ok (.iinc 1 1, 3) := by decide +kernel
theorem dX12_spansOfText_26 : decode cX12_spansOfText 26 = .ok (.aload_n 0, 1) := by decide +kernel
theorem dX12_spansOfText_27 : decode cX12_spansOfText 27 = .ok (.getfield 99, 3) := by decide +kernel
theorem dX12_spansOfText_30 : decode cX12_spansOfText 30 = .ok (.aload_n 0, 1) := by decide +kernel
theorem dX12_spansOfText_31 : decode cX12_spansOfText 31 = .ok (.getfield 96, 3) := by decide +kernel
theorem dX12_spansOfText_34 : decode cX12_spansOfText 34 = .ok (.if_icmp .ge 7, 3) := by decide +kernel
theorem dX12_spansOfText_37 : decode cX12_spansOfText 37 = .ok (.iconst 1, 1) := by decide +kernel
theorem dX12_spansOfText_38 : decode cX12_spansOfText 38 = .ok (.goto 4, 3) := by decide +kernel
theorem dX12_spansOfText_41 : decode cX12_spansOfText 41 = .ok (.iconst 0, 1) := by decide +kernel
theorem dX12_spansOfText_42 : decode cX12_spansOfText 42 = .ok (.istore_n 2, 1) := by decide +kernel
theorem dX12_spansOfText_43 : decode cX12_spansOfText 43 = .ok (.iload_n 2, 1) := by decide +kernel
theorem dX12_spansOfText_44 : decode cX12_spansOfText 44 = .ok (.ifCond .eq (-35), 3) := by decide +kernel
theorem dX12_spansOfText_47 : decode cX12_spansOfText 47 = .ok (.aload_n 0, 1) := by decide +kernel
theorem dX12_spansOfText_48 : decode cX12_spansOfText 48 = .ok (.bipush 59, 2) := by decide +kernel
theorem dX12_spansOfText_50 : decode cX12_spansOfText 50 = .ok (.invokevirtual 109, 3) := by decide +kernel
theorem dX12_spansOfText_53 : decode cX12_spansOfText 53 = .ok (.ifCond .ne (-44), 3) := by decide +kernel
theorem dX12_spansOfText_56 : decode cX12_spansOfText 56 = .ok (.bipush (-5), 2) := by decide +kernel
theorem dX12_spansOfText_58 : decode cX12_spansOfText 58 = .ok (.ireturn, 1) := by decide +kernel
theorem dX12_spansOfText_59 : decode cX12_spansOfText 59 = .ok (.iload_n 1, 1) := by decide +kernel
theorem dX12_spansOfText_60 : decode cX12_spansOfText 60 = .ok (.ireturn, 1) := by decide +kernel
set_option maxRecDepth 20000 in
theorem ggX12_readSpans_X12_spansOfText : GoodIn wsX12_readSpans wsX12_spansOfText := goodIn_r _ [11, 1, 12, 13, 14, 15, 10, 16, 17, 2, 4, 3, 5, 18, 19, 20, 21, 22, 23, 24, 25, 26, 27, 28, 29, 30, 31, 32, 33, 84, 85, 86, 87, 88, 89, 90, 91, 92, 93, 94, 95, 96, 97, 98, 99, 100, 101] rfl (by decide +kernel)
set_option maxRecDepth 20000 in
theorem gX12_readSpans_X12_spansOfText : GoodIn wsX12_readSpans (wsV RX12 130 RX12 yX12_spansOfText wsX12_spansOfText) := goodIn_app (goodIn_of _ (by decide +kernel)) ggX12_readSpans_X12_spansOfText
set_option maxRecDepth 20000 in
theorem ggX12_readSpans_X12_takesSpan : GoodIn wsX12_readSpans wsX12_takesSpan := goodIn_r _ [16, 17, 2, 4, 3, 5, 18, 19, 20, 10, 21, 1, 12, 22, 23, 24, 25, 26, 27, 28, 29, 30, 31, 32, 33, 84, 85, 86, 87, 88, 89, 90, 91, 92, 93, 94, 95, 96, 97, 98, 99, 100, 101] rfl (by decide +kernel)
set_option maxRecDepth 20000 in
theorem gX12_readSpans_X12_takesSpan : GoodIn wsX12_readSpans (wsV RX12 127 RX12 yX12_takesSpan wsX12_takesSpan) := goodIn_app (goodIn_of _ (by decide +kernel)) ggX12_readSpans_X12_takesSpan
set_option maxRecDepth 20000 in
theorem ggX12_readSpans_X12_record : GoodIn wsX12_readSpans wsX12_record := goodIn_r _ [37, 38, 39, 6, 84, 85, 86, 87, 88, 89, 90, 91, 92, 93, 94, 95, 96, 97, 98, 99, 100, 101] rfl (by decide +kernel)
set_option maxRecDepth 20000 in
theorem gX12_readSpans_X12_record : GoodIn wsX12_readSpans (wsV RX12 74 RX12 yX12_record wsX12_record) := goodIn_app (goodIn_of _ (by decide +kernel)) ggX12_readSpans_X12_record
set_option maxRecDepth 20000 in
theorem ggX12_readSpans_X12_adds : GoodIn wsX12_readSpans wsX12_adds := goodIn_r _ [43, 6, 44, 45, 46, 10, 47, 48, 49, 50, 51, 52, 53, 54, 55, 56, 57, 58, 59, 60, 61, 62, 63, 64, 65, 66, 67, 68, 69, 70, 71, 72, 73, 74, 75, 31, 32, 33, 76, 77, 78, 79, 80, 81, 82, 83, 84, 85, 86, 87, 88, 89, 90, 91, 92, 93, 94, 95, 96, 97, 98, 99, 100, 101] rfl (by decide +kernel)
set_option maxRecDepth 20000 in
theorem gX12_readSpans_X12_adds : GoodIn wsX12_readSpans (wsV RX12 77 RX12 yX12_adds wsX12_adds) := goodIn_app (goodIn_of _ (by decide +kernel)) ggX12_readSpans_X12_adds
theorem dX12_readSpans_0 : decode cX12_readSpans 0 = .ok (.aload_n 0, 1) := by decide +kernel
theorem dX12_readSpans_1 : decode cX12_readSpans 1 = .ok (.invokevirtual 130, 3) := by decide +kernel
theorem dX12_readSpans_4 : decode cX12_readSpans 4 = .ok (.istore_n 1, 1) := by decide +kernel
theorem dX12_readSpans_5 : decode cX12_readSpans 5 = .ok (.iload_n 1, 1) := by decide +kernel
theorem dX12_readSpans_6 : decode cX12_readSpans 6 = .ok (.bipush (-5), 2) := by decide +kernel
theorem dX12_readSpans_8 : decode cX12_readSpans 8 = .ok (.if_icmp .ne 11, 3) := by decide +kernel
theorem dX12_readSpans_11 : decode cX12_readSpans 11 = .ok (.bipush (-100), 2) := by decide +kernel
theorem dX12_readSpans_13 : decode cX12_readSpans 13 = .ok (.aload_n 0, 1) := by decide +kernel
theorem dX12_readSpans_14 : decode cX12_readSpans 14 = .ok (.getfield 99, 3) := by decide +kernel
theorem dX12_readSpans_17 : decode cX12_readSpans 17 = .ok (.isub, 1) := by decide +kernel
theorem dX12_readSpans_18 : decode cX12_readSpans 18 = .ok (.ireturn, 1) := by decide +kernel
theorem dX12_readSpans_19 : decode cX12_readSpans 19 = .ok (.aload_n 0, 1) := by decide +kernel
theorem dX12_readSpans_20 : decode cX12_readSpans 20 = .ok (.iconst 0, 1) := by decide +kernel
theorem dX12_readSpans_21 : decode cX12_readSpans 21 = .ok (.putfield 99, 3) := by decide +kernel
theorem dX12_readSpans_24 : decode cX12_readSpans 24 = .ok (.iconst 0, 1) := by decide +kernel
theorem dX12_readSpans_25 : decode cX12_readSpans 25 = .ok (.istore_n 2, 1) := by decide +kernel
theorem dX12_readSpans_26 : decode cX12_readSpans 26 = .ok (.iload_n 2, 1) := by decide +kernel
theorem dX12_readSpans_27 : decode cX12_readSpans 27 = .ok (.iload_n 1, 1) := by decide +kernel
theorem dX12_readSpans_28 : decode cX12_readSpans 28 = .ok (.if_icmp .ge 69, 3) := by decide +kernel
theorem dX12_readSpans_31 : decode cX12_readSpans 31 = .ok (.aload_n 0, 1) := by decide +kernel
theorem dX12_readSpans_32 : decode cX12_readSpans 32 = .ok (.invokevirtual 127, 3) := by decide +kernel
theorem dX12_readSpans_35 : decode cX12_readSpans 35 = .ok (.pop, 1) := by decide +kernel
theorem dX12_readSpans_36 : decode cX12_readSpans 36 = .ok (.aload_n 0, 1) := by decide +kernel
theorem dX12_readSpans_37 : decode cX12_readSpans 37 = .ok (.dup, 1) := by decide +kernel
theorem dX12_readSpans_38 : decode cX12_readSpans 38 = .ok (.getfield 99, 3) := by decide +kernel
theorem dX12_readSpans_41 : decode cX12_readSpans 41 = .ok (.iconst 1, 1) := by decide +kernel
theorem dX12_readSpans_42 : decode cX12_readSpans 42 = .ok (.iadd, 1) := by decide +kernel
theorem dX12_readSpans_43 : decode cX12_readSpans 43 = .ok (.putfield 99, 3) := by decide +kernel
theorem dX12_readSpans_46 : decode cX12_readSpans 46 = .ok (.aload_n 0, 1) := by decide +kernel
theorem dX12_readSpans_47 : decode cX12_readSpans 47 = .ok (.getfield 115, 3) := by decide +kernel
theorem dX12_readSpans_50 : decode cX12_readSpans 50 = .ok (.sipush 1000, 3) := by decide +kernel
theorem dX12_readSpans_53 : decode cX12_readSpans 53 = .ok (.if_icmp .gt 35, 3) := by decide +kernel
theorem dX12_readSpans_56 : decode cX12_readSpans 56 = .ok (.aload_n 0, 1) := by decide +kernel
theorem dX12_readSpans_57 : decode cX12_readSpans 57 = .ok (.getfield 121, 3) := by decide +kernel
theorem dX12_readSpans_60 : decode cX12_readSpans 60 = .ok (.sipush 1000, 3) := by decide +kernel
theorem dX12_readSpans_63 : decode cX12_readSpans 63 = .ok (.if_icmp .gt 25, 3) := by decide +kernel
theorem dX12_readSpans_66 : decode cX12_readSpans 66 = .ok (.aload_n 0, 1) := by decide +kernel
theorem dX12_readSpans_67 : decode cX12_readSpans 67 = .ok (.getfield 121, 3) := by decide +kernel
theorem dX12_readSpans_70 : decode cX12_readSpans 70 = .ok (.aload_n 0, 1) := by decide +kernel
theorem dX12_readSpans_71 : decode cX12_readSpans 71 = .ok (.getfield 115, 3) := by decide +kernel
theorem dX12_readSpans_74 : decode cX12_readSpans 74 = .ok (.if_icmp .lt 14, 3) := by decide +kernel
theorem dX12_readSpans_77 : decode cX12_readSpans 77 = .ok (.aload_n 0, 1) := by decide +kernel
theorem dX12_readSpans_78 : decode cX12_readSpans 78 = .ok (.getfield 118, 3) := by decide +kernel
theorem dX12_readSpans_81 : decode cX12_readSpans 81 = .ok (.aload_n 0, 1) := by decide +kernel
theorem dX12_readSpans_82 : decode cX12_readSpans 82 = .ok (.getfield 124, 3) := by decide +kernel
theorem dX12_readSpans_85 : decode cX12_readSpans 85 = .ok (.if_icmp .le 6, 3) := by decide +kernel
theorem dX12_readSpans_88 : decode cX12_readSpans 88 = .ok (.bipush (-2), 2) := by decide +kernel
theorem dX12_readSpans_90 : decode cX12_readSpans 90 = .ok (.ireturn, 1) := by decide +kernel
theorem dX12_readSpans_91 : decode cX12_readSpans 91 = .ok (.iinc 2 1, 3) := by decide +kernel
theorem dX12_readSpans_94 : decode cX12_readSpans 94 = .ok (.goto (-68), 3) := by decide +kernel
theorem dX12_readSpans_97 : decode cX12_readSpans 97 = .ok (.aload_n 0, 1) := by decide +kernel
theorem dX12_readSpans_98 : decode cX12_readSpans 98 = .ok (.getfield 7, 3) := by decide +kernel
theorem dX12_readSpans_101 : decode cX12_readSpans 101 = .ok (.iconst 1, 1) := by decide +kernel
theorem dX12_readSpans_102 : decode cX12_readSpans 102 = .ok (.iaload, 1) := by decide +kernel
theorem dX12_readSpans_103 : decode cX12_readSpans 103 = .ok (.iload_n 1, 1) := by decide +kernel
theorem dX12_readSpans_104 : decode cX12_readSpans 104 = .ok (.iadd, 1) := by decide +kernel
theorem dX12_readSpans_105 : decode cX12_readSpans 105 = .ok (.bipush 60, 2) := by decide +kernel
theorem dX12_readSpans_107 : decode cX12_readSpans 107 = .ok (.if_icmp .le 6, 3) := by decide +kernel
theorem dX12_readSpans_110 : decode cX12_readSpans 110 = .ok (.bipush (-3), 2) := by decide +kernel
theorem dX12_readSpans_112 : decode cX12_readSpans 112 = .ok (.ireturn, 1) := by decide +kernel
theorem dX12_readSpans_113 : decode cX12_readSpans 113 = .ok (.aload_n 0, 1) := by decide +kernel
theorem dX12_readSpans_114 : decode cX12_readSpans 114 = .ok (.invokevirtual 74, 3) := by decide +kernel
theorem dX12_readSpans_117 : decode cX12_readSpans 117 = .ok (.aload_n 0, 1) := by decide +kernel
theorem dX12_readSpans_118 : decode cX12_readSpans 118 = .ok (.iconst 0, 1) := by decide +kernel
theorem dX12_readSpans_119 : decode cX12_readSpans 119 = .ok (.putfield 99, 3) := by decide +kernel
theorem dX12_readSpans_122 : decode cX12_readSpans 122 = .ok (.iconst 0, 1) := by decide +kernel
theorem dX12_readSpans_123 : decode cX12_readSpans 123 = .ok (.istore_n 2, 1) := by decide +kernel
theorem dX12_readSpans_124 : decode cX12_readSpans 124 = .ok (.iload_n 2, 1) := by decide +kernel
theorem dX12_readSpans_125 : decode cX12_readSpans 125 = .ok (.iload_n 1, 1) := by decide +kernel
theorem dX12_readSpans_126 : decode cX12_readSpans 126 = .ok (.if_icmp .ge 45, 3) := by decide +kernel
theorem dX12_readSpans_129 : decode cX12_readSpans 129 = .ok (.aload_n 0, 1) := by decide +kernel
theorem dX12_readSpans_130 : decode cX12_readSpans 130 = .ok (.invokevirtual 127, 3) := by decide +kernel
theorem dX12_readSpans_133 : decode cX12_readSpans 133 = .ok (.pop, 1) := by decide +kernel
theorem dX12_readSpans_134 : decode cX12_readSpans 134 = .ok (.aload_n 0, 1) := by decide +kernel
theorem dX12_readSpans_135 : decode cX12_readSpans 135 = .ok (.dup, 1) := by decide +kernel
theorem dX12_readSpans_136 : decode cX12_readSpans 136 = .ok (.getfield 99, 3) := by decide +kernel
theorem dX12_readSpans_139 : decode cX12_readSpans 139 = .ok (.iconst 1, 1) := by decide +kernel
theorem dX12_readSpans_140 : decode cX12_readSpans 140 = .ok (.iadd, 1) := by decide +kernel
theorem dX12_readSpans_141 : decode cX12_readSpans 141 = .ok (.putfield 99, 3) := by decide +kernel
theorem dX12_readSpans_144 : decode cX12_readSpans 144 = .ok (.aload_n 0, 1) := by decide +kernel
theorem dX12_readSpans_145 : decode cX12_readSpans 145 = .ok (.aload_n 0, 1) := by decide +kernel
theorem dX12_readSpans_146 : decode cX12_readSpans 146 = .ok (.getfield 115, 3) := by decide +kernel
theorem dX12_readSpans_149 : decode cX12_readSpans 149 = .ok (.aload_n 0, 1) := by decide +kernel
theorem dX12_readSpans_150 : decode cX12_readSpans 150 = .ok (.getfield 121, 3) := by decide +kernel
theorem dX12_readSpans_153 : decode cX12_readSpans 153 = .ok (.aload_n 0, 1) := by decide +kernel
theorem dX12_readSpans_154 : decode cX12_readSpans 154 = .ok (.getfield 118, 3) := by decide +kernel
theorem dX12_readSpans_157 : decode cX12_readSpans 157 = .ok (.aload_n 0, 1) := by decide +kernel
theorem dX12_readSpans_158 : decode cX12_readSpans 158 = .ok (.getfield 124, 3) := by decide +kernel
theorem dX12_readSpans_161 : decode cX12_readSpans 161 = .ok (.invokevirtual 77, 3) := by decide +kernel
theorem dX12_readSpans_164 : decode cX12_readSpans 164 = .ok (.pop, 1) := by decide +kernel
theorem dX12_readSpans_165 : decode cX12_readSpans 165 = .ok (.iinc 2 1, 3) := by decide +kernel
theorem dX12_readSpans_168 : decode cX12_readSpans 168 = .ok (.goto (-44), 3) := by decide +kernel
theorem dX12_readSpans_171 : decode cX12_readSpans 171 = .ok (.iload_n 1, 1) := by decide +kernel
theorem dX12_readSpans_172 : decode cX12_readSpans 172 = .ok (.ireturn, 1) := by decide +kernel
set_option maxRecDepth 20000 in
theorem ggX12_there_X12_of : GoodIn wsX12_there wsX12_of := goodIn_r _ [6, 1, 7, 8, 9, 10, 11, 12, 13, 14, 15, 16, 17, 18, 19, 20, 21, 22, 23, 24] rfl (by decide +kernel)
set_option maxRecDepth 20000 in
theorem gX12_there_X12_of : GoodIn wsX12_there (wsV RX12 30 RX12 yX12_of wsX12_of) := goodIn_app (goodIn_of _ (by decide +kernel)) ggX12_there_X12_of
theorem dX12_there_0 : decode cX12_there 0 = .ok (.iconst 0, 1) := by decide +kernel
theorem dX12_there_1 : decode cX12_there 1 = .ok (.istore_n 1, 1) := by decide +kernel
theorem dX12_there_2 : decode cX12_there 2 = .ok (.iconst 0, 1) := by decide +kernel
theorem dX12_there_3 : decode cX12_there 3 = .ok (.istore_n 2, 1) := by decide +kernel
theorem dX12_there_4 : decode cX12_there 4 = .ok (.iload_n 2, 1) := by decide +kernel
theorem dX12_there_5 : decode cX12_there 5 = .ok (.aload_n 0, 1) := by decide +kernel
theorem dX12_there_6 : decode cX12_there 6 = .ok (.getfield 7, 3) := by decide +kernel
theorem dX12_there_9 : decode cX12_there 9 = .ok (.iconst 1, 1) := by decide +kernel
theorem dX12_there_10 : decode cX12_there 10 = .ok (.iaload, 1) := by decide +kernel
theorem dX12_there_11 : decode cX12_there 11 = .ok (.if_icmp .ge 18, 3) := by decide +kernel
theorem dX12_there_14 : decode cX12_there 14 = .ok (.iload_n 1, 1) := by decide +kernel
theorem dX12_there_15 : decode cX12_there 15 = .ok (.aload_n 0, 1) := by decide +kernel
theorem dX12_there_16 : decode cX12_there 16 = .ok (.iload_n 2, 1) := by decide +kernel
theorem dX12_there_17 : decode cX12_there 17 = .ok (.iconst 4, 1) := by decide +kernel
theorem dX12_there_18 : decode cX12_there 18 = .ok (.invokevirtual 30, 3) := by decide +kernel
theorem dX12_there_21 : decode cX12_there 21 = .ok (.iadd, 1) := by decide +kernel
theorem dX12_there_22 : decode cX12_there 22 = .ok (.istore_n 1, 1) := by decide +kernel
theorem dX12_there_23 : decode cX12_there 23 = .ok (.iinc 2 1, 3) := by decide +kernel
theorem dX12_there_26 : decode cX12_there 26 = .ok (.goto (-22), 3) := by decide +kernel
theorem dX12_there_29 : decode cX12_there 29 = .ok (.iload_n 1, 1) := by decide +kernel
theorem dX12_there_30 : decode cX12_there 30 = .ok (.ireturn, 1) := by decide +kernel
theorem dX12_undo_0 : decode cX12_undo 0 = .ok (.aload_n 0, 1) := by decide +kernel
theorem dX12_undo_1 : decode cX12_undo 1 = .ok (.getfield 42, 3) := by decide +kernel
theorem dX12_undo_4 : decode cX12_undo 4 = .ok (.ifCond .ne 6, 3) := by decide +kernel
theorem dX12_undo_7 : decode cX12_undo 7 = .ok (.bipush (-5), 2) := by decide +kernel
theorem dX12_undo_9 : decode cX12_undo 9 = .ok (.ireturn, 1) := by decide +kernel
theorem dX12_undo_10 : decode cX12_undo 10 = .ok (.aload_n 0, 1) := by decide +kernel
theorem dX12_undo_11 : decode cX12_undo 11 = .ok (.dup, 1) := by decide +kernel
theorem dX12_undo_12 : decode cX12_undo 12 = .ok (.getfield 42, 3) := by decide +kernel
theorem dX12_undo_15 : decode cX12_undo 15 = .ok (.iconst 1, 1) := by decide +kernel
theorem dX12_undo_16 : decode cX12_undo 16 = .ok (.isub, 1) := by decide +kernel
theorem dX12_undo_17 : decode cX12_undo 17 = .ok (.putfield 42, 3) := by decide +kernel
theorem dX12_undo_20 : decode cX12_undo 20 = .ok (.iconst 0, 1) := by decide +kernel
theorem dX12_undo_21 : decode cX12_undo 21 = .ok (.istore_n 1, 1) := by decide +kernel
theorem dX12_undo_22 : decode cX12_undo 22 = .ok (.iload_n 1, 1) := by decide +kernel
theorem dX12_undo_23 : decode cX12_undo 23 = .ok (.sipush 870, 3) := by decide +kernel
theorem dX12_undo_26 : decode cX12_undo 26 = .ok (.if_icmp .ge 30, 3) := by decide +kernel
theorem dX12_undo_29 : decode cX12_undo 29 = .ok (.aload_n 0, 1) := by decide +kernel
theorem dX12_undo_30 : decode cX12_undo 30 = .ok (.getfield 7, 3) := by decide +kernel
theorem dX12_undo_33 : decode cX12_undo 33 = .ok (.iload_n 1, 1) := by decide +kernel
theorem dX12_undo_34 : decode cX12_undo 34 = .ok (.aload_n 0, 1) := by decide +kernel
theorem dX12_undo_35 : decode cX12_undo 35 = .ok (.getfield 13, 3) := by decide +kernel
theorem dX12_undo_38 : decode cX12_undo 38 = .ok (.sipush 870, 3) := by decide +kernel
theorem dX12_undo_41 : decode cX12_undo 41 = .ok (.aload_n 0, 1) := by decide +kernel
theorem dX12_undo_42 : decode cX12_undo 42 = .ok (.getfield 42, 3) := by decide +kernel
theorem dX12_undo_45 : decode cX12_undo 45 = .ok (.imul, 1) := by decide +kernel
theorem dX12_undo_46 : decode cX12_undo 46 = .ok (.iload_n 1, 1) := by decide +kernel
theorem dX12_undo_47 : decode cX12_undo 47 = .ok (.iadd, 1) := by decide +kernel
theorem dX12_undo_48 : decode cX12_undo 48 = .ok (.iaload, 1) := by decide +kernel
theorem dX12_undo_49 : decode cX12_undo 49 = .ok (.iastore, 1) := by decide +kernel
theorem dX12_undo_50 : decode cX12_undo 50 = .ok (.iinc 1 1, 3) := by decide +kernel
theorem dX12_undo_53 : decode cX12_undo 53 = .ok (.goto (-31), 3) := by decide +kernel
theorem dX12_undo_56 : decode cX12_undo 56 = .ok (.aload_n 0, 1) := by decide +kernel
theorem dX12_undo_57 : decode cX12_undo 57 = .ok (.getfield 42, 3) := by decide +kernel
theorem dX12_undo_60 : decode cX12_undo 60 = .ok (.ireturn, 1) := by decide +kernel
set_option maxRecDepth 20000 in
theorem ggX12_keep_X12_there : GoodIn wsX12_keep wsX12_there := goodIn_r _ [8, 2, 9, 10, 11, 7, 12, 13, 14, 15, 16, 17, 18, 19, 20, 21, 22, 23, 24, 25, 26, 27, 28, 29, 30] rfl (by decide +kernel)
set_option maxRecDepth 20000 in
theorem gX12_keep_X12_there : GoodIn wsX12_keep (wsV RX12 137 RX12 yX12_there wsX12_there) := goodIn_app (goodIn_of _ (by decide +kernel)) ggX12_keep_X12_there
theorem dX12_keep_0 : decode cX12_keep 0 = .ok (.iconst 0, 1) := by decide +kernel
theorem dX12_keep_1 : decode cX12_keep 1 = .ok (.istore_n 1, 1) := by decide +kernel
theorem dX12_keep_2 : decode cX12_keep 2 = .ok (.iload_n 1, 1) := by decide +kernel
theorem dX12_keep_3 : decode cX12_keep 3 = .ok (.sipush 870, 3) := by decide +kernel
theorem dX12_keep_6 : decode cX12_keep 6 = .ok (.if_icmp .ge 21, 3) := by decide +kernel
theorem dX12_keep_9 : decode cX12_keep 9 = .ok (.aload_n 0, 1) := by decide +kernel
theorem dX12_keep_10 : decode cX12_keep 10 = .ok (.getfield 16, 3) := by decide +kernel
theorem dX12_keep_13 : decode cX12_keep 13 = .ok (.iload_n 1, 1) := by decide +kernel
theorem dX12_keep_14 : decode cX12_keep 14 = .ok (.aload_n 0, 1) := by decide +kernel
theorem dX12_keep_15 : decode cX12_keep 15 = .ok (.getfield 7, 3) := by decide +kernel
theorem dX12_keep_18 : decode cX12_keep 18 = .ok (.iload_n 1, 1) := by decide +kernel
theorem dX12_keep_19 : decode cX12_keep 19 = .ok (.iaload, 1) := by decide +kernel
theorem dX12_keep_20 : decode cX12_keep 20 = .ok (.iastore, 1) := by decide +kernel
theorem dX12_keep_21 : decode cX12_keep 21 = .ok (.iinc 1 1, 3) := by decide +kernel
theorem dX12_keep_24 : decode cX12_keep 24 = .ok (.goto (-22), 3) := by decide +kernel
theorem dX12_keep_27 : decode cX12_keep 27 = .ok (.aload_n 0, 1) := by decide +kernel
theorem dX12_keep_28 : decode cX12_keep 28 = .ok (.iconst 1, 1) := by decide +kernel
theorem dX12_keep_29 : decode cX12_keep 29 = .ok (.putfield 133, 3) := by decide +kernel
theorem dX12_keep_32 : decode cX12_keep 32 = .ok (.aload_n 0, 1) := by decide +kernel
theorem dX12_keep_33 : decode cX12_keep 33 = .ok (.invokevirtual 137, 3) := by decide +kernel
theorem dX12_keep_36 : decode cX12_keep 36 = .ok (.ireturn, 1) := by decide +kernel
set_option maxRecDepth 20000 in
theorem ggX12_restore_X12_record : GoodIn wsX12_restore wsX12_record := goodIn_r _ [8, 9, 10, 2, 19, 20, 21, 22, 23, 24, 25, 26, 27, 28, 29, 30, 31, 32, 33, 34, 35, 36] rfl (by decide +kernel)
set_option maxRecDepth 20000 in
theorem gX12_restore_X12_record : GoodIn wsX12_restore (wsV RX12 74 RX12 yX12_record wsX12_record) := goodIn_app (goodIn_of _ (by decide +kernel)) ggX12_restore_X12_record
set_option maxRecDepth 20000 in
theorem ggX12_restore_X12_there : GoodIn wsX12_restore wsX12_there := goodIn_r _ [14, 2, 15, 16, 17, 7, 18, 19, 20, 21, 22, 23, 24, 25, 26, 27, 28, 29, 30, 31, 32, 33, 34, 35, 36] rfl (by decide +kernel)
set_option maxRecDepth 20000 in
theorem gX12_restore_X12_there : GoodIn wsX12_restore (wsV RX12 137 RX12 yX12_there wsX12_there) := goodIn_app (goodIn_of _ (by decide +kernel)) ggX12_restore_X12_there
theorem dX12_restore_0 : decode cX12_restore 0 = .ok (.aload_n 0, 1) := by decide +kernel
theorem dX12_restore_1 : decode cX12_restore 1 = .ok (.getfield 133, 3) := by decide +kernel
theorem dX12_restore_4 : decode cX12_restore 4 = .ok (.ifCond .ne 6, 3) := by decide +kernel
theorem dX12_restore_7 : decode cX12_restore 7 = .ok (.bipush (-5), 2) := by decide +kernel
theorem dX12_restore_9 : decode cX12_restore 9 = .ok (.ireturn, 1) := by decide +kernel
theorem dX12_restore_10 : decode cX12_restore 10 = .ok (.aload_n 0, 1) := by decide +kernel
theorem dX12_restore_11 : decode cX12_restore 11 = .ok (.invokevirtual 74, 3) := by decide +kernel
theorem dX12_restore_14 : decode cX12_restore 14 = .ok (.iconst 0, 1) := by decide +kernel
theorem dX12_restore_15 : decode cX12_restore 15 = .ok (.istore_n 1, 1) := by decide +kernel
theorem dX12_restore_16 : decode cX12_restore 16 = .ok (.iload_n 1, 1) := by decide +kernel
theorem dX12_restore_17 : decode cX12_restore 17 = .ok (.sipush 870, 3) := by decide +kernel
theorem dX12_restore_20 : decode cX12_restore 20 = .ok (.if_icmp .ge 21, 3) := by decide +kernel
theorem dX12_restore_23 : decode cX12_restore 23 = .ok (.aload_n 0, 1) := by decide +kernel
theorem dX12_restore_24 : decode cX12_restore 24 = .ok (.getfield 7, 3) := by decide +kernel
theorem dX12_restore_27 : decode cX12_restore 27 = .ok (.iload_n 1, 1) := by decide +kernel
theorem dX12_restore_28 : decode cX12_restore 28 = .ok (.aload_n 0, 1) := by decide +kernel
theorem dX12_restore_29 : decode cX12_restore 29 = .ok (.getfield 16, 3) := by decide +kernel
theorem dX12_restore_32 : decode cX12_restore 32 = .ok (.iload_n 1, 1) := by decide +kernel
theorem dX12_restore_33 : decode cX12_restore 33 = .ok (.iaload, 1) := by decide +kernel
theorem dX12_restore_34 : decode cX12_restore 34 = .ok (.iastore, 1) := by decide +kernel
theorem dX12_restore_35 : decode cX12_restore 35 = .ok (.iinc 1 1, 3) := by decide +kernel
theorem dX12_restore_38 : decode cX12_restore 38 = .ok (.goto (-22), 3) := by decide +kernel
theorem dX12_restore_41 : decode cX12_restore 41 = .ok (.aload_n 0, 1) := by decide +kernel
theorem dX12_restore_42 : decode cX12_restore 42 = .ok (.invokevirtual 137, 3) := by decide +kernel
theorem dX12_restore_45 : decode cX12_restore 45 = .ok (.ireturn, 1) := by decide +kernel
set_option maxRecDepth 20000 in
theorem ggX12_finds_X12_of : GoodIn wsX12_finds wsX12_of := goodIn_r _ [9, 10, 14, 15, 16, 17, 18, 19, 20, 21, 22, 23, 24, 25, 26, 27, 28, 29, 30, 31] rfl (by decide +kernel)
set_option maxRecDepth 20000 in
theorem gX12_finds_X12_of : GoodIn wsX12_finds (wsV RX12 30 RX12 yX12_of wsX12_of) := goodIn_app (goodIn_of _ (by decide +kernel)) ggX12_finds_X12_of
set_option maxRecDepth 20000 in
theorem ggX12_finds_X12_in : GoodIn wsX12_finds wsX12_in := goodIn_r _ [13] rfl (by decide +kernel)
set_option maxRecDepth 20000 in
theorem gX12_finds_X12_in : GoodIn wsX12_finds (va_wsS RX12 34 yX12_in wsX12_in) := goodIn_app (goodIn_of _ (by decide +kernel)) ggX12_finds_X12_in
theorem dX12_finds_0 : decode cX12_finds 0 = .ok (.iconst 0, 1) := by decide +kernel
theorem dX12_finds_1 : decode cX12_finds 1 = .ok (.istore_n 3, 1) := by decide +kernel
theorem dX12_finds_2 : decode cX12_finds 2 = .ok (.sipush 1000, 3) := by decide +kernel
theorem dX12_finds_5 : decode cX12_finds 5 = .ok (.istore 4, 2) := by decide +kernel
theorem dX12_finds_7 : decode cX12_finds 7 = .ok (.aload_n 0, 1) := by decide +kernel
theorem dX12_finds_8 : decode cX12_finds 8 = .ok (.iconst 0, 1) := by decide +kernel
theorem dX12_finds_9 : decode cX12_finds 9 = .ok (.putfield 140, 3) := by decide +kernel
theorem dX12_finds_12 : decode cX12_finds 12 = .ok (.aload_n 0, 1) := by decide +kernel
theorem dX12_finds_13 : decode cX12_finds 13 = .ok (.iload_n 3, 1) := by decide +kernel
theorem dX12_finds_14 : decode cX12_finds 14 = .ok (.iload 4, 2) := by decide +kernel
theorem dX12_finds_16 : decode cX12_finds 16 = .ok (.iadd, 1) := by decide +kernel
theorem dX12_finds_17 : decode cX12_finds 17 = .ok (.iconst 2, 1) := by decide +kernel
theorem dX12_finds_18 : decode cX12_finds 18 = .ok (.idiv, 1) := by decide +kernel
theorem dX12_finds_19 : decode cX12_finds 19 = .ok (.putfield 143, 3) := by decide +kernel
theorem dX12_finds_22 : decode cX12_finds 22 = .ok (.aload_n 0, 1) := by decide +kernel
theorem dX12_finds_23 : decode cX12_finds 23 = .ok (.getfield 143, 3) := by decide +kernel
theorem dX12_finds_26 : decode cX12_finds 26 = .ok (.aload_n 0, 1) := by decide +kernel
theorem dX12_finds_27 : decode cX12_finds 27 = .ok (.iload_n 1, 1) := by decide +kernel
theorem dX12_finds_28 : decode cX12_finds 28 = .ok (.iconst 2, 1) := by decide +kernel
theorem dX12_finds_29 : decode cX12_finds 29 = .ok (.invokevirtual 30, 3) := by decide +kernel
theorem dX12_finds_32 : decode cX12_finds 32 = .ok (.aload_n 0, 1) := by decide +kernel
theorem dX12_finds_33 : decode cX12_finds 33 = .ok (.iload_n 1, 1) := by decide +kernel
theorem dX12_finds_34 : decode cX12_finds 34 = .ok (.iconst 3, 1) := by decide +kernel
theorem dX12_finds_35 : decode cX12_finds 35 = .ok (.invokevirtual 30, 3) := by decide +kernel
theorem dX12_finds_38 : decode cX12_finds 38 = .ok (.invokestatic 34, 3) := by decide +kernel
theorem dX12_finds_41 : decode cX12_finds 41 = .ok (.ifCond .ne 71, 3) := by decide +kernel
theorem dX12_finds_44 : decode cX12_finds 44 = .ok (.iload_n 2, 1) := by decide +kernel
theorem dX12_finds_45 : decode cX12_finds 45 = .ok (.ifCond .eq 13, 3) := by decide +kernel
theorem dX12_finds_48 : decode cX12_finds 48 = .ok (.aload_n 0, 1) := by decide +kernel
theorem dX12_finds_49 : decode cX12_finds 49 = .ok (.getfield 23, 3) := by decide +kernel
theorem dX12_finds_52 : decode cX12_finds 52 = .ok (.aload_n 0, 1) := by decide +kernel
theorem dX12_finds_53 : decode cX12_finds 53 = .ok (.getfield 143, 3) := by decide +kernel
theorem dX12_finds_56 : decode cX12_finds 56 = .ok (.iconst 1, 1) := by decide +kernel
theorem dX12_finds_57 : decode cX12_finds 57 = .ok (.bastore, 1) := by decide +kernel
theorem dX12_finds_58 : decode cX12_finds 58 = .ok (.aload_n 0, 1) := by decide +kernel
theorem dX12_finds_59 : decode cX12_finds 59 = .ok (.iload_n 1, 1) := by decide +kernel
theorem dX12_finds_60 : decode cX12_finds 60 = .ok (.iconst 3, 1) := by decide +kernel
theorem dX12_finds_61 : decode cX12_finds 61 = .ok (.invokevirtual 30, 3) := by decide +kernel
theorem dX12_finds_64 : decode cX12_finds 64 = .ok (.aload_n 0, 1) := by decide +kernel
theorem dX12_finds_65 : decode cX12_finds 65 = .ok (.getfield 143, 3) := by decide +kernel
theorem dX12_finds_68 : decode cX12_finds 68 = .ok (.if_icmp .ge 14, 3) := by decide +kernel
theorem dX12_finds_71 : decode cX12_finds 71 = .ok (.aload_n 0, 1) := by decide +kernel
theorem dX12_finds_72 : decode cX12_finds 72 = .ok (.getfield 143, 3) := by decide +kernel
theorem dX12_finds_75 : decode cX12_finds 75 = .ok (.iconst 1, 1) := by decide +kernel
theorem dX12_finds_76 : decode cX12_finds 76 = .ok (.isub, 1) := by decide +kernel
theorem dX12_finds_77 : decode cX12_finds 77 = .ok (.istore 4, 2) := by decide +kernel
theorem dX12_finds_79 : decode cX12_finds 79 = .ok (.goto 10, 3) := by decide +kernel
theorem dX12_finds_82 : decode cX12_finds 82 = .ok (.aload_n 0, 1) := by decide +kernel
theorem dX12_finds_83 : decode cX12_finds 83 = .ok (.getfield 143, 3) := by decide +kernel
theorem dX12_finds_86 : decode cX12_finds 86 = .ok (.iconst 1, 1) := by decide +kernel
theorem dX12_finds_87 : decode cX12_finds 87 = .ok (.iadd, 1) := by decide +kernel
theorem dX12_finds_88 : decode cX12_finds 88 = .ok (.istore_n 3, 1) := by decide +kernel
theorem dX12_finds_89 : decode cX12_finds 89 = .ok (.aload_n 0, 1) := by decide +kernel
theorem dX12_finds_90 : decode cX12_finds 90 = .ok (.iload_n 3, 1) := by decide +kernel
theorem dX12_finds_91 : decode cX12_finds 91 = .ok (.iload 4, 2) := by decide +kernel
theorem dX12_finds_93 : decode cX12_finds 93 = .ok (.iadd, 1) := by decide +kernel
theorem dX12_finds_94 : decode cX12_finds 94 = .ok (.iconst 2, 1) := by decide +kernel
theorem dX12_finds_95 : decode cX12_finds 95 = .ok (.idiv, 1) := by decide +kernel
theorem dX12_finds_96 : decode cX12_finds 96 = .ok (.putfield 143, 3) := by decide +kernel
theorem dX12_finds_99 : decode cX12_finds 99 = .ok (.aload_n 0, 1) := by decide +kernel
theorem dX12_finds_100 : decode cX12_finds 100 = .ok (.dup, 1) := by decide +kernel
theorem dX12_finds_101 : decode cX12_finds 101 = .ok (.getfield 140, 3) := by decide +kernel
theorem dX12_finds_104 : decode cX12_finds 104 = .ok (.iconst 1, 1) := by decide +kernel
theorem dX12_finds_105 : decode cX12_finds 105 = .ok (.iadd, 1) := by decide +kernel
theorem dX12_finds_106 : decode cX12_finds 106 = .ok (.putfield 140, 3) := by decide +kernel
theorem dX12_finds_109 : decode cX12_finds 109 = .ok (.goto (-87), 3) := by decide +kernel
theorem dX12_finds_112 : decode cX12_finds 112 = .ok (.iload_n 2, 1) := by decide +kernel
theorem dX12_finds_113 : decode cX12_finds 113 = .ok (.ifCond .eq 26, 3) := by decide +kernel
theorem dX12_finds_116 : decode cX12_finds 116 = .ok (.aload_n 0, 1) := by decide +kernel
theorem dX12_finds_117 : decode cX12_finds 117 = .ok (.getfield 23, 3) := by decide +kernel
theorem dX12_finds_120 : decode cX12_finds 120 = .ok (.aload_n 0, 1) := by decide +kernel
theorem dX12_finds_121 : decode cX12_finds 121 = .ok (.getfield 143, 3) := by decide +kernel
theorem dX12_finds_124 : decode cX12_finds 124 = .ok (.iconst 1, 1) := by decide +kernel
theorem dX12_finds_125 : decode cX12_finds 125 = .ok (.bastore, 1) := by decide +kernel
theorem dX12_finds_126 : decode cX12_finds 126 = .ok (.aload_n 0, 1) := by decide +kernel
theorem dX12_finds_127 : decode cX12_finds 127 = .ok (.getfield 27, 3) := by decide +kernel
theorem dX12_finds_130 : decode cX12_finds 130 = .ok (.aload_n 0, 1) := by decide +kernel
theorem dX12_finds_131 : decode cX12_finds 131 = .ok (.getfield 143, 3) := by decide +kernel
theorem dX12_finds_134 : decode cX12_finds 134 = .ok (.dup2, 1) := by decide +kernel
theorem dX12_finds_135 : decode cX12_finds 135 = .ok (.iaload, 1) := by decide +kernel
theorem dX12_finds_136 : decode cX12_finds 136 = .ok (.iconst 1, 1) := by decide +kernel
theorem dX12_finds_137 : decode cX12_finds 137 = .ok (.iadd, 1) := by decide +kernel
theorem dX12_finds_138 : decode cX12_finds 138 = .ok (.iastore, 1) := by decide +kernel
theorem dX12_finds_139 : decode cX12_finds 139 = .ok (.return_, 1) := by decide +kernel
set_option maxRecDepth 20000 in
theorem ggX12_marks_X12_isThere : GoodIn wsX12_marks wsX12_isThere := goodIn_r _ [10, 11, 12, 13, 9, 14, 4, 23, 24, 25, 26, 27, 28, 29, 30, 31, 32, 33, 34, 35, 36, 37, 38, 39, 40] rfl (by decide +kernel)
set_option maxRecDepth 20000 in
theorem gX12_marks_X12_isThere : GoodIn wsX12_marks (wsV RX12 38 RX12 yX12_isThere wsX12_isThere) := goodIn_app (goodIn_of _ (by decide +kernel)) ggX12_marks_X12_isThere
set_option maxRecDepth 20000 in
theorem ggX12_marks_X12_finds : GoodIn wsX12_marks wsX12_finds := goodIn_r _ [18, 5, 19, 1, 2, 11, 12, 13, 9, 14, 4, 20, 21, 22, 23, 24, 25, 26, 27, 28, 29, 30, 31, 32, 33, 34, 35, 36, 37, 38, 39, 40] rfl (by decide +kernel)
set_option maxRecDepth 20000 in
theorem gX12_marks_X12_finds : GoodIn wsX12_marks (wsV RX12 149 RX12 yX12_finds wsX12_finds) := goodIn_app (goodIn_of _ (by decide +kernel)) ggX12_marks_X12_finds
theorem dX12_marks_0 : decode cX12_marks 0 = .ok (.iconst 0, 1) := by decide +kernel
theorem dX12_marks_1 : decode cX12_marks 1 = .ok (.istore_n 1, 1) := by decide +kernel
theorem dX12_marks_2 : decode cX12_marks 2 = .ok (.iload_n 1, 1) := by decide +kernel
theorem dX12_marks_3 : decode cX12_marks 3 = .ok (.sipush 1000, 3) := by decide +kernel
theorem dX12_marks_6 : decode cX12_marks 6 = .ok (.if_icmp .gt 23, 3) := by decide +kernel
theorem dX12_marks_9 : decode cX12_marks 9 = .ok (.aload_n 0, 1) := by decide +kernel
theorem dX12_marks_10 : decode cX12_marks 10 = .ok (.getfield 23, 3) := by decide +kernel
theorem dX12_marks_13 : decode cX12_marks 13 = .ok (.iload_n 1, 1) := by decide +kernel
theorem dX12_marks_14 : decode cX12_marks 14 = .ok (.iconst 0, 1) := by decide +kernel
theorem dX12_marks_15 : decode cX12_marks 15 = .ok (.bastore, 1) := by decide +kernel
theorem dX12_marks_16 : decode cX12_marks 16 = .ok (.aload_n 0, 1) := by decide +kernel
theorem dX12_marks_17 : decode cX12_marks 17 = .ok (.getfield 27, 3) := by decide +kernel
theorem dX12_marks_20 : decode cX12_marks 20 = .ok (.iload_n 1, 1) := by decide +kernel
theorem dX12_marks_21 : decode cX12_marks 21 = .ok (.iconst 0, 1) := by decide +kernel
theorem dX12_marks_22 : decode cX12_marks 22 = .ok (.iastore, 1) := by decide +kernel
theorem dX12_marks_23 : decode cX12_marks 23 = .ok (.iinc 1 1, 3) := by decide +kernel
theorem dX12_marks_26 : decode cX12_marks 26 = .ok (.goto (-24), 3) := by decide +kernel
theorem dX12_marks_29 : decode cX12_marks 29 = .ok (.aload_n 0, 1) := by decide +kernel
theorem dX12_marks_30 : decode cX12_marks 30 = .ok (.iconst 0, 1) := by decide +kernel
theorem dX12_marks_31 : decode cX12_marks 31 = .ok (.putfield 146, 3) := by decide +kernel
theorem dX12_marks_34 : decode cX12_marks 34 = .ok (.iconst 0, 1) := by decide +kernel
theorem dX12_marks_35 : decode cX12_marks 35 = .ok (.istore_n 1, 1) := by decide +kernel
theorem dX12_marks_36 : decode cX12_marks 36 = .ok (.iload_n 1, 1) := by decide +kernel
theorem dX12_marks_37 : decode cX12_marks 37 = .ok (.aload_n 0, 1) := by decide +kernel
theorem dX12_marks_38 : decode cX12_marks 38 = .ok (.getfield 7, 3) := by decide +kernel
theorem dX12_marks_41 : decode cX12_marks 41 = .ok (.iconst 1, 1) := by decide +kernel
theorem dX12_marks_42 : decode cX12_marks 42 = .ok (.iaload, 1) := by decide +kernel
theorem dX12_marks_43 : decode cX12_marks 43 = .ok (.if_icmp .ge 49, 3) := by decide +kernel
theorem dX12_marks_46 : decode cX12_marks 46 = .ok (.aload_n 0, 1) := by decide +kernel
theorem dX12_marks_47 : decode cX12_marks 47 = .ok (.iload_n 1, 1) := by decide +kernel
theorem dX12_marks_48 : decode cX12_marks 48 = .ok (.invokevirtual 38, 3) := by decide +kernel
theorem dX12_marks_51 : decode cX12_marks 51 = .ok (.ifCond .eq 35, 3) := by decide +kernel
theorem dX12_marks_54 : decode cX12_marks 54 = .ok (.aload_n 0, 1) := by decide +kernel
theorem dX12_marks_55 : decode cX12_marks 55 = .ok (.iload_n 1, 1) := by decide +kernel
theorem dX12_marks_56 : decode cX12_marks 56 = .ok (.iconst 1, 1) := by decide +kernel
theorem dX12_marks_57 : decode cX12_marks 57 = .ok (.invokevirtual 149, 3) := by decide +kernel
theorem dX12_marks_60 : decode cX12_marks 60 = .ok (.aload_n 0, 1) := by decide +kernel
theorem dX12_marks_61 : decode cX12_marks 61 = .ok (.aload_n 0, 1) := by decide +kernel
theorem dX12_marks_62 : decode cX12_marks 62 = .ok (.getfield 140, 3) := by decide +kernel
theorem dX12_marks_65 : decode cX12_marks 65 = .ok (.aload_n 0, 1) := by decide +kernel
theorem dX12_marks_66 : decode cX12_marks 66 = .ok (.getfield 146, 3) := by decide +kernel
theorem dX12_marks_69 : decode cX12_marks 69 = .ok (.if_icmp .le 10, 3) := by decide +kernel
theorem dX12_marks_72 : decode cX12_marks 72 = .ok (.aload_n 0, 1) := by decide +kernel
theorem dX12_marks_73 : decode cX12_marks 73 = .ok (.getfield 140, 3) := by decide +kernel
theorem dX12_marks_76 : decode cX12_marks 76 = .ok (.goto 7, 3) := by decide +kernel
theorem dX12_marks_79 : decode cX12_marks 79 = .ok (.aload_n 0, 1) := by decide +kernel
theorem dX12_marks_80 : decode cX12_marks 80 = .ok (.getfield 146, 3) := by decide +kernel
theorem dX12_marks_83 : decode cX12_marks 83 = .ok (.putfield 146, 3) := by decide +kernel
theorem dX12_marks_86 : decode cX12_marks 86 = .ok (.iinc 1 1, 3) := by decide +kernel
theorem dX12_marks_89 : decode cX12_marks 89 = .ok (.goto (-53), 3) := by decide +kernel
theorem dX12_marks_92 : decode cX12_marks 92 = .ok (.return_, 1) := by decide +kernel
set_option maxRecDepth 20000 in
theorem ggX12_index_X12_in : GoodIn wsX12_index wsX12_in := goodIn_r _ [7] rfl (by decide +kernel)
set_option maxRecDepth 20000 in
theorem gX12_index_X12_in : GoodIn wsX12_index (va_wsS RX12 34 yX12_in wsX12_in) := goodIn_app (goodIn_of _ (by decide +kernel)) ggX12_index_X12_in
set_option maxRecDepth 20000 in
theorem ggX12_index_X12_there : GoodIn wsX12_index wsX12_there := goodIn_r _ [11, 12, 13, 14, 15, 6, 16, 31, 32, 33, 34, 35, 36, 37, 38, 39, 40, 41, 42, 43, 44, 45, 46, 47, 48] rfl (by decide +kernel)
set_option maxRecDepth 20000 in
theorem gX12_index_X12_there : GoodIn wsX12_index (wsV RX12 137 RX12 yX12_there wsX12_there) := goodIn_app (goodIn_of _ (by decide +kernel)) ggX12_index_X12_there
set_option maxRecDepth 20000 in
theorem ggX12_index_X12_marks : GoodIn wsX12_index wsX12_marks := goodIn_r _ [20, 1, 2, 3, 12, 21, 22, 23, 24, 6, 25, 13, 14, 15, 16, 26, 27, 28, 29, 30, 4, 5, 7, 31, 32, 33, 34, 35, 36, 37, 38, 39, 40, 41, 42, 43, 44, 45, 46, 47, 48] rfl (by decide +kernel)
set_option maxRecDepth 20000 in
theorem gX12_index_X12_marks : GoodIn wsX12_index (wsV RX12 153 RX12 yX12_marks wsX12_marks) := goodIn_app (goodIn_of _ (by decide +kernel)) ggX12_index_X12_marks
theorem dX12_index_0 : decode cX12_index 0 = .ok (.iload_n 1, 1) := by decide +kernel
theorem dX12_index_1 : decode cX12_index 1 = .ok (.iconst 0, 1) := by decide +kernel
theorem dX12_index_2 : decode cX12_index 2 = .ok (.iconst 3, 1) := by decide +kernel
theorem dX12_index_3 : decode cX12_index 3 = .ok (.invokestatic 34, 3) := by decide +kernel
theorem dX12_index_6 : decode cX12_index 6 = .ok (.ifCond .ne 6, 3) := by decide +kernel
theorem dX12_index_9 : decode cX12_index 9 = .ok (.bipush (-2), 2) := by decide +kernel
theorem dX12_index_11 : decode cX12_index 11 = .ok (.ireturn, 1) := by decide +kernel
theorem dX12_index_12 : decode cX12_index 12 = .ok (.aload_n 0, 1) := by decide +kernel
theorem dX12_index_13 : decode cX12_index 13 = .ok (.invokevirtual 137, 3) := by decide +kernel
theorem dX12_index_16 : decode cX12_index 16 = .ok (.ifCond .ne 6, 3) := by decide +kernel
theorem dX12_index_19 : decode cX12_index 19 = .ok (.bipush (-5), 2) := by decide +kernel
theorem dX12_index_21 : decode cX12_index 21 = .ok (.ireturn, 1) := by decide +kernel
theorem dX12_index_22 : decode cX12_index 22 = .ok (.aload_n 0, 1) := by decide +kernel
theorem dX12_index_23 : decode cX12_index 23 = .ok (.invokevirtual 153, 3) := by decide +kernel
theorem dX12_index_26 : decode cX12_index 26 = .ok (.iconst 0, 1) := by decide +kernel
theorem dX12_index_27 : decode cX12_index 27 = .ok (.istore_n 2, 1) := by decide +kernel
theorem dX12_index_28 : decode cX12_index 28 = .ok (.iconst 0, 1) := by decide +kernel
theorem dX12_index_29 : decode cX12_index 29 = .ok (.istore_n 3, 1) := by decide +kernel
theorem dX12_index_30 : decode cX12_index 30 = .ok (.iconst 0, 1) := by decide +kernel
theorem dX12_index_31 : decode cX12_index 31 = .ok (.istore 4, 2) := by decide +kernel
theorem dX12_index_33 : decode cX12_index 33 = .ok (.iload 4, 2) := by decide +kernel
theorem dX12_index_35 : decode cX12_index 35 = .ok (.sipush 1000, 3) := by decide +kernel
theorem dX12_index_38 : decode cX12_index 38 = .ok (.if_icmp .gt 50, 3) := by decide +kernel
theorem dX12_index_41 : decode cX12_index 41 = .ok (.iload_n 2, 1) := by decide +kernel
theorem dX12_index_42 : decode cX12_index 42 = .ok (.aload_n 0, 1) := by decide +kernel
theorem dX12_index_43 : decode cX12_index 43 = .ok (.getfield 23, 3) := by decide +kernel
theorem dX12_index_46 : decode cX12_index 46 = .ok (.iload 4, 2) := by decide +kernel
theorem dX12_index_48 : decode cX12_index 48 = .ok (.baload, 1) := by decide +kernel
theorem dX12_index_49 : decode cX12_index 49 = .ok (.ifCond .eq 7, 3) := by decide +kernel
theorem dX12_index_52 : decode cX12_index 52 = .ok (.iconst 1, 1) := by decide +kernel
theorem dX12_index_53 : decode cX12_index 53 = .ok (.goto 4, 3) := by decide +kernel
theorem dX12_index_56 : decode cX12_index 56 = .ok (.iconst 0, 1) := by decide +kernel
theorem dX12_index_57 : decode cX12_index 57 = .ok (.iadd, 1) := by decide +kernel
theorem dX12_index_58 : decode cX12_index 58 = .ok (.istore_n 2, 1) := by decide +kernel
theorem dX12_index_59 : decode cX12_index 59 = .ok (.aload_n 0, 1) := by decide +kernel
theorem dX12_index_60 : decode cX12_index 60 = .ok (.getfield 27, 3) := by decide +kernel
theorem dX12_index_63 : decode cX12_index 63 = .ok (.iload 4, 2) := by decide +kernel
theorem dX12_index_65 : decode cX12_index 65 = .ok (.iaload, 1) := by decide +kernel
theorem dX12_index_66 : decode cX12_index 66 = .ok (.aload_n 0, 1) := by decide +kernel
theorem dX12_index_67 : decode cX12_index 67 = .ok (.getfield 27, 3) := by decide +kernel
theorem dX12_index_70 : decode cX12_index 70 = .ok (.iload_n 3, 1) := by decide +kernel
theorem dX12_index_71 : decode cX12_index 71 = .ok (.iaload, 1) := by decide +kernel
theorem dX12_index_72 : decode cX12_index 72 = .ok (.if_icmp .le 8, 3) := by decide +kernel
theorem dX12_index_75 : decode cX12_index 75 = .ok (.iload 4, 2) := by decide +kernel
theorem dX12_index_77 : decode cX12_index 77 = .ok (.goto 4, 3) := by decide +kernel
theorem dX12_index_80 : decode cX12_index 80 = .ok (.iload_n 3, 1) := by decide +kernel
theorem dX12_index_81 : decode cX12_index 81 = .ok (.istore_n 3, 1) := by decide +kernel
theorem dX12_index_82 : decode cX12_index 82 = .ok (.iinc 4 1, 3) := by decide +kernel
theorem dX12_index_85 : decode cX12_index 85 = .ok (.goto (-52), 3) := by decide +kernel
theorem dX12_index_88 : decode cX12_index 88 = .ok (.iload_n 1, 1) := by decide +kernel
theorem dX12_index_89 : decode cX12_index 89 = .ok (.ifCond .ne 7, 3) := by decide +kernel
theorem dX12_index_92 : decode cX12_index 92 = .ok (.iload_n 2, 1) := by decide +kernel
theorem dX12_index_93 : decode cX12_index 93 = .ok (.goto 30, 3) := by decide +kernel
theorem dX12_index_96 : decode cX12_index 96 = .ok (.iload_n 1, 1) := by decide +kernel
theorem dX12_index_97 : decode cX12_index 97 = .ok (.iconst 1, 1) := by decide +kernel
theorem dX12_index_98 : decode cX12_index 98 = .ok (.if_icmp .ne 10, 3) := by decide +kernel
theorem dX12_index_101 : decode cX12_index 101 = .ok (.aload_n 0, 1) := by decide +kernel
theorem dX12_index_102 : decode cX12_index 102 = .ok (.getfield 146, 3) := by decide +kernel
theorem dX12_index_105 : decode cX12_index 105 = .ok (.goto 18, 3) := by decide +kernel
theorem dX12_index_108 : decode cX12_index 108 = .ok (.iload_n 1, 1) := by decide +kernel
theorem dX12_index_109 : decode cX12_index 109 = .ok (.iconst 2, 1) := by decide +kernel
theorem dX12_index_110 : decode cX12_index 110 = .ok (.if_icmp .ne 12, 3) := by decide +kernel
theorem dX12_index_113 : decode cX12_index 113 = .ok (.aload_n 0, 1) := by decide +kernel
theorem dX12_index_114 : decode cX12_index 114 = .ok (.getfield 27, 3) := by decide +kernel
theorem dX12_index_117 : decode cX12_index 117 = .ok (.iload_n 3, 1) := by decide +kernel
theorem dX12_index_118 : decode cX12_index 118 = .ok (.iaload, 1) := by decide +kernel
theorem dX12_index_119 : decode cX12_index 119 = .ok (.goto 4, 3) := by decide +kernel
theorem dX12_index_122 : decode cX12_index 122 = .ok (.iload_n 3, 1) := by decide +kernel
theorem dX12_index_123 : decode cX12_index 123 = .ok (.ireturn, 1) := by decide +kernel
set_option maxRecDepth 20000 in
theorem ggX12_looked_X12_isThere : GoodIn wsX12_looked wsX12_isThere := goodIn_r _ [7, 8, 9, 10, 6, 11, 1, 22, 23, 24, 25, 26, 27, 28, 29, 30, 31, 32, 33, 34, 35, 36, 37, 38, 39] rfl (by decide +kernel)
set_option maxRecDepth 20000 in
theorem gX12_looked_X12_isThere : GoodIn wsX12_looked (wsV RX12 38 RX12 yX12_isThere wsX12_isThere) := goodIn_app (goodIn_of _ (by decide +kernel)) ggX12_looked_X12_isThere
set_option maxRecDepth 20000 in
theorem ggX12_looked_X12_finds : GoodIn wsX12_looked wsX12_finds := goodIn_r _ [15, 16, 2, 17, 18, 8, 9, 10, 6, 11, 1, 19, 20, 21, 22, 23, 24, 25, 26, 27, 28, 29, 30, 31, 32, 33, 34, 35, 36, 37, 38, 39] rfl (by decide +kernel)
set_option maxRecDepth 20000 in
theorem gX12_looked_X12_finds : GoodIn wsX12_looked (wsV RX12 149 RX12 yX12_finds wsX12_finds) := goodIn_app (goodIn_of _ (by decide +kernel)) ggX12_looked_X12_finds
set_option maxRecDepth 20000 in
theorem ggX12_looked_X12_of : GoodIn wsX12_looked wsX12_of := goodIn_r _ [11, 1, 22, 23, 24, 25, 26, 27, 28, 29, 30, 31, 32, 33, 34, 35, 36, 37, 38, 39] rfl (by decide +kernel)
set_option maxRecDepth 20000 in
theorem gX12_looked_X12_of : GoodIn wsX12_looked (wsV RX12 30 RX12 yX12_of wsX12_of) := goodIn_app (goodIn_of _ (by decide +kernel)) ggX12_looked_X12_of
theorem dX12_looked_0 : decode cX12_looked 0 = .ok (.iconst 0, 1) := by decide +kernel
theorem dX12_looked_1 : decode cX12_looked 1 = .ok (.istore_n 3, 1) := by decide +kernel
theorem dX12_looked_2 : decode cX12_looked 2 = .ok (.iconst 0, 1) := by decide +kernel
theorem dX12_looked_3 : decode cX12_looked 3 = .ok (.istore 4, 2) := by decide +kernel
theorem dX12_looked_5 : decode cX12_looked 5 = .ok (.iconst 0, 1) := by decide +kernel
theorem dX12_looked_6 : decode cX12_looked 6 = .ok (.istore 5, 2) := by decide +kernel
theorem dX12_looked_8 : decode cX12_looked 8 = .ok (.iload 5, 2) := by decide +kernel
theorem dX12_looked_10 : decode cX12_looked 10 = .ok (.aload_n 0, 1) := by decide +kernel
theorem dX12_looked_11 : decode cX12_looked 11 = .ok (.getfield 7, 3) := by decide +kernel
theorem dX12_looked_14 : decode cX12_looked 14 = .ok (.iconst 1, 1) := by decide +kernel
theorem dX12_looked_15 : decode cX12_looked 15 = .ok (.iaload, 1) := by decide +kernel
theorem dX12_looked_16 : decode cX12_looked 16 = .ok (.if_icmp .ge 109, 3) := by decide +kernel
theorem dX12_looked_19 : decode cX12_looked 19 = .ok (.aload_n 0, 1) := by decide +kernel
theorem dX12_looked_20 : decode cX12_looked 20 = .ok (.iload 5, 2) := by decide +kernel
theorem dX12_looked_22 : decode cX12_looked 22 = .ok (.invokevirtual 38, 3) := by decide +kernel
theorem dX12_looked_25 : decode cX12_looked 25 = .ok (.ifCond .ne 6, 3) := by decide +kernel
theorem dX12_looked_28 : decode cX12_looked 28 = .ok (.goto 91, 3) := by decide +kernel
theorem dX12_looked_31 : decode cX12_looked 31 = .ok (.aload_n 0, 1) := by decide +kernel
theorem dX12_looked_32 : decode cX12_looked 32 = .ok (.iload 5, 2) := by decide +kernel
theorem dX12_looked_34 : decode cX12_looked 34 = .ok (.iconst 0, 1) := by decide +kernel
theorem dX12_looked_35 : decode cX12_looked 35 = .ok (.invokevirtual 149, 3) := by decide +kernel
theorem dX12_looked_38 : decode cX12_looked 38 = .ok (.aload_n 0, 1) := by decide +kernel
theorem dX12_looked_39 : decode cX12_looked 39 = .ok (.getfield 143, 3) := by decide +kernel
theorem dX12_looked_42 : decode cX12_looked 42 = .ok (.iload_n 1, 1) := by decide +kernel
theorem dX12_looked_43 : decode cX12_looked 43 = .ok (.if_icmp .eq 6, 3) := by decide +kernel
theorem dX12_looked_46 : decode cX12_looked 46 = .ok (.goto 73, 3) := by decide +kernel
theorem dX12_looked_49 : decode cX12_looked 49 = .ok (.iload_n 2, 1) := by decide +kernel
theorem dX12_looked_50 : decode cX12_looked 50 = .ok (.iload_n 1, 1) := by decide +kernel
theorem dX12_looked_51 : decode cX12_looked 51 = .ok (.if_icmp .eq 33, 3) := by decide +kernel
theorem dX12_looked_54 : decode cX12_looked 54 = .ok (.iload_n 2, 1) := by decide +kernel
theorem dX12_looked_55 : decode cX12_looked 55 = .ok (.iload_n 1, 1) := by decide +kernel
theorem dX12_looked_56 : decode cX12_looked 56 = .ok (.if_icmp .ge 17, 3) := by decide +kernel
theorem dX12_looked_59 : decode cX12_looked 59 = .ok (.aload_n 0, 1) := by decide +kernel
theorem dX12_looked_60 : decode cX12_looked 60 = .ok (.iload 5, 2) := by decide +kernel
theorem dX12_looked_62 : decode cX12_looked 62 = .ok (.iconst 2, 1) := by decide +kernel
theorem dX12_looked_63 : decode cX12_looked 63 = .ok (.invokevirtual 30, 3) := by decide +kernel
theorem dX12_looked_66 : decode cX12_looked 66 = .ok (.iload_n 2, 1) := by decide +kernel
theorem dX12_looked_67 : decode cX12_looked 67 = .ok (.if_icmp .gt 21, 3) := by decide +kernel
theorem dX12_looked_70 : decode cX12_looked 70 = .ok (.goto 14, 3) := by decide +kernel
theorem dX12_looked_73 : decode cX12_looked 73 = .ok (.aload_n 0, 1) := by decide +kernel
theorem dX12_looked_74 : decode cX12_looked 74 = .ok (.iload 5, 2) := by decide +kernel
theorem dX12_looked_76 : decode cX12_looked 76 = .ok (.iconst 3, 1) := by decide +kernel
theorem dX12_looked_77 : decode cX12_looked 77 = .ok (.invokevirtual 30, 3) := by decide +kernel
theorem dX12_looked_80 : decode cX12_looked 80 = .ok (.iload_n 2, 1) := by decide +kernel
theorem dX12_looked_81 : decode cX12_looked 81 = .ok (.if_icmp .lt 7, 3) := by decide +kernel
theorem dX12_looked_84 : decode cX12_looked 84 = .ok (.iconst 1, 1) := by decide +kernel
theorem dX12_looked_85 : decode cX12_looked 85 = .ok (.goto 4, 3) := by decide +kernel
theorem dX12_looked_88 : decode cX12_looked 88 = .ok (.iconst 0, 1) := by decide +kernel
theorem dX12_looked_89 : decode cX12_looked 89 = .ok (.istore 6, 2) := by decide +kernel
theorem dX12_looked_91 : decode cX12_looked 91 = .ok (.iload_n 3, 1) := by decide +kernel
theorem dX12_looked_92 : decode cX12_looked 92 = .ok (.iload 6, 2) := by decide +kernel
theorem dX12_looked_94 : decode cX12_looked 94 = .ok (.ifCond .eq 7, 3) := by decide +kernel
theorem dX12_looked_97 : decode cX12_looked 97 = .ok (.iconst 1, 1) := by decide +kernel
theorem dX12_looked_98 : decode cX12_looked 98 = .ok (.goto 4, 3) := by decide +kernel
theorem dX12_looked_101 : decode cX12_looked 101 = .ok (.iconst 0, 1) := by decide +kernel
theorem dX12_looked_102 : decode cX12_looked 102 = .ok (.iadd, 1) := by decide +kernel
theorem dX12_looked_103 : decode cX12_looked 103 = .ok (.istore_n 3, 1) := by decide +kernel
theorem dX12_looked_104 : decode cX12_looked 104 = .ok (.iload 4, 2) := by decide +kernel
theorem dX12_looked_106 : decode cX12_looked 106 = .ok (.iload 6, 2) := by decide +kernel
theorem dX12_looked_108 : decode cX12_looked 108 = .ok (.ifCond .ne 7, 3) := by decide +kernel
theorem dX12_looked_111 : decode cX12_looked 111 = .ok (.iconst 1, 1) := by decide +kernel
theorem dX12_looked_112 : decode cX12_looked 112 = .ok (.goto 4, 3) := by decide +kernel
theorem dX12_looked_115 : decode cX12_looked 115 = .ok (.iconst 0, 1) := by decide +kernel
theorem dX12_looked_116 : decode cX12_looked 116 = .ok (.ior, 1) := by decide +kernel
theorem dX12_looked_117 : decode cX12_looked 117 = .ok (.istore 4, 2) := by decide +kernel
theorem dX12_looked_119 : decode cX12_looked 119 = .ok (.iinc 5 1, 3) := by decide +kernel
theorem dX12_looked_122 : decode cX12_looked 122 = .ok (.goto (-114), 3) := by decide +kernel
theorem dX12_looked_125 : decode cX12_looked 125 = .ok (.iload 4, 2) := by decide +kernel
theorem dX12_looked_127 : decode cX12_looked 127 = .ok (.ifCond .eq 9, 3) := by decide +kernel
theorem dX12_looked_130 : decode cX12_looked 130 = .ok (.iload_n 3, 1) := by decide +kernel
theorem dX12_looked_131 : decode cX12_looked 131 = .ok (.iconst 1, 1) := by decide +kernel
theorem dX12_looked_132 : decode cX12_looked 132 = .ok (.iadd, 1) := by decide +kernel
theorem dX12_looked_133 : decode cX12_looked 133 = .ok (.goto 4, 3) := by decide +kernel
theorem dX12_looked_136 : decode cX12_looked 136 = .ok (.iload_n 3, 1) := by decide +kernel
theorem dX12_looked_137 : decode cX12_looked 137 = .ok (.ireturn, 1) := by decide +kernel
set_option maxRecDepth 20000 in
theorem ggX12_way_X12_marks : GoodIn wsX12_way wsX12_marks := goodIn_r _ [6, 1, 7, 8, 9, 10, 11, 12, 13, 5, 14, 15, 16, 17, 18, 19, 20, 21, 22, 23, 24, 25, 26, 31, 32, 33, 34, 35, 36, 37, 38, 39, 40, 41, 42, 43, 44, 45, 46, 47, 48] rfl (by decide +kernel)
set_option maxRecDepth 20000 in
theorem gX12_way_X12_marks : GoodIn wsX12_way (wsV RX12 153 RX12 yX12_marks wsX12_marks) := goodIn_app (goodIn_of _ (by decide +kernel)) ggX12_way_X12_marks
set_option maxRecDepth 20000 in
theorem ggX12_way_X12_looked : GoodIn wsX12_way wsX12_looked := goodIn_r _ [30, 9, 23, 11, 12, 13, 5, 14, 15, 16, 17, 18, 19, 20, 21, 22, 10, 1, 7, 24, 25, 26, 31, 32, 33, 34, 35, 36, 37, 38, 39, 40, 41, 42, 43, 44, 45, 46, 47, 48] rfl (by decide +kernel)
set_option maxRecDepth 20000 in
theorem gX12_way_X12_looked : GoodIn wsX12_way (wsV RX12 156 RX12 yX12_looked wsX12_looked) := goodIn_app (goodIn_of _ (by decide +kernel)) ggX12_way_X12_looked
theorem dX12_way_0 : decode cX12_way 0 = .ok (.aload_n 0, 1) := by decide +kernel
theorem dX12_way_1 : decode cX12_way 1 = .ok (.invokevirtual 153, 3) := by decide +kernel
theorem dX12_way_4 : decode cX12_way 4 = .ok (.iconst 0, 1) := by decide +kernel
theorem dX12_way_5 : decode cX12_way 5 = .ok (.istore_n 3, 1) := by decide +kernel
theorem dX12_way_6 : decode cX12_way 6 = .ok (.sipush 1000, 3) := by decide +kernel
theorem dX12_way_9 : decode cX12_way 9 = .ok (.istore 4, 2) := by decide +kernel
theorem dX12_way_11 : decode cX12_way 11 = .ok (.sipush 500, 3) := by decide +kernel
theorem dX12_way_14 : decode cX12_way 14 = .ok (.istore 5, 2) := by decide +kernel
theorem dX12_way_16 : decode cX12_way 16 = .ok (.iconst 0, 1) := by decide +kernel
theorem dX12_way_17 : decode cX12_way 17 = .ok (.istore 6, 2) := by decide +kernel
theorem dX12_way_19 : decode cX12_way 19 = .ok (.iconst 0, 1) := by decide +kernel
theorem dX12_way_20 : decode cX12_way 20 = .ok (.istore 7, 2) := by decide +kernel
theorem dX12_way_22 : decode cX12_way 22 = .ok (.iload_n 3, 1) := by decide +kernel
theorem dX12_way_23 : decode cX12_way 23 = .ok (.iload 4, 2) := by decide +kernel
theorem dX12_way_25 : decode cX12_way 25 = .ok (.if_icmp .gt 82, 3) := by decide +kernel
theorem dX12_way_28 : decode cX12_way 28 = .ok (.aload_n 0, 1) := by decide +kernel
theorem dX12_way_29 : decode cX12_way 29 = .ok (.getfield 23, 3) := by decide +kernel
theorem dX12_way_32 : decode cX12_way 32 = .ok (.iload 5, 2) := by decide +kernel
theorem dX12_way_34 : decode cX12_way 34 = .ok (.baload, 1) := by decide +kernel
theorem dX12_way_35 : decode cX12_way 35 = .ok (.ifCond .eq 72, 3) := by decide +kernel
theorem dX12_way_38 : decode cX12_way 38 = .ok (.iinc 6 1, 3) := by decide +kernel
theorem dX12_way_41 : decode cX12_way 41 = .ok (.iload 7, 2) := by decide +kernel
theorem dX12_way_43 : decode cX12_way 43 = .ok (.iload_n 2, 1) := by decide +kernel
theorem dX12_way_44 : decode cX12_way 44 = .ok (.iconst 2, 1) := by decide +kernel
theorem dX12_way_45 : decode cX12_way 45 = .ok (.if_icmp .ne 13, 3) := by decide +kernel
theorem dX12_way_48 : decode cX12_way 48 = .ok (.aload_n 0, 1) := by decide +kernel
theorem dX12_way_49 : decode cX12_way 49 = .ok (.iload 5, 2) := by decide +kernel
theorem dX12_way_51 : decode cX12_way 51 = .ok (.iload_n 1, 1) := by decide +kernel
theorem dX12_way_52 : decode cX12_way 52 = .ok (.invokevirtual 156, 3) := by decide +kernel
theorem dX12_way_55 : decode cX12_way 55 = .ok (.goto 4, 3) := by decide +kernel
theorem dX12_way_58 : decode cX12_way 58 = .ok (.iconst 0, 1) := by decide +kernel
theorem dX12_way_59 : decode cX12_way 59 = .ok (.iadd, 1) := by decide +kernel
theorem dX12_way_60 : decode cX12_way 60 = .ok (.istore 7, 2) := by decide +kernel
theorem dX12_way_62 : decode cX12_way 62 = .ok (.iload_n 1, 1) := by decide +kernel
theorem dX12_way_63 : decode cX12_way 63 = .ok (.iload 5, 2) := by decide +kernel
theorem dX12_way_65 : decode cX12_way 65 = .ok (.if_icmp .ge 12, 3) := by decide +kernel
theorem dX12_way_68 : decode cX12_way 68 = .ok (.iload 5, 2) := by decide +kernel
theorem dX12_way_70 : decode cX12_way 70 = .ok (.iconst 1, 1) := by decide +kernel
theorem dX12_way_71 : decode cX12_way 71 = .ok (.isub, 1) := by decide +kernel
theorem dX12_way_72 : decode cX12_way 72 = .ok (.istore 4, 2) := by decide +kernel
theorem dX12_way_74 : decode cX12_way 74 = .ok (.goto 22, 3) := by decide +kernel
theorem dX12_way_77 : decode cX12_way 77 = .ok (.iload_n 1, 1) := by decide +kernel
theorem dX12_way_78 : decode cX12_way 78 = .ok (.iload 5, 2) := by decide +kernel
theorem dX12_way_80 : decode cX12_way 80 = .ok (.if_icmp .le 11, 3) := by decide +kernel
theorem dX12_way_83 : decode cX12_way 83 = .ok (.iload 5, 2) := by decide +kernel
theorem dX12_way_85 : decode cX12_way 85 = .ok (.iconst 1, 1) := by decide +kernel
theorem dX12_way_86 : decode cX12_way 86 = .ok (.iadd, 1) := by decide +kernel
theorem dX12_way_87 : decode cX12_way 87 = .ok (.istore_n 3, 1) := by decide +kernel
theorem dX12_way_88 : decode cX12_way 88 = .ok (.goto 8, 3) := by decide +kernel
theorem dX12_way_91 : decode cX12_way 91 = .ok (.iload_n 3, 1) := by decide +kernel
theorem dX12_way_92 : decode cX12_way 92 = .ok (.iconst 1, 1) := by decide +kernel
theorem dX12_way_93 : decode cX12_way 93 = .ok (.isub, 1) := by decide +kernel
theorem dX12_way_94 : decode cX12_way 94 = .ok (.istore 4, 2) := by decide +kernel
theorem dX12_way_96 : decode cX12_way 96 = .ok (.iload_n 3, 1) := by decide +kernel
theorem dX12_way_97 : decode cX12_way 97 = .ok (.iload 4, 2) := by decide +kernel
theorem dX12_way_99 : decode cX12_way 99 = .ok (.iadd, 1) := by decide +kernel
theorem dX12_way_100 : decode cX12_way 100 = .ok (.iconst 2, 1) := by decide +kernel
theorem dX12_way_101 : decode cX12_way 101 = .ok (.idiv, 1) := by decide +kernel
theorem dX12_way_102 : decode cX12_way 102 = .ok (.istore 5, 2) := by decide +kernel
theorem dX12_way_104 : decode cX12_way 104 = .ok (.goto (-82), 3) := by decide +kernel
theorem dX12_way_107 : decode cX12_way 107 = .ok (.iload_n 2, 1) := by decide +kernel
theorem dX12_way_108 : decode cX12_way 108 = .ok (.iconst 1, 1) := by decide +kernel
theorem dX12_way_109 : decode cX12_way 109 = .ok (.if_icmp .ne 8, 3) := by decide +kernel
theorem dX12_way_112 : decode cX12_way 112 = .ok (.iload 6, 2) := by decide +kernel
theorem dX12_way_114 : decode cX12_way 114 = .ok (.goto 5, 3) := by decide +kernel
